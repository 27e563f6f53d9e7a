set_option maxRecDepth 1000000 in
theorem law_feed {X : Nat × (Nat → Int32)} {INV INV2 : SM → Prop} (hX : ∀ s, INV s → s.2.2.2 = X) (h : S_feed INV INV2) {mc ms : Nat} {s : SM} (hs : INV s) {i : Int32} (hin1 : vp_in (i + (1 : Int32)) X.1) (hin2 : vp_in (i + (2 : Int32)) X.1) (hin3 : vp_in (i + (3 : Int32)) X.1) (hin4 : vp_in (i + (4 : Int32)) X.1) (hin5 : vp_in (i + (5 : Int32)) X.1) {QL : Option Value → JMem → Prop} (k : ∀ s', INV2 s' → JT ML_law 421 mc ms 1740 [(4, .int i), (3, .ref 278), (2, .ref 248), (1, .ref 2), (0, .ref 0)] [] (std s') QL) : JT ML_law 421 mc ms 244 [(4, .int i), (3, .ref 278), (2, .ref 248), (1, .ref 2), (0, .ref 0)] [] (std s) QL := by
  have hXs : mS (std s) = X := hX s hs
  have H := h s (X.2 (i + (1 : Int32)).toNatClampNeg) (X.2 (i + (2 : Int32)).toNatClampNeg) (X.2 (i + (3 : Int32)).toNatClampNeg) (X.2 (i + (4 : Int32)).toNatClampNeg) (X.2 (i + (5 : Int32)).toNatClampNeg) hs
  obtain ⟨hr1, hr2, hv, hI, hX1⟩ := H
  refine JT_aload_n (q := 3) dL_law_244 rfl rfl ?_
  refine JT_aload_n (q := 4) dL_law_245 rfl rfl ?_
  refine JT_iload (q := 0) dL_law_246 rfl ?_
  refine JT_iconst (v := 1) dL_law_248 (by decide) ?_
  refine JT_iadd dL_law_249 ?_
  refine JT_sld dL_law_250 (by rw [show mS (std s) = X from hXs]; exact hin1) ?_
  rw [show mS (std s) = X from hXs]
  refine JT_aload_n (q := 4) dL_law_251 rfl rfl ?_
  refine JT_iload (q := 0) dL_law_252 rfl ?_
  refine JT_iconst (v := 2) dL_law_254 (by decide) ?_
  refine JT_iadd dL_law_255 ?_
  refine JT_sld dL_law_256 (by rw [show mS (std s) = X from hXs]; exact hin2) ?_
  rw [show mS (std s) = X from hXs]
  refine JT_aload_n (q := 4) dL_law_257 rfl rfl ?_
  refine JT_iload (q := 0) dL_law_258 rfl ?_
  refine JT_iconst (v := 3) dL_law_260 (by decide) ?_
  refine JT_iadd dL_law_261 ?_
  refine JT_sld dL_law_262 (by rw [show mS (std s) = X from hXs]; exact hin3) ?_
  rw [show mS (std s) = X from hXs]
  refine JT_aload_n (q := 4) dL_law_263 rfl rfl ?_
  refine JT_iload (q := 0) dL_law_264 rfl ?_
  refine JT_iconst (v := 4) dL_law_266 (by decide) ?_
  refine JT_iadd dL_law_267 ?_
  refine JT_sld dL_law_268 (by rw [show mS (std s) = X from hXs]; exact hin4) ?_
  rw [show mS (std s) = X from hXs]
  refine JT_aload_n (q := 4) dL_law_269 rfl rfl ?_
  refine JT_iload (q := 0) dL_law_270 rfl ?_
  refine JT_iconst (v := 5) dL_law_272 (by decide) ?_
  refine JT_iadd dL_law_273 ?_
  refine JT_sld dL_law_274 (by rw [show mS (std s) = X from hXs]; exact hin5) ?_
  rw [show mS (std s) = X from hXs]
  refine JS_callVIm (M' := MX11_feed) (d' := 1) (As := [.int (X.2 (i + (1 : Int32)).toNatClampNeg), .int (X.2 (i + (2 : Int32)).toNatClampNeg), .int (X.2 (i + (3 : Int32)).toNatClampNeg), .int (X.2 (i + (4 : Int32)).toNatClampNeg), .int (X.2 (i + (5 : Int32)).toNatClampNeg)]) (rest := []) (P := fun z w => (vX11_feed s (X.2 (i + (1 : Int32)).toNatClampNeg) (X.2 (i + (2 : Int32)).toNatClampNeg) (X.2 (i + (3 : Int32)).toNatClampNeg) (X.2 (i + (4 : Int32)).toNatClampNeg) (X.2 (i + (5 : Int32)).toNatClampNeg)) = z ∧ (mX11_feed s (X.2 (i + (1 : Int32)).toNatClampNeg) (X.2 (i + (2 : Int32)).toNatClampNeg) (X.2 (i + (3 : Int32)).toNatClampNeg) (X.2 (i + (4 : Int32)).toNatClampNeg) (X.2 (i + (5 : Int32)).toNatClampNeg)) = w) dL_law_275 cvL_25 okX11_feed rfl (Nat.le_of_ble_eq_true rfl) BS_2 (Nat.le_of_ble_eq_true rfl) (Nat.le_of_ble_eq_true rfl) hci_11 (Nat.le_of_ble_eq_true rfl) (Nat.le_of_ble_eq_true rfl) (pX11_feed (X.2 (i + (1 : Int32)).toNatClampNeg) (X.2 (i + (2 : Int32)).toNatClampNeg) (X.2 (i + (3 : Int32)).toNatClampNeg) (X.2 (i + (4 : Int32)).toNatClampNeg) (X.2 (i + (5 : Int32)).toNatClampNeg) hr1 ⟨rfl, rfl⟩) (fun z w hq => ?_)
  obtain ⟨e1, e2⟩ := hq
  rw [← e1, ← e2]
  obtain ⟨vv, hvv⟩ : ∃ z, z = (vX11_feed s (X.2 (i + (1 : Int32)).toNatClampNeg) (X.2 (i + (2 : Int32)).toNatClampNeg) (X.2 (i + (3 : Int32)).toNatClampNeg) (X.2 (i + (4 : Int32)).toNatClampNeg) (X.2 (i + (5 : Int32)).toNatClampNeg)) := ⟨_, rfl⟩
  rw [← hvv]
  obtain ⟨sm, hsm⟩ : ∃ z, z = (mX11_feed s (X.2 (i + (1 : Int32)).toNatClampNeg) (X.2 (i + (2 : Int32)).toNatClampNeg) (X.2 (i + (3 : Int32)).toNatClampNeg) (X.2 (i + (4 : Int32)).toNatClampNeg) (X.2 (i + (5 : Int32)).toNatClampNeg)) := ⟨_, rfl⟩
  rw [← hsm]
  have hXm : mS (std sm) = X := by rw [hsm]; exact hX1.trans hXs
  refine JT_aload_n (q := 2) dL_law_278 rfl rfl ?_
  refine JT_aload_n (q := 4) dL_law_279 rfl rfl ?_
  refine JT_iload (q := 0) dL_law_280 rfl ?_
  refine JT_iconst (v := 1) dL_law_282 (by decide) ?_
  refine JT_iadd dL_law_283 ?_
  refine JT_sld dL_law_284 (by rw [show mS (std sm) = X from hXm]; exact hin1) ?_
  rw [show mS (std sm) = X from hXm]
  refine JT_aload_n (q := 4) dL_law_285 rfl rfl ?_
  refine JT_iload (q := 0) dL_law_286 rfl ?_
  refine JT_iconst (v := 2) dL_law_288 (by decide) ?_
  refine JT_iadd dL_law_289 ?_
  refine JT_sld dL_law_290 (by rw [show mS (std sm) = X from hXm]; exact hin2) ?_
  rw [show mS (std sm) = X from hXm]
  refine JT_aload_n (q := 4) dL_law_291 rfl rfl ?_
  refine JT_iload (q := 0) dL_law_292 rfl ?_
  refine JT_iconst (v := 3) dL_law_294 (by decide) ?_
  refine JT_iadd dL_law_295 ?_
  refine JT_sld dL_law_296 (by rw [show mS (std sm) = X from hXm]; exact hin3) ?_
  rw [show mS (std sm) = X from hXm]
  refine JT_aload_n (q := 4) dL_law_297 rfl rfl ?_
  refine JT_iload (q := 0) dL_law_298 rfl ?_
  refine JT_iconst (v := 4) dL_law_300 (by decide) ?_
  refine JT_iadd dL_law_301 ?_
  refine JT_sld dL_law_302 (by rw [show mS (std sm) = X from hXm]; exact hin4) ?_
  rw [show mS (std sm) = X from hXm]
  refine JT_aload_n (q := 4) dL_law_303 rfl rfl ?_
  refine JT_iload (q := 0) dL_law_304 rfl ?_
  refine JT_iconst (v := 5) dL_law_306 (by decide) ?_
  refine JT_iadd dL_law_307 ?_
  refine JT_sld dL_law_308 (by rw [show mS (std sm) = X from hXm]; exact hin5) ?_
  rw [show mS (std sm) = X from hXm]
  refine JS_callVIm (M' := MX12_feed) (d' := 1) (As := [.int (X.2 (i + (1 : Int32)).toNatClampNeg), .int (X.2 (i + (2 : Int32)).toNatClampNeg), .int (X.2 (i + (3 : Int32)).toNatClampNeg), .int (X.2 (i + (4 : Int32)).toNatClampNeg), .int (X.2 (i + (5 : Int32)).toNatClampNeg)]) (rest := [.int vv]) (P := fun z w => (vX12_feed sm (X.2 (i + (1 : Int32)).toNatClampNeg) (X.2 (i + (2 : Int32)).toNatClampNeg) (X.2 (i + (3 : Int32)).toNatClampNeg) (X.2 (i + (4 : Int32)).toNatClampNeg) (X.2 (i + (5 : Int32)).toNatClampNeg)) = z ∧ (mX12_feed sm (X.2 (i + (1 : Int32)).toNatClampNeg) (X.2 (i + (2 : Int32)).toNatClampNeg) (X.2 (i + (3 : Int32)).toNatClampNeg) (X.2 (i + (4 : Int32)).toNatClampNeg) (X.2 (i + (5 : Int32)).toNatClampNeg)) = w) dL_law_309 cvL_29 okX12_feed rfl (Nat.le_of_ble_eq_true rfl) BS_248 (Nat.le_of_ble_eq_true rfl) (Nat.le_of_ble_eq_true rfl) hci_12 (Nat.le_of_ble_eq_true rfl) (Nat.le_of_ble_eq_true rfl) (pX12_feed (X.2 (i + (1 : Int32)).toNatClampNeg) (X.2 (i + (2 : Int32)).toNatClampNeg) (X.2 (i + (3 : Int32)).toNatClampNeg) (X.2 (i + (4 : Int32)).toNatClampNeg) (X.2 (i + (5 : Int32)).toNatClampNeg) (by rw [hsm]; exact hr2) ⟨rfl, rfl⟩) (fun z w hq => ?_)
  obtain ⟨e1, e2⟩ := hq
  rw [hsm] at e1
  refine JT_icmp_eq (tgt := 1740) dL_law_312 (by decide) (fun _ => ?_) (fun hne => absurd (hvv.trans (hv.trans e1)) hne)
  rw [← e2, hsm]
  exact k _ hI
set_option maxRecDepth 1000000 in
theorem law_end {X : Nat × (Nat → Int32)} {INV INV2 : SM → Prop} (hX : ∀ s, INV s → s.2.2.2 = X) (h : S_end INV INV2) {mc ms : Nat} {s : SM} (hs : INV s) {i : Int32} (hin1 : vp_in (i + (1 : Int32)) X.1) (hin2 : vp_in (i + (2 : Int32)) X.1) (hin3 : vp_in (i + (3 : Int32)) X.1) (hin4 : vp_in (i + (4 : Int32)) X.1) (hin5 : vp_in (i + (5 : Int32)) X.1) {QL : Option Value → JMem → Prop} (k : ∀ s', INV2 s' → JT ML_law 421 mc ms 1740 [(4, .int i), (3, .ref 278), (2, .ref 248), (1, .ref 2), (0, .ref 0)] [] (std s') QL) : JT ML_law 421 mc ms 317 [(4, .int i), (3, .ref 278), (2, .ref 248), (1, .ref 2), (0, .ref 0)] [] (std s) QL := by
  have hXs : mS (std s) = X := hX s hs
  have H := h s (X.2 (i + (1 : Int32)).toNatClampNeg) hs
  obtain ⟨hv, hI, hX1⟩ := H
  refine JT_aload_n (q := 3) dL_law_317 rfl rfl ?_
  refine JT_aload_n (q := 4) dL_law_318 rfl rfl ?_
  refine JT_iload (q := 0) dL_law_319 rfl ?_
  refine JT_iconst (v := 1) dL_law_321 (by decide) ?_
  refine JT_iadd dL_law_322 ?_
  refine JT_sld dL_law_323 (by rw [show mS (std s) = X from hXs]; exact hin1) ?_
  rw [show mS (std s) = X from hXs]
  refine JS_callVIm (M' := MX11_end) (d' := 0) (As := [.int (X.2 (i + (1 : Int32)).toNatClampNeg)]) (rest := []) (P := fun z w => (vX11_end s (X.2 (i + (1 : Int32)).toNatClampNeg)) = z ∧ (mX11_end s (X.2 (i + (1 : Int32)).toNatClampNeg)) = w) dL_law_324 cvL_30 okX11_end rfl (Nat.le_of_ble_eq_true rfl) BS_2 (Nat.le_of_ble_eq_true rfl) (Nat.le_of_ble_eq_true rfl) hci_11 (Nat.le_of_ble_eq_true rfl) (Nat.le_of_ble_eq_true rfl) (pX11_end (X.2 (i + (1 : Int32)).toNatClampNeg) ⟨rfl, rfl⟩) (fun z w hq => ?_)
  obtain ⟨e1, e2⟩ := hq
  rw [← e1, ← e2]
  obtain ⟨vv, hvv⟩ : ∃ z, z = (vX11_end s (X.2 (i + (1 : Int32)).toNatClampNeg)) := ⟨_, rfl⟩
  rw [← hvv]
  obtain ⟨sm, hsm⟩ : ∃ z, z = (mX11_end s (X.2 (i + (1 : Int32)).toNatClampNeg)) := ⟨_, rfl⟩
  rw [← hsm]
  have hXm : mS (std sm) = X := by rw [hsm]; exact hX1.trans hXs
  refine JT_aload_n (q := 2) dL_law_327 rfl rfl ?_
  refine JT_aload_n (q := 4) dL_law_328 rfl rfl ?_
  refine JT_iload (q := 0) dL_law_329 rfl ?_
  refine JT_iconst (v := 1) dL_law_331 (by decide) ?_
  refine JT_iadd dL_law_332 ?_
  refine JT_sld dL_law_333 (by rw [show mS (std sm) = X from hXm]; exact hin1) ?_
  rw [show mS (std sm) = X from hXm]
  refine JS_callVIm (M' := MX12_end) (d' := 0) (As := [.int (X.2 (i + (1 : Int32)).toNatClampNeg)]) (rest := [.int vv]) (P := fun z w => (vX12_end sm (X.2 (i + (1 : Int32)).toNatClampNeg)) = z ∧ (mX12_end sm (X.2 (i + (1 : Int32)).toNatClampNeg)) = w) dL_law_334 cvL_34 okX12_end rfl (Nat.le_of_ble_eq_true rfl) BS_248 (Nat.le_of_ble_eq_true rfl) (Nat.le_of_ble_eq_true rfl) hci_12 (Nat.le_of_ble_eq_true rfl) (Nat.le_of_ble_eq_true rfl) (pX12_end (X.2 (i + (1 : Int32)).toNatClampNeg) ⟨rfl, rfl⟩) (fun z w hq => ?_)
  obtain ⟨e1, e2⟩ := hq
  rw [hsm] at e1
  refine JT_icmp_eq (tgt := 1740) dL_law_337 (by decide) (fun _ => ?_) (fun hne => absurd (hvv.trans (hv.trans e1)) hne)
  rw [← e2, hsm]
  exact k _ hI
set_option maxRecDepth 1000000 in
theorem law_port {X : Nat × (Nat → Int32)} {INV INV2 : SM → Prop} (hX : ∀ s, INV s → s.2.2.2 = X) (h : S_port INV INV2) {mc ms : Nat} {s : SM} (hs : INV s) {i : Int32} (hin1 : vp_in (i + (1 : Int32)) X.1) (hin2 : vp_in (i + (2 : Int32)) X.1) (hin3 : vp_in (i + (3 : Int32)) X.1) (hin4 : vp_in (i + (4 : Int32)) X.1) (hin5 : vp_in (i + (5 : Int32)) X.1) {QL : Option Value → JMem → Prop} (k : ∀ s', INV2 s' → JT ML_law 421 mc ms 1740 [(4, .int i), (3, .ref 278), (2, .ref 248), (1, .ref 2), (0, .ref 0)] [] (std s') QL) : JT ML_law 421 mc ms 342 [(4, .int i), (3, .ref 278), (2, .ref 248), (1, .ref 2), (0, .ref 0)] [] (std s) QL := by
  have hXs : mS (std s) = X := hX s hs
  have H := h s  hs
  obtain ⟨hr1, hr2, hv, hI, hX1⟩ := H
  refine JT_aload_n (q := 3) dL_law_342 rfl rfl ?_
  refine JS_callVIm (M' := MX11_port) (d' := 7) (As := []) (rest := []) (P := fun z w => (vX11_port s ) = z ∧ (mX11_port s ) = w) dL_law_343 cvL_35 okX11_port rfl (Nat.le_of_ble_eq_true rfl) BS_2 (Nat.le_of_ble_eq_true rfl) (Nat.le_of_ble_eq_true rfl) hci_11 (Nat.le_of_ble_eq_true rfl) (Nat.le_of_ble_eq_true rfl) (pX11_port  hr1 ⟨rfl, rfl⟩) (fun z w hq => ?_)
  obtain ⟨e1, e2⟩ := hq
  rw [← e1, ← e2]
  obtain ⟨vv, hvv⟩ : ∃ z, z = (vX11_port s ) := ⟨_, rfl⟩
  rw [← hvv]
  obtain ⟨sm, hsm⟩ : ∃ z, z = (mX11_port s ) := ⟨_, rfl⟩
  rw [← hsm]
  have hXm : mS (std sm) = X := by rw [hsm]; exact hX1.trans hXs
  refine JT_aload_n (q := 2) dL_law_346 rfl rfl ?_
  refine JS_callVIm (M' := MX12_port) (d' := 4) (As := []) (rest := [.int vv]) (P := fun z w => (vX12_port sm ) = z ∧ (mX12_port sm ) = w) dL_law_347 cvL_39 okX12_port rfl (Nat.le_of_ble_eq_true rfl) BS_248 (Nat.le_of_ble_eq_true rfl) (Nat.le_of_ble_eq_true rfl) hci_12 (Nat.le_of_ble_eq_true rfl) (Nat.le_of_ble_eq_true rfl) (pX12_port  (by rw [hsm]; exact hr2) ⟨rfl, rfl⟩) (fun z w hq => ?_)
  obtain ⟨e1, e2⟩ := hq
  rw [hsm] at e1
  refine JT_icmp_eq (tgt := 1740) dL_law_350 (by decide) (fun _ => ?_) (fun hne => absurd (hvv.trans (hv.trans e1)) hne)
  rw [← e2, hsm]
  exact k _ hI
set_option maxRecDepth 1000000 in
theorem law_fault {X : Nat × (Nat → Int32)} {INV INV2 : SM → Prop} (hX : ∀ s, INV s → s.2.2.2 = X) (h : S_fault INV INV2) {mc ms : Nat} {s : SM} (hs : INV s) {i : Int32} (hin1 : vp_in (i + (1 : Int32)) X.1) (hin2 : vp_in (i + (2 : Int32)) X.1) (hin3 : vp_in (i + (3 : Int32)) X.1) (hin4 : vp_in (i + (4 : Int32)) X.1) (hin5 : vp_in (i + (5 : Int32)) X.1) {QL : Option Value → JMem → Prop} (k : ∀ s', INV2 s' → JT ML_law 421 mc ms 1740 [(4, .int i), (3, .ref 278), (2, .ref 248), (1, .ref 2), (0, .ref 0)] [] (std s') QL) : JT ML_law 421 mc ms 355 [(4, .int i), (3, .ref 278), (2, .ref 248), (1, .ref 2), (0, .ref 0)] [] (std s) QL := by
  have hXs : mS (std s) = X := hX s hs
  have H := h s  hs
  obtain ⟨hv, hI⟩ := H
  refine JT_aload_n (q := 3) dL_law_355 rfl rfl ?_
  refine JS_callVIm (M' := MX11_fault) (d' := 0) (As := []) (rest := []) (P := fun z w => (vX11_fault s ) = z ∧ s = w) dL_law_356 cvL_40 okX11_fault rfl (Nat.le_of_ble_eq_true rfl) BS_2 (Nat.le_of_ble_eq_true rfl) (Nat.le_of_ble_eq_true rfl) hci_11 (Nat.le_of_ble_eq_true rfl) (Nat.le_of_ble_eq_true rfl) (pX11_fault  ⟨rfl, rfl⟩) (fun z w hq => ?_)
  obtain ⟨e1, e2⟩ := hq
  rw [← e1, ← e2]
  obtain ⟨vv, hvv⟩ : ∃ z, z = (vX11_fault s ) := ⟨_, rfl⟩
  rw [← hvv]
  obtain ⟨sm, hsm⟩ : ∃ z, z = s := ⟨_, rfl⟩
  rw [← hsm]
  have hXm : mS (std sm) = X := by rw [hsm]; exact hXs
  refine JT_aload_n (q := 2) dL_law_359 rfl rfl ?_
  refine JS_callVIm (M' := MX12_fault) (d' := 0) (As := []) (rest := [.int vv]) (P := fun z w => (vX12_fault sm ) = z ∧ (mX12_fault sm ) = w) dL_law_360 cvL_43 okX12_fault rfl (Nat.le_of_ble_eq_true rfl) BS_248 (Nat.le_of_ble_eq_true rfl) (Nat.le_of_ble_eq_true rfl) hci_12 (Nat.le_of_ble_eq_true rfl) (Nat.le_of_ble_eq_true rfl) (pX12_fault  ⟨rfl, rfl⟩) (fun z w hq => ?_)
  obtain ⟨e1, e2⟩ := hq
  rw [hsm] at e1
  refine JT_icmp_eq (tgt := 1740) dL_law_363 (by decide) (fun _ => ?_) (fun hne => absurd (hvv.trans (hv.trans e1)) hne)
  rw [← e2, hsm]
  exact k _ hI
set_option maxRecDepth 1000000 in
theorem law_read {X : Nat × (Nat → Int32)} {INV INV2 : SM → Prop} (hX : ∀ s, INV s → s.2.2.2 = X) (h : S_read INV INV2) {mc ms : Nat} {s : SM} (hs : INV s) {i : Int32} (hin1 : vp_in (i + (1 : Int32)) X.1) (hin2 : vp_in (i + (2 : Int32)) X.1) (hin3 : vp_in (i + (3 : Int32)) X.1) (hin4 : vp_in (i + (4 : Int32)) X.1) (hin5 : vp_in (i + (5 : Int32)) X.1) {QL : Option Value → JMem → Prop} (k : ∀ s', INV2 s' → JT ML_law 421 mc ms 1740 [(4, .int i), (3, .ref 278), (2, .ref 248), (1, .ref 2), (0, .ref 0)] [] (std s') QL) : JT ML_law 421 mc ms 572 [(4, .int i), (3, .ref 278), (2, .ref 248), (1, .ref 2), (0, .ref 0)] [] (std s) QL := by
  have hXs : mS (std s) = X := hX s hs
  have H := h s (X.2 (i + (1 : Int32)).toNatClampNeg) (X.2 (i + (2 : Int32)).toNatClampNeg) hs
  obtain ⟨hr1, hr2, hv, hI⟩ := H
  refine JT_aload_n (q := 3) dL_law_572 rfl rfl ?_
  refine JT_aload_n (q := 4) dL_law_573 rfl rfl ?_
  refine JT_iload (q := 0) dL_law_574 rfl ?_
  refine JT_iconst (v := 1) dL_law_576 (by decide) ?_
  refine JT_iadd dL_law_577 ?_
  refine JT_sld dL_law_578 (by rw [show mS (std s) = X from hXs]; exact hin1) ?_
  rw [show mS (std s) = X from hXs]
  refine JT_aload_n (q := 4) dL_law_579 rfl rfl ?_
  refine JT_iload (q := 0) dL_law_580 rfl ?_
  refine JT_iconst (v := 2) dL_law_582 (by decide) ?_
  refine JT_iadd dL_law_583 ?_
  refine JT_sld dL_law_584 (by rw [show mS (std s) = X from hXs]; exact hin2) ?_
  rw [show mS (std s) = X from hXs]
  refine JS_callVIm (M' := MX11_read) (d' := 3) (As := [.int (X.2 (i + (1 : Int32)).toNatClampNeg), .int (X.2 (i + (2 : Int32)).toNatClampNeg)]) (rest := []) (P := fun z w => (vX11_read s (X.2 (i + (1 : Int32)).toNatClampNeg) (X.2 (i + (2 : Int32)).toNatClampNeg)) = z ∧ s = w) dL_law_585 cvL_59 okX11_read rfl (Nat.le_of_ble_eq_true rfl) BS_2 (Nat.le_of_ble_eq_true rfl) (Nat.le_of_ble_eq_true rfl) hci_11 (Nat.le_of_ble_eq_true rfl) (Nat.le_of_ble_eq_true rfl) (pX11_read (X.2 (i + (1 : Int32)).toNatClampNeg) (X.2 (i + (2 : Int32)).toNatClampNeg) hr1 ⟨rfl, rfl⟩) (fun z w hq => ?_)
  obtain ⟨e1, e2⟩ := hq
  rw [← e1, ← e2]
  obtain ⟨vv, hvv⟩ : ∃ z, z = (vX11_read s (X.2 (i + (1 : Int32)).toNatClampNeg) (X.2 (i + (2 : Int32)).toNatClampNeg)) := ⟨_, rfl⟩
  rw [← hvv]
  obtain ⟨sm, hsm⟩ : ∃ z, z = s := ⟨_, rfl⟩
  rw [← hsm]
  have hXm : mS (std sm) = X := by rw [hsm]; exact hXs
  refine JT_aload_n (q := 2) dL_law_588 rfl rfl ?_
  refine JT_aload_n (q := 4) dL_law_589 rfl rfl ?_
  refine JT_iload (q := 0) dL_law_590 rfl ?_
  refine JT_iconst (v := 1) dL_law_592 (by decide) ?_
  refine JT_iadd dL_law_593 ?_
  refine JT_sld dL_law_594 (by rw [show mS (std sm) = X from hXm]; exact hin1) ?_
  rw [show mS (std sm) = X from hXm]
  refine JT_aload_n (q := 4) dL_law_595 rfl rfl ?_
  refine JT_iload (q := 0) dL_law_596 rfl ?_
  refine JT_iconst (v := 2) dL_law_598 (by decide) ?_
  refine JT_iadd dL_law_599 ?_
  refine JT_sld dL_law_600 (by rw [show mS (std sm) = X from hXm]; exact hin2) ?_
  rw [show mS (std sm) = X from hXm]
  refine JS_callVIm (M' := MX12_read) (d' := 2) (As := [.int (X.2 (i + (1 : Int32)).toNatClampNeg), .int (X.2 (i + (2 : Int32)).toNatClampNeg)]) (rest := [.int vv]) (P := fun z w => (vX12_read sm (X.2 (i + (1 : Int32)).toNatClampNeg) (X.2 (i + (2 : Int32)).toNatClampNeg)) = z ∧ (mX12_read sm (X.2 (i + (1 : Int32)).toNatClampNeg) (X.2 (i + (2 : Int32)).toNatClampNeg)) = w) dL_law_601 cvL_62 okX12_read rfl (Nat.le_of_ble_eq_true rfl) BS_248 (Nat.le_of_ble_eq_true rfl) (Nat.le_of_ble_eq_true rfl) hci_12 (Nat.le_of_ble_eq_true rfl) (Nat.le_of_ble_eq_true rfl) (pX12_read (X.2 (i + (1 : Int32)).toNatClampNeg) (X.2 (i + (2 : Int32)).toNatClampNeg) (by rw [hsm]; exact hr2) ⟨rfl, rfl⟩) (fun z w hq => ?_)
  obtain ⟨e1, e2⟩ := hq
  rw [hsm] at e1
  refine JT_icmp_eq (tgt := 1740) dL_law_604 (by decide) (fun _ => ?_) (fun hne => absurd (hvv.trans (hv.trans e1)) hne)
  rw [← e2, hsm]
  exact k _ hI
set_option maxRecDepth 1000000 in
theorem law_mark {X : Nat × (Nat → Int32)} {INV INV2 : SM → Prop} (hX : ∀ s, INV s → s.2.2.2 = X) (h : S_mark INV INV2) {mc ms : Nat} {s : SM} (hs : INV s) {i : Int32} (hin1 : vp_in (i + (1 : Int32)) X.1) (hin2 : vp_in (i + (2 : Int32)) X.1) (hin3 : vp_in (i + (3 : Int32)) X.1) (hin4 : vp_in (i + (4 : Int32)) X.1) (hin5 : vp_in (i + (5 : Int32)) X.1) {QL : Option Value → JMem → Prop} (k : ∀ s', INV2 s' → JT ML_law 421 mc ms 1740 [(4, .int i), (3, .ref 278), (2, .ref 248), (1, .ref 2), (0, .ref 0)] [] (std s') QL) : JT ML_law 421 mc ms 609 [(4, .int i), (3, .ref 278), (2, .ref 248), (1, .ref 2), (0, .ref 0)] [] (std s) QL := by
  have hXs : mS (std s) = X := hX s hs
  have H := h s (X.2 (i + (1 : Int32)).toNatClampNeg) (X.2 (i + (2 : Int32)).toNatClampNeg) hs
  obtain ⟨hr1, hr2, hv, hI⟩ := H
  refine JT_aload_n (q := 3) dL_law_609 rfl rfl ?_
  refine JT_aload_n (q := 4) dL_law_610 rfl rfl ?_
  refine JT_iload (q := 0) dL_law_611 rfl ?_
  refine JT_iconst (v := 1) dL_law_613 (by decide) ?_
  refine JT_iadd dL_law_614 ?_
  refine JT_sld dL_law_615 (by rw [show mS (std s) = X from hXs]; exact hin1) ?_
  rw [show mS (std s) = X from hXs]
  refine JT_aload_n (q := 4) dL_law_616 rfl rfl ?_
  refine JT_iload (q := 0) dL_law_617 rfl ?_
  refine JT_iconst (v := 2) dL_law_619 (by decide) ?_
  refine JT_iadd dL_law_620 ?_
  refine JT_sld dL_law_621 (by rw [show mS (std s) = X from hXs]; exact hin2) ?_
  rw [show mS (std s) = X from hXs]
  refine JS_callVIm (M' := MX11_mark) (d' := 1) (As := [.int (X.2 (i + (1 : Int32)).toNatClampNeg), .int (X.2 (i + (2 : Int32)).toNatClampNeg)]) (rest := []) (P := fun z w => (vX11_mark s (X.2 (i + (1 : Int32)).toNatClampNeg) (X.2 (i + (2 : Int32)).toNatClampNeg)) = z ∧ s = w) dL_law_622 cvL_63 okX11_mark rfl (Nat.le_of_ble_eq_true rfl) BS_2 (Nat.le_of_ble_eq_true rfl) (Nat.le_of_ble_eq_true rfl) hci_11 (Nat.le_of_ble_eq_true rfl) (Nat.le_of_ble_eq_true rfl) (pX11_mark (X.2 (i + (1 : Int32)).toNatClampNeg) (X.2 (i + (2 : Int32)).toNatClampNeg) hr1 ⟨rfl, rfl⟩) (fun z w hq => ?_)
  obtain ⟨e1, e2⟩ := hq
  rw [← e1, ← e2]
  obtain ⟨vv, hvv⟩ : ∃ z, z = (vX11_mark s (X.2 (i + (1 : Int32)).toNatClampNeg) (X.2 (i + (2 : Int32)).toNatClampNeg)) := ⟨_, rfl⟩
  rw [← hvv]
  obtain ⟨sm, hsm⟩ : ∃ z, z = s := ⟨_, rfl⟩
  rw [← hsm]
  have hXm : mS (std sm) = X := by rw [hsm]; exact hXs
  refine JT_aload_n (q := 2) dL_law_625 rfl rfl ?_
  refine JT_aload_n (q := 4) dL_law_626 rfl rfl ?_
  refine JT_iload (q := 0) dL_law_627 rfl ?_
  refine JT_iconst (v := 1) dL_law_629 (by decide) ?_
  refine JT_iadd dL_law_630 ?_
  refine JT_sld dL_law_631 (by rw [show mS (std sm) = X from hXm]; exact hin1) ?_
  rw [show mS (std sm) = X from hXm]
  refine JT_aload_n (q := 4) dL_law_632 rfl rfl ?_
  refine JT_iload (q := 0) dL_law_633 rfl ?_
  refine JT_iconst (v := 2) dL_law_635 (by decide) ?_
  refine JT_iadd dL_law_636 ?_
  refine JT_sld dL_law_637 (by rw [show mS (std sm) = X from hXm]; exact hin2) ?_
  rw [show mS (std sm) = X from hXm]
  refine JS_callVIm (M' := MX12_mark) (d' := 2) (As := [.int (X.2 (i + (1 : Int32)).toNatClampNeg), .int (X.2 (i + (2 : Int32)).toNatClampNeg)]) (rest := [.int vv]) (P := fun z w => (vX12_mark sm (X.2 (i + (1 : Int32)).toNatClampNeg) (X.2 (i + (2 : Int32)).toNatClampNeg)) = z ∧ (mX12_mark sm (X.2 (i + (1 : Int32)).toNatClampNeg) (X.2 (i + (2 : Int32)).toNatClampNeg)) = w) dL_law_638 cvL_66 okX12_mark rfl (Nat.le_of_ble_eq_true rfl) BS_248 (Nat.le_of_ble_eq_true rfl) (Nat.le_of_ble_eq_true rfl) hci_12 (Nat.le_of_ble_eq_true rfl) (Nat.le_of_ble_eq_true rfl) (pX12_mark (X.2 (i + (1 : Int32)).toNatClampNeg) (X.2 (i + (2 : Int32)).toNatClampNeg) (by rw [hsm]; exact hr2) ⟨rfl, rfl⟩) (fun z w hq => ?_)
  obtain ⟨e1, e2⟩ := hq
  rw [hsm] at e1
  refine JT_icmp_eq (tgt := 1740) dL_law_641 (by decide) (fun _ => ?_) (fun hne => absurd (hvv.trans (hv.trans e1)) hne)
  rw [← e2, hsm]
  exact k _ hI
set_option maxRecDepth 1000000 in
theorem law_write {X : Nat × (Nat → Int32)} {INV INV2 : SM → Prop} (hX : ∀ s, INV s → s.2.2.2 = X) (h : S_write INV INV2) {mc ms : Nat} {s : SM} (hs : INV s) {i : Int32} (hin1 : vp_in (i + (1 : Int32)) X.1) (hin2 : vp_in (i + (2 : Int32)) X.1) (hin3 : vp_in (i + (3 : Int32)) X.1) (hin4 : vp_in (i + (4 : Int32)) X.1) (hin5 : vp_in (i + (5 : Int32)) X.1) {QL : Option Value → JMem → Prop} (k : ∀ s', INV2 s' → JT ML_law 421 mc ms 1740 [(4, .int i), (3, .ref 278), (2, .ref 248), (1, .ref 2), (0, .ref 0)] [] (std s') QL) : JT ML_law 421 mc ms 646 [(4, .int i), (3, .ref 278), (2, .ref 248), (1, .ref 2), (0, .ref 0)] [] (std s) QL := by
  have hXs : mS (std s) = X := hX s hs
  have H := h s (X.2 (i + (1 : Int32)).toNatClampNeg) (X.2 (i + (2 : Int32)).toNatClampNeg) (X.2 (i + (3 : Int32)).toNatClampNeg) (X.2 (i + (4 : Int32)).toNatClampNeg) hs
  obtain ⟨hr1, hr2, hv, hI, hX1⟩ := H
  refine JT_aload_n (q := 3) dL_law_646 rfl rfl ?_
  refine JT_aload_n (q := 4) dL_law_647 rfl rfl ?_
  refine JT_iload (q := 0) dL_law_648 rfl ?_
  refine JT_iconst (v := 1) dL_law_650 (by decide) ?_
  refine JT_iadd dL_law_651 ?_
  refine JT_sld dL_law_652 (by rw [show mS (std s) = X from hXs]; exact hin1) ?_
  rw [show mS (std s) = X from hXs]
  refine JT_aload_n (q := 4) dL_law_653 rfl rfl ?_
  refine JT_iload (q := 0) dL_law_654 rfl ?_
  refine JT_iconst (v := 2) dL_law_656 (by decide) ?_
  refine JT_iadd dL_law_657 ?_
  refine JT_sld dL_law_658 (by rw [show mS (std s) = X from hXs]; exact hin2) ?_
  rw [show mS (std s) = X from hXs]
  refine JT_aload_n (q := 4) dL_law_659 rfl rfl ?_
  refine JT_iload (q := 0) dL_law_660 rfl ?_
  refine JT_iconst (v := 3) dL_law_662 (by decide) ?_
  refine JT_iadd dL_law_663 ?_
  refine JT_sld dL_law_664 (by rw [show mS (std s) = X from hXs]; exact hin3) ?_
  rw [show mS (std s) = X from hXs]
  refine JT_aload_n (q := 4) dL_law_665 rfl rfl ?_
  refine JT_iload (q := 0) dL_law_666 rfl ?_
  refine JT_iconst (v := 4) dL_law_668 (by decide) ?_
  refine JT_iadd dL_law_669 ?_
  refine JT_sld dL_law_670 (by rw [show mS (std s) = X from hXs]; exact hin4) ?_
  rw [show mS (std s) = X from hXs]
  refine JS_callVIm (M' := MX11_write) (d' := 5) (As := [.int (X.2 (i + (1 : Int32)).toNatClampNeg), .int (X.2 (i + (2 : Int32)).toNatClampNeg), .int (X.2 (i + (3 : Int32)).toNatClampNeg), .int (X.2 (i + (4 : Int32)).toNatClampNeg)]) (rest := []) (P := fun z w => (vX11_write s (X.2 (i + (1 : Int32)).toNatClampNeg) (X.2 (i + (2 : Int32)).toNatClampNeg) (X.2 (i + (3 : Int32)).toNatClampNeg) (X.2 (i + (4 : Int32)).toNatClampNeg)) = z ∧ (mX11_write s (X.2 (i + (1 : Int32)).toNatClampNeg) (X.2 (i + (2 : Int32)).toNatClampNeg) (X.2 (i + (3 : Int32)).toNatClampNeg) (X.2 (i + (4 : Int32)).toNatClampNeg)) = w) dL_law_671 cvL_67 okX11_write rfl (Nat.le_of_ble_eq_true rfl) BS_2 (Nat.le_of_ble_eq_true rfl) (Nat.le_of_ble_eq_true rfl) hci_11 (Nat.le_of_ble_eq_true rfl) (Nat.le_of_ble_eq_true rfl) (pX11_write (X.2 (i + (1 : Int32)).toNatClampNeg) (X.2 (i + (2 : Int32)).toNatClampNeg) (X.2 (i + (3 : Int32)).toNatClampNeg) (X.2 (i + (4 : Int32)).toNatClampNeg) hr1 ⟨rfl, rfl⟩) (fun z w hq => ?_)
  obtain ⟨e1, e2⟩ := hq
  rw [← e1, ← e2]
  obtain ⟨vv, hvv⟩ : ∃ z, z = (vX11_write s (X.2 (i + (1 : Int32)).toNatClampNeg) (X.2 (i + (2 : Int32)).toNatClampNeg) (X.2 (i + (3 : Int32)).toNatClampNeg) (X.2 (i + (4 : Int32)).toNatClampNeg)) := ⟨_, rfl⟩
  rw [← hvv]
  obtain ⟨sm, hsm⟩ : ∃ z, z = (mX11_write s (X.2 (i + (1 : Int32)).toNatClampNeg) (X.2 (i + (2 : Int32)).toNatClampNeg) (X.2 (i + (3 : Int32)).toNatClampNeg) (X.2 (i + (4 : Int32)).toNatClampNeg)) := ⟨_, rfl⟩
  rw [← hsm]
  have hXm : mS (std sm) = X := by rw [hsm]; exact hX1.trans hXs
  refine JT_aload_n (q := 2) dL_law_674 rfl rfl ?_
  refine JT_aload_n (q := 4) dL_law_675 rfl rfl ?_
  refine JT_iload (q := 0) dL_law_676 rfl ?_
  refine JT_iconst (v := 1) dL_law_678 (by decide) ?_
  refine JT_iadd dL_law_679 ?_
  refine JT_sld dL_law_680 (by rw [show mS (std sm) = X from hXm]; exact hin1) ?_
  rw [show mS (std sm) = X from hXm]
  refine JT_aload_n (q := 4) dL_law_681 rfl rfl ?_
  refine JT_iload (q := 0) dL_law_682 rfl ?_
  refine JT_iconst (v := 2) dL_law_684 (by decide) ?_
  refine JT_iadd dL_law_685 ?_
  refine JT_sld dL_law_686 (by rw [show mS (std sm) = X from hXm]; exact hin2) ?_
  rw [show mS (std sm) = X from hXm]
  refine JT_aload_n (q := 4) dL_law_687 rfl rfl ?_
  refine JT_iload (q := 0) dL_law_688 rfl ?_
  refine JT_iconst (v := 3) dL_law_690 (by decide) ?_
  refine JT_iadd dL_law_691 ?_
  refine JT_sld dL_law_692 (by rw [show mS (std sm) = X from hXm]; exact hin3) ?_
  rw [show mS (std sm) = X from hXm]
  refine JT_aload_n (q := 4) dL_law_693 rfl rfl ?_
  refine JT_iload (q := 0) dL_law_694 rfl ?_
  refine JT_iconst (v := 4) dL_law_696 (by decide) ?_
  refine JT_iadd dL_law_697 ?_
  refine JT_sld dL_law_698 (by rw [show mS (std sm) = X from hXm]; exact hin4) ?_
  rw [show mS (std sm) = X from hXm]
  refine JS_callVIm (M' := MX12_write) (d' := 5) (As := [.int (X.2 (i + (1 : Int32)).toNatClampNeg), .int (X.2 (i + (2 : Int32)).toNatClampNeg), .int (X.2 (i + (3 : Int32)).toNatClampNeg), .int (X.2 (i + (4 : Int32)).toNatClampNeg)]) (rest := [.int vv]) (P := fun z w => (vX12_write sm (X.2 (i + (1 : Int32)).toNatClampNeg) (X.2 (i + (2 : Int32)).toNatClampNeg) (X.2 (i + (3 : Int32)).toNatClampNeg) (X.2 (i + (4 : Int32)).toNatClampNeg)) = z ∧ (mX12_write sm (X.2 (i + (1 : Int32)).toNatClampNeg) (X.2 (i + (2 : Int32)).toNatClampNeg) (X.2 (i + (3 : Int32)).toNatClampNeg) (X.2 (i + (4 : Int32)).toNatClampNeg)) = w) dL_law_699 cvL_71 okX12_write rfl (Nat.le_of_ble_eq_true rfl) BS_248 (Nat.le_of_ble_eq_true rfl) (Nat.le_of_ble_eq_true rfl) hci_12 (Nat.le_of_ble_eq_true rfl) (Nat.le_of_ble_eq_true rfl) (pX12_write (X.2 (i + (1 : Int32)).toNatClampNeg) (X.2 (i + (2 : Int32)).toNatClampNeg) (X.2 (i + (3 : Int32)).toNatClampNeg) (X.2 (i + (4 : Int32)).toNatClampNeg) (by rw [hsm]; exact hr2) ⟨rfl, rfl⟩) (fun z w hq => ?_)
  obtain ⟨e1, e2⟩ := hq
  rw [hsm] at e1
  refine JT_icmp_eq (tgt := 1740) dL_law_702 (by decide) (fun _ => ?_) (fun hne => absurd (hvv.trans (hv.trans e1)) hne)
  rw [← e2, hsm]
  exact k _ hI
set_option maxRecDepth 1000000 in
theorem law_strike {X : Nat × (Nat → Int32)} {INV INV2 : SM → Prop} (hX : ∀ s, INV s → s.2.2.2 = X) (h : S_strike INV INV2) {mc ms : Nat} {s : SM} (hs : INV s) {i : Int32} (hin1 : vp_in (i + (1 : Int32)) X.1) (hin2 : vp_in (i + (2 : Int32)) X.1) (hin3 : vp_in (i + (3 : Int32)) X.1) (hin4 : vp_in (i + (4 : Int32)) X.1) (hin5 : vp_in (i + (5 : Int32)) X.1) {QL : Option Value → JMem → Prop} (k : ∀ s', INV2 s' → JT ML_law 421 mc ms 1740 [(4, .int i), (3, .ref 278), (2, .ref 248), (1, .ref 2), (0, .ref 0)] [] (std s') QL) : JT ML_law 421 mc ms 707 [(4, .int i), (3, .ref 278), (2, .ref 248), (1, .ref 2), (0, .ref 0)] [] (std s) QL := by
  have hXs : mS (std s) = X := hX s hs
  have H := h s (X.2 (i + (1 : Int32)).toNatClampNeg) hs
  obtain ⟨hr1, hr2, hv, hI, hX1⟩ := H
  refine JT_aload_n (q := 3) dL_law_707 rfl rfl ?_
  refine JT_aload_n (q := 4) dL_law_708 rfl rfl ?_
  refine JT_iload (q := 0) dL_law_709 rfl ?_
  refine JT_iconst (v := 1) dL_law_711 (by decide) ?_
  refine JT_iadd dL_law_712 ?_
  refine JT_sld dL_law_713 (by rw [show mS (std s) = X from hXs]; exact hin1) ?_
  rw [show mS (std s) = X from hXs]
  refine JS_callVIm (M' := MX11_strike) (d' := 4) (As := [.int (X.2 (i + (1 : Int32)).toNatClampNeg)]) (rest := []) (P := fun z w => (vX11_strike s (X.2 (i + (1 : Int32)).toNatClampNeg)) = z ∧ (mX11_strike s (X.2 (i + (1 : Int32)).toNatClampNeg)) = w) dL_law_714 cvL_72 okX11_strike rfl (Nat.le_of_ble_eq_true rfl) BS_2 (Nat.le_of_ble_eq_true rfl) (Nat.le_of_ble_eq_true rfl) hci_11 (Nat.le_of_ble_eq_true rfl) (Nat.le_of_ble_eq_true rfl) (pX11_strike (X.2 (i + (1 : Int32)).toNatClampNeg) hr1 ⟨rfl, rfl⟩) (fun z w hq => ?_)
  obtain ⟨e1, e2⟩ := hq
  rw [← e1, ← e2]
  obtain ⟨vv, hvv⟩ : ∃ z, z = (vX11_strike s (X.2 (i + (1 : Int32)).toNatClampNeg)) := ⟨_, rfl⟩
  rw [← hvv]
  obtain ⟨sm, hsm⟩ : ∃ z, z = (mX11_strike s (X.2 (i + (1 : Int32)).toNatClampNeg)) := ⟨_, rfl⟩
  rw [← hsm]
  have hXm : mS (std sm) = X := by rw [hsm]; exact hX1.trans hXs
  refine JT_aload_n (q := 2) dL_law_717 rfl rfl ?_
  refine JT_aload_n (q := 4) dL_law_718 rfl rfl ?_
  refine JT_iload (q := 0) dL_law_719 rfl ?_
  refine JT_iconst (v := 1) dL_law_721 (by decide) ?_
  refine JT_iadd dL_law_722 ?_
  refine JT_sld dL_law_723 (by rw [show mS (std sm) = X from hXm]; exact hin1) ?_
  rw [show mS (std sm) = X from hXm]
  refine JS_callVIm (M' := MX12_strike) (d' := 4) (As := [.int (X.2 (i + (1 : Int32)).toNatClampNeg)]) (rest := [.int vv]) (P := fun z w => (vX12_strike sm (X.2 (i + (1 : Int32)).toNatClampNeg)) = z ∧ (mX12_strike sm (X.2 (i + (1 : Int32)).toNatClampNeg)) = w) dL_law_724 cvL_76 okX12_strike rfl (Nat.le_of_ble_eq_true rfl) BS_248 (Nat.le_of_ble_eq_true rfl) (Nat.le_of_ble_eq_true rfl) hci_12 (Nat.le_of_ble_eq_true rfl) (Nat.le_of_ble_eq_true rfl) (pX12_strike (X.2 (i + (1 : Int32)).toNatClampNeg) (by rw [hsm]; exact hr2) ⟨rfl, rfl⟩) (fun z w hq => ?_)
  obtain ⟨e1, e2⟩ := hq
  rw [hsm] at e1
  refine JT_icmp_eq (tgt := 1740) dL_law_727 (by decide) (fun _ => ?_) (fun hne => absurd (hvv.trans (hv.trans e1)) hne)
  rw [← e2, hsm]
  exact k _ hI
set_option maxRecDepth 1000000 in
theorem law_scar {X : Nat × (Nat → Int32)} {INV INV2 : SM → Prop} (hX : ∀ s, INV s → s.2.2.2 = X) (h : S_scar INV INV2) {mc ms : Nat} {s : SM} (hs : INV s) {i : Int32} (hin1 : vp_in (i + (1 : Int32)) X.1) (hin2 : vp_in (i + (2 : Int32)) X.1) (hin3 : vp_in (i + (3 : Int32)) X.1) (hin4 : vp_in (i + (4 : Int32)) X.1) (hin5 : vp_in (i + (5 : Int32)) X.1) {QL : Option Value → JMem → Prop} (k : ∀ s', INV2 s' → JT ML_law 421 mc ms 1740 [(4, .int i), (3, .ref 278), (2, .ref 248), (1, .ref 2), (0, .ref 0)] [] (std s') QL) : JT ML_law 421 mc ms 732 [(4, .int i), (3, .ref 278), (2, .ref 248), (1, .ref 2), (0, .ref 0)] [] (std s) QL := by
  have hXs : mS (std s) = X := hX s hs
  have H := h s (X.2 (i + (1 : Int32)).toNatClampNeg) (X.2 (i + (2 : Int32)).toNatClampNeg) hs
  obtain ⟨hr1, hr2, hv, hI, hX1⟩ := H
  refine JT_aload_n (q := 3) dL_law_732 rfl rfl ?_
  refine JT_aload_n (q := 4) dL_law_733 rfl rfl ?_
  refine JT_iload (q := 0) dL_law_734 rfl ?_
  refine JT_iconst (v := 1) dL_law_736 (by decide) ?_
  refine JT_iadd dL_law_737 ?_
  refine JT_sld dL_law_738 (by rw [show mS (std s) = X from hXs]; exact hin1) ?_
  rw [show mS (std s) = X from hXs]
  refine JT_aload_n (q := 4) dL_law_739 rfl rfl ?_
  refine JT_iload (q := 0) dL_law_740 rfl ?_
  refine JT_iconst (v := 2) dL_law_742 (by decide) ?_
  refine JT_iadd dL_law_743 ?_
  refine JT_sld dL_law_744 (by rw [show mS (std s) = X from hXs]; exact hin2) ?_
  rw [show mS (std s) = X from hXs]
  refine JS_callVIm (M' := MX11_scar) (d' := 4) (As := [.int (X.2 (i + (1 : Int32)).toNatClampNeg), .int (X.2 (i + (2 : Int32)).toNatClampNeg)]) (rest := []) (P := fun z w => (vX11_scar s (X.2 (i + (1 : Int32)).toNatClampNeg) (X.2 (i + (2 : Int32)).toNatClampNeg)) = z ∧ (mX11_scar s (X.2 (i + (1 : Int32)).toNatClampNeg) (X.2 (i + (2 : Int32)).toNatClampNeg)) = w) dL_law_745 cvL_77 okX11_scar rfl (Nat.le_of_ble_eq_true rfl) BS_2 (Nat.le_of_ble_eq_true rfl) (Nat.le_of_ble_eq_true rfl) hci_11 (Nat.le_of_ble_eq_true rfl) (Nat.le_of_ble_eq_true rfl) (pX11_scar (X.2 (i + (1 : Int32)).toNatClampNeg) (X.2 (i + (2 : Int32)).toNatClampNeg) hr1 ⟨rfl, rfl⟩) (fun z w hq => ?_)
  obtain ⟨e1, e2⟩ := hq
  rw [← e1, ← e2]
  obtain ⟨vv, hvv⟩ : ∃ z, z = (vX11_scar s (X.2 (i + (1 : Int32)).toNatClampNeg) (X.2 (i + (2 : Int32)).toNatClampNeg)) := ⟨_, rfl⟩
  rw [← hvv]
  obtain ⟨sm, hsm⟩ : ∃ z, z = (mX11_scar s (X.2 (i + (1 : Int32)).toNatClampNeg) (X.2 (i + (2 : Int32)).toNatClampNeg)) := ⟨_, rfl⟩
  rw [← hsm]
  have hXm : mS (std sm) = X := by rw [hsm]; exact hX1.trans hXs
  refine JT_aload_n (q := 2) dL_law_748 rfl rfl ?_
  refine JT_aload_n (q := 4) dL_law_749 rfl rfl ?_
  refine JT_iload (q := 0) dL_law_750 rfl ?_
  refine JT_iconst (v := 1) dL_law_752 (by decide) ?_
  refine JT_iadd dL_law_753 ?_
  refine JT_sld dL_law_754 (by rw [show mS (std sm) = X from hXm]; exact hin1) ?_
  rw [show mS (std sm) = X from hXm]
  refine JT_aload_n (q := 4) dL_law_755 rfl rfl ?_
  refine JT_iload (q := 0) dL_law_756 rfl ?_
  refine JT_iconst (v := 2) dL_law_758 (by decide) ?_
  refine JT_iadd dL_law_759 ?_
  refine JT_sld dL_law_760 (by rw [show mS (std sm) = X from hXm]; exact hin2) ?_
  rw [show mS (std sm) = X from hXm]
  refine JS_callVIm (M' := MX12_scar) (d' := 4) (As := [.int (X.2 (i + (1 : Int32)).toNatClampNeg), .int (X.2 (i + (2 : Int32)).toNatClampNeg)]) (rest := [.int vv]) (P := fun z w => (vX12_scar sm (X.2 (i + (1 : Int32)).toNatClampNeg) (X.2 (i + (2 : Int32)).toNatClampNeg)) = z ∧ (mX12_scar sm (X.2 (i + (1 : Int32)).toNatClampNeg) (X.2 (i + (2 : Int32)).toNatClampNeg)) = w) dL_law_761 cvL_80 okX12_scar rfl (Nat.le_of_ble_eq_true rfl) BS_248 (Nat.le_of_ble_eq_true rfl) (Nat.le_of_ble_eq_true rfl) hci_12 (Nat.le_of_ble_eq_true rfl) (Nat.le_of_ble_eq_true rfl) (pX12_scar (X.2 (i + (1 : Int32)).toNatClampNeg) (X.2 (i + (2 : Int32)).toNatClampNeg) (by rw [hsm]; exact hr2) ⟨rfl, rfl⟩) (fun z w hq => ?_)
  obtain ⟨e1, e2⟩ := hq
  rw [hsm] at e1
  refine JT_icmp_eq (tgt := 1740) dL_law_764 (by decide) (fun _ => ?_) (fun hne => absurd (hvv.trans (hv.trans e1)) hne)
  rw [← e2, hsm]
  exact k _ hI
set_option maxRecDepth 1000000 in
theorem law_ring {X : Nat × (Nat → Int32)} {INV INV2 : SM → Prop} (hX : ∀ s, INV s → s.2.2.2 = X) (h : S_ring INV INV2) {mc ms : Nat} {s : SM} (hs : INV s) {i : Int32} (hin1 : vp_in (i + (1 : Int32)) X.1) (hin2 : vp_in (i + (2 : Int32)) X.1) (hin3 : vp_in (i + (3 : Int32)) X.1) (hin4 : vp_in (i + (4 : Int32)) X.1) (hin5 : vp_in (i + (5 : Int32)) X.1) {QL : Option Value → JMem → Prop} (k : ∀ s', INV2 s' → JT ML_law 421 mc ms 1740 [(4, .int i), (3, .ref 278), (2, .ref 248), (1, .ref 2), (0, .ref 0)] [] (std s') QL) : JT ML_law 421 mc ms 769 [(4, .int i), (3, .ref 278), (2, .ref 248), (1, .ref 2), (0, .ref 0)] [] (std s) QL := by
  have hXs : mS (std s) = X := hX s hs
  have H := h s  hs
  obtain ⟨hr1, hr2, hv, hI, hX1⟩ := H
  refine JT_aload_n (q := 3) dL_law_769 rfl rfl ?_
  refine JS_callVIm (M' := MX11_ring) (d' := 407) (As := []) (rest := []) (P := fun z w => (vX11_ring s ) = z ∧ (mX11_ring s ) = w) dL_law_770 cvL_81 okX11_ring rfl (Nat.le_of_ble_eq_true rfl) BS_2 (Nat.le_of_ble_eq_true rfl) (Nat.le_of_ble_eq_true rfl) hci_11 (Nat.le_of_ble_eq_true rfl) (Nat.le_of_ble_eq_true rfl) (pX11_ring  hr1 ⟨rfl, rfl⟩) (fun z w hq => ?_)
  obtain ⟨e1, e2⟩ := hq
  rw [← e1, ← e2]
  obtain ⟨vv, hvv⟩ : ∃ z, z = (vX11_ring s ) := ⟨_, rfl⟩
  rw [← hvv]
  obtain ⟨sm, hsm⟩ : ∃ z, z = (mX11_ring s ) := ⟨_, rfl⟩
  rw [← hsm]
  have hXm : mS (std sm) = X := by rw [hsm]; exact hX1.trans hXs
  refine JT_aload_n (q := 2) dL_law_773 rfl rfl ?_
  refine JS_callVIm (M' := MX12_ring) (d' := 6) (As := []) (rest := [.int vv]) (P := fun z w => (vX12_ring sm ) = z ∧ (mX12_ring sm ) = w) dL_law_774 cvL_84 okX12_ring rfl (Nat.le_of_ble_eq_true rfl) BS_248 (Nat.le_of_ble_eq_true rfl) (Nat.le_of_ble_eq_true rfl) hci_12 (Nat.le_of_ble_eq_true rfl) (Nat.le_of_ble_eq_true rfl) (pX12_ring  (by rw [hsm]; exact hr2) ⟨rfl, rfl⟩) (fun z w hq => ?_)
  obtain ⟨e1, e2⟩ := hq
  rw [hsm] at e1
  refine JT_icmp_eq (tgt := 1740) dL_law_777 (by decide) (fun _ => ?_) (fun hne => absurd (hvv.trans (hv.trans e1)) hne)
  rw [← e2, hsm]
  exact k _ hI
set_option maxRecDepth 1000000 in
theorem law_ringAt {X : Nat × (Nat → Int32)} {INV INV2 : SM → Prop} (hX : ∀ s, INV s → s.2.2.2 = X) (h : S_ringAt INV INV2) {mc ms : Nat} {s : SM} (hs : INV s) {i : Int32} (hin1 : vp_in (i + (1 : Int32)) X.1) (hin2 : vp_in (i + (2 : Int32)) X.1) (hin3 : vp_in (i + (3 : Int32)) X.1) (hin4 : vp_in (i + (4 : Int32)) X.1) (hin5 : vp_in (i + (5 : Int32)) X.1) {QL : Option Value → JMem → Prop} (k : ∀ s', INV2 s' → JT ML_law 421 mc ms 1740 [(4, .int i), (3, .ref 278), (2, .ref 248), (1, .ref 2), (0, .ref 0)] [] (std s') QL) : JT ML_law 421 mc ms 782 [(4, .int i), (3, .ref 278), (2, .ref 248), (1, .ref 2), (0, .ref 0)] [] (std s) QL := by
  have hXs : mS (std s) = X := hX s hs
  have H := h s (X.2 (i + (1 : Int32)).toNatClampNeg) hs
  obtain ⟨hr1, hr2, hv, hI⟩ := H
  refine JT_aload_n (q := 3) dL_law_782 rfl rfl ?_
  refine JT_aload_n (q := 4) dL_law_783 rfl rfl ?_
  refine JT_iload (q := 0) dL_law_784 rfl ?_
  refine JT_iconst (v := 1) dL_law_786 (by decide) ?_
  refine JT_iadd dL_law_787 ?_
  refine JT_sld dL_law_788 (by rw [show mS (std s) = X from hXs]; exact hin1) ?_
  rw [show mS (std s) = X from hXs]
  refine JS_callVIm (M' := MX11_ringAt) (d' := 0) (As := [.int (X.2 (i + (1 : Int32)).toNatClampNeg)]) (rest := []) (P := fun z w => (vX11_ringAt s (X.2 (i + (1 : Int32)).toNatClampNeg)) = z ∧ s = w) dL_law_789 cvL_85 okX11_ringAt rfl (Nat.le_of_ble_eq_true rfl) BS_2 (Nat.le_of_ble_eq_true rfl) (Nat.le_of_ble_eq_true rfl) hci_11 (Nat.le_of_ble_eq_true rfl) (Nat.le_of_ble_eq_true rfl) (pX11_ringAt (X.2 (i + (1 : Int32)).toNatClampNeg) hr1 ⟨rfl, rfl⟩) (fun z w hq => ?_)
  obtain ⟨e1, e2⟩ := hq
  rw [← e1, ← e2]
  obtain ⟨vv, hvv⟩ : ∃ z, z = (vX11_ringAt s (X.2 (i + (1 : Int32)).toNatClampNeg)) := ⟨_, rfl⟩
  rw [← hvv]
  obtain ⟨sm, hsm⟩ : ∃ z, z = s := ⟨_, rfl⟩
  rw [← hsm]
  have hXm : mS (std sm) = X := by rw [hsm]; exact hXs
  refine JT_aload_n (q := 2) dL_law_792 rfl rfl ?_
  refine JT_aload_n (q := 4) dL_law_793 rfl rfl ?_
  refine JT_iload (q := 0) dL_law_794 rfl ?_
  refine JT_iconst (v := 1) dL_law_796 (by decide) ?_
  refine JT_iadd dL_law_797 ?_
  refine JT_sld dL_law_798 (by rw [show mS (std sm) = X from hXm]; exact hin1) ?_
  rw [show mS (std sm) = X from hXm]
  refine JS_callVIm (M' := MX12_ringAt) (d' := 1) (As := [.int (X.2 (i + (1 : Int32)).toNatClampNeg)]) (rest := [.int vv]) (P := fun z w => (vX12_ringAt sm (X.2 (i + (1 : Int32)).toNatClampNeg)) = z ∧ (mX12_ringAt sm (X.2 (i + (1 : Int32)).toNatClampNeg)) = w) dL_law_799 cvL_88 okX12_ringAt rfl (Nat.le_of_ble_eq_true rfl) BS_248 (Nat.le_of_ble_eq_true rfl) (Nat.le_of_ble_eq_true rfl) hci_12 (Nat.le_of_ble_eq_true rfl) (Nat.le_of_ble_eq_true rfl) (pX12_ringAt (X.2 (i + (1 : Int32)).toNatClampNeg) (by rw [hsm]; exact hr2) ⟨rfl, rfl⟩) (fun z w hq => ?_)
  obtain ⟨e1, e2⟩ := hq
  rw [hsm] at e1
  refine JT_icmp_eq (tgt := 1740) dL_law_802 (by decide) (fun _ => ?_) (fun hne => absurd (hvv.trans (hv.trans e1)) hne)
  rw [← e2, hsm]
  exact k _ hI
set_option maxRecDepth 1000000 in
theorem law_ringOf {X : Nat × (Nat → Int32)} {INV INV2 : SM → Prop} (hX : ∀ s, INV s → s.2.2.2 = X) (h : S_ringOf INV INV2) {mc ms : Nat} {s : SM} (hs : INV s) {i : Int32} (hin1 : vp_in (i + (1 : Int32)) X.1) (hin2 : vp_in (i + (2 : Int32)) X.1) (hin3 : vp_in (i + (3 : Int32)) X.1) (hin4 : vp_in (i + (4 : Int32)) X.1) (hin5 : vp_in (i + (5 : Int32)) X.1) {QL : Option Value → JMem → Prop} (k : ∀ s', INV2 s' → JT ML_law 421 mc ms 1740 [(4, .int i), (3, .ref 278), (2, .ref 248), (1, .ref 2), (0, .ref 0)] [] (std s') QL) : JT ML_law 421 mc ms 807 [(4, .int i), (3, .ref 278), (2, .ref 248), (1, .ref 2), (0, .ref 0)] [] (std s) QL := by
  have hXs : mS (std s) = X := hX s hs
  have H := h s (X.2 (i + (1 : Int32)).toNatClampNeg) hs
  obtain ⟨hr1, hr2, hv, hI, hX1⟩ := H
  refine JT_aload_n (q := 3) dL_law_807 rfl rfl ?_
  refine JT_aload_n (q := 4) dL_law_808 rfl rfl ?_
  refine JT_iload (q := 0) dL_law_809 rfl ?_
  refine JT_iconst (v := 1) dL_law_811 (by decide) ?_
  refine JT_iadd dL_law_812 ?_
  refine JT_sld dL_law_813 (by rw [show mS (std s) = X from hXs]; exact hin1) ?_
  rw [show mS (std s) = X from hXs]
  refine JS_callVIm (M' := MX11_ringOf) (d' := 407) (As := [.int (X.2 (i + (1 : Int32)).toNatClampNeg)]) (rest := []) (P := fun z w => (vX11_ringOf s (X.2 (i + (1 : Int32)).toNatClampNeg)) = z ∧ (mX11_ringOf s (X.2 (i + (1 : Int32)).toNatClampNeg)) = w) dL_law_814 cvL_89 okX11_ringOf rfl (Nat.le_of_ble_eq_true rfl) BS_2 (Nat.le_of_ble_eq_true rfl) (Nat.le_of_ble_eq_true rfl) hci_11 (Nat.le_of_ble_eq_true rfl) (Nat.le_of_ble_eq_true rfl) (pX11_ringOf (X.2 (i + (1 : Int32)).toNatClampNeg) hr1 ⟨rfl, rfl⟩) (fun z w hq => ?_)
  obtain ⟨e1, e2⟩ := hq
  rw [← e1, ← e2]
  obtain ⟨vv, hvv⟩ : ∃ z, z = (vX11_ringOf s (X.2 (i + (1 : Int32)).toNatClampNeg)) := ⟨_, rfl⟩
  rw [← hvv]
  obtain ⟨sm, hsm⟩ : ∃ z, z = (mX11_ringOf s (X.2 (i + (1 : Int32)).toNatClampNeg)) := ⟨_, rfl⟩
  rw [← hsm]
  have hXm : mS (std sm) = X := by rw [hsm]; exact hX1.trans hXs
  refine JT_aload_n (q := 2) dL_law_817 rfl rfl ?_
  refine JT_aload_n (q := 4) dL_law_818 rfl rfl ?_
  refine JT_iload (q := 0) dL_law_819 rfl ?_
  refine JT_iconst (v := 1) dL_law_821 (by decide) ?_
  refine JT_iadd dL_law_822 ?_
  refine JT_sld dL_law_823 (by rw [show mS (std sm) = X from hXm]; exact hin1) ?_
  rw [show mS (std sm) = X from hXm]
  refine JS_callVIm (M' := MX12_ringOf) (d' := 6) (As := [.int (X.2 (i + (1 : Int32)).toNatClampNeg)]) (rest := [.int vv]) (P := fun z w => (vX12_ringOf sm (X.2 (i + (1 : Int32)).toNatClampNeg)) = z ∧ (mX12_ringOf sm (X.2 (i + (1 : Int32)).toNatClampNeg)) = w) dL_law_824 cvL_92 okX12_ringOf rfl (Nat.le_of_ble_eq_true rfl) BS_248 (Nat.le_of_ble_eq_true rfl) (Nat.le_of_ble_eq_true rfl) hci_12 (Nat.le_of_ble_eq_true rfl) (Nat.le_of_ble_eq_true rfl) (pX12_ringOf (X.2 (i + (1 : Int32)).toNatClampNeg) (by rw [hsm]; exact hr2) ⟨rfl, rfl⟩) (fun z w hq => ?_)
  obtain ⟨e1, e2⟩ := hq
  rw [hsm] at e1
  refine JT_icmp_eq (tgt := 1740) dL_law_827 (by decide) (fun _ => ?_) (fun hne => absurd (hvv.trans (hv.trans e1)) hne)
  rw [← e2, hsm]
  exact k _ hI
set_option maxRecDepth 1000000 in
theorem law_cut {X : Nat × (Nat → Int32)} {INV INV2 : SM → Prop} (hX : ∀ s, INV s → s.2.2.2 = X) (h : S_cut INV INV2) {mc ms : Nat} {s : SM} (hs : INV s) {i : Int32} (hin1 : vp_in (i + (1 : Int32)) X.1) (hin2 : vp_in (i + (2 : Int32)) X.1) (hin3 : vp_in (i + (3 : Int32)) X.1) (hin4 : vp_in (i + (4 : Int32)) X.1) (hin5 : vp_in (i + (5 : Int32)) X.1) {QL : Option Value → JMem → Prop} (k : ∀ s', INV2 s' → JT ML_law 421 mc ms 1740 [(4, .int i), (3, .ref 278), (2, .ref 248), (1, .ref 2), (0, .ref 0)] [] (std s') QL) : JT ML_law 421 mc ms 832 [(4, .int i), (3, .ref 278), (2, .ref 248), (1, .ref 2), (0, .ref 0)] [] (std s) QL := by
  have hXs : mS (std s) = X := hX s hs
  have H := h s  hs
  obtain ⟨hr1, hr2, hv, hI, hX1⟩ := H
  refine JT_aload_n (q := 3) dL_law_832 rfl rfl ?_
  refine JS_callVIm (M' := MX11_cut) (d' := 408) (As := []) (rest := []) (P := fun z w => (vX11_cut s ) = z ∧ (mX11_cut s ) = w) dL_law_833 cvL_93 okX11_cut rfl (Nat.le_of_ble_eq_true rfl) BS_2 (Nat.le_of_ble_eq_true rfl) (Nat.le_of_ble_eq_true rfl) hci_11 (Nat.le_of_ble_eq_true rfl) (Nat.le_of_ble_eq_true rfl) (pX11_cut  hr1 ⟨rfl, rfl⟩) (fun z w hq => ?_)
  obtain ⟨e1, e2⟩ := hq
  rw [← e1, ← e2]
  obtain ⟨vv, hvv⟩ : ∃ z, z = (vX11_cut s ) := ⟨_, rfl⟩
  rw [← hvv]
  obtain ⟨sm, hsm⟩ : ∃ z, z = (mX11_cut s ) := ⟨_, rfl⟩
  rw [← hsm]
  have hXm : mS (std sm) = X := by rw [hsm]; exact hX1.trans hXs
  refine JT_aload_n (q := 2) dL_law_836 rfl rfl ?_
  refine JS_callVIm (M' := MX12_cut) (d' := 6) (As := []) (rest := [.int vv]) (P := fun z w => (vX12_cut sm ) = z ∧ (mX12_cut sm ) = w) dL_law_837 cvL_96 okX12_cut rfl (Nat.le_of_ble_eq_true rfl) BS_248 (Nat.le_of_ble_eq_true rfl) (Nat.le_of_ble_eq_true rfl) hci_12 (Nat.le_of_ble_eq_true rfl) (Nat.le_of_ble_eq_true rfl) (pX12_cut  (by rw [hsm]; exact hr2) ⟨rfl, rfl⟩) (fun z w hq => ?_)
  obtain ⟨e1, e2⟩ := hq
  rw [hsm] at e1
  refine JT_icmp_eq (tgt := 1740) dL_law_840 (by decide) (fun _ => ?_) (fun hne => absurd (hvv.trans (hv.trans e1)) hne)
  rw [← e2, hsm]
  exact k _ hI
set_option maxRecDepth 1000000 in
theorem law_dies {X : Nat × (Nat → Int32)} {INV INV2 : SM → Prop} (hX : ∀ s, INV s → s.2.2.2 = X) (h : S_dies INV INV2) {mc ms : Nat} {s : SM} (hs : INV s) {i : Int32} (hin1 : vp_in (i + (1 : Int32)) X.1) (hin2 : vp_in (i + (2 : Int32)) X.1) (hin3 : vp_in (i + (3 : Int32)) X.1) (hin4 : vp_in (i + (4 : Int32)) X.1) (hin5 : vp_in (i + (5 : Int32)) X.1) {QL : Option Value → JMem → Prop} (k : ∀ s', INV2 s' → JT ML_law 421 mc ms 1740 [(4, .int i), (3, .ref 278), (2, .ref 248), (1, .ref 2), (0, .ref 0)] [] (std s') QL) : JT ML_law 421 mc ms 845 [(4, .int i), (3, .ref 278), (2, .ref 248), (1, .ref 2), (0, .ref 0)] [] (std s) QL := by
  have hXs : mS (std s) = X := hX s hs
  have H := h s (X.2 (i + (1 : Int32)).toNatClampNeg) (X.2 (i + (2 : Int32)).toNatClampNeg) hs
  obtain ⟨hr1, hr2, hv, hI, hX1⟩ := H
  refine JT_aload_n (q := 3) dL_law_845 rfl rfl ?_
  refine JT_aload_n (q := 4) dL_law_846 rfl rfl ?_
  refine JT_iload (q := 0) dL_law_847 rfl ?_
  refine JT_iconst (v := 1) dL_law_849 (by decide) ?_
  refine JT_iadd dL_law_850 ?_
  refine JT_sld dL_law_851 (by rw [show mS (std s) = X from hXs]; exact hin1) ?_
  rw [show mS (std s) = X from hXs]
  refine JT_aload_n (q := 4) dL_law_852 rfl rfl ?_
  refine JT_iload (q := 0) dL_law_853 rfl ?_
  refine JT_iconst (v := 2) dL_law_855 (by decide) ?_
  refine JT_iadd dL_law_856 ?_
  refine JT_sld dL_law_857 (by rw [show mS (std s) = X from hXs]; exact hin2) ?_
  rw [show mS (std s) = X from hXs]
  refine JS_callVIm (M' := MX11_dies) (d' := 3) (As := [.int (X.2 (i + (1 : Int32)).toNatClampNeg), .int (X.2 (i + (2 : Int32)).toNatClampNeg)]) (rest := []) (P := fun z w => (vX11_dies s (X.2 (i + (1 : Int32)).toNatClampNeg) (X.2 (i + (2 : Int32)).toNatClampNeg)) = z ∧ (mX11_dies s (X.2 (i + (1 : Int32)).toNatClampNeg) (X.2 (i + (2 : Int32)).toNatClampNeg)) = w) dL_law_858 cvL_97 okX11_dies rfl (Nat.le_of_ble_eq_true rfl) BS_2 (Nat.le_of_ble_eq_true rfl) (Nat.le_of_ble_eq_true rfl) hci_11 (Nat.le_of_ble_eq_true rfl) (Nat.le_of_ble_eq_true rfl) (pX11_dies (X.2 (i + (1 : Int32)).toNatClampNeg) (X.2 (i + (2 : Int32)).toNatClampNeg) hr1 ⟨rfl, rfl⟩) (fun z w hq => ?_)
  obtain ⟨e1, e2⟩ := hq
  rw [← e1, ← e2]
  obtain ⟨vv, hvv⟩ : ∃ z, z = (vX11_dies s (X.2 (i + (1 : Int32)).toNatClampNeg) (X.2 (i + (2 : Int32)).toNatClampNeg)) := ⟨_, rfl⟩
  rw [← hvv]
  obtain ⟨sm, hsm⟩ : ∃ z, z = (mX11_dies s (X.2 (i + (1 : Int32)).toNatClampNeg) (X.2 (i + (2 : Int32)).toNatClampNeg)) := ⟨_, rfl⟩
  rw [← hsm]
  have hXm : mS (std sm) = X := by rw [hsm]; exact hX1.trans hXs
  refine JT_aload_n (q := 2) dL_law_861 rfl rfl ?_
  refine JT_aload_n (q := 4) dL_law_862 rfl rfl ?_
  refine JT_iload (q := 0) dL_law_863 rfl ?_
  refine JT_iconst (v := 1) dL_law_865 (by decide) ?_
  refine JT_iadd dL_law_866 ?_
  refine JT_sld dL_law_867 (by rw [show mS (std sm) = X from hXm]; exact hin1) ?_
  rw [show mS (std sm) = X from hXm]
  refine JT_aload_n (q := 4) dL_law_868 rfl rfl ?_
  refine JT_iload (q := 0) dL_law_869 rfl ?_
  refine JT_iconst (v := 2) dL_law_871 (by decide) ?_
  refine JT_iadd dL_law_872 ?_
  refine JT_sld dL_law_873 (by rw [show mS (std sm) = X from hXm]; exact hin2) ?_
  rw [show mS (std sm) = X from hXm]
  refine JS_callVIm (M' := MX12_dies) (d' := 4) (As := [.int (X.2 (i + (1 : Int32)).toNatClampNeg), .int (X.2 (i + (2 : Int32)).toNatClampNeg)]) (rest := [.int vv]) (P := fun z w => (vX12_dies sm (X.2 (i + (1 : Int32)).toNatClampNeg) (X.2 (i + (2 : Int32)).toNatClampNeg)) = z ∧ (mX12_dies sm (X.2 (i + (1 : Int32)).toNatClampNeg) (X.2 (i + (2 : Int32)).toNatClampNeg)) = w) dL_law_874 cvL_100 okX12_dies rfl (Nat.le_of_ble_eq_true rfl) BS_248 (Nat.le_of_ble_eq_true rfl) (Nat.le_of_ble_eq_true rfl) hci_12 (Nat.le_of_ble_eq_true rfl) (Nat.le_of_ble_eq_true rfl) (pX12_dies (X.2 (i + (1 : Int32)).toNatClampNeg) (X.2 (i + (2 : Int32)).toNatClampNeg) (by rw [hsm]; exact hr2) ⟨rfl, rfl⟩) (fun z w hq => ?_)
  obtain ⟨e1, e2⟩ := hq
  rw [hsm] at e1
  refine JT_icmp_eq (tgt := 1740) dL_law_877 (by decide) (fun _ => ?_) (fun hne => absurd (hvv.trans (hv.trans e1)) hne)
  rw [← e2, hsm]
  exact k _ hI
set_option maxRecDepth 1000000 in
theorem law_year {X : Nat × (Nat → Int32)} {INV INV2 : SM → Prop} (hX : ∀ s, INV s → s.2.2.2 = X) (h : S_year INV INV2) {mc ms : Nat} {s : SM} (hs : INV s) {i : Int32} (hin1 : vp_in (i + (1 : Int32)) X.1) (hin2 : vp_in (i + (2 : Int32)) X.1) (hin3 : vp_in (i + (3 : Int32)) X.1) (hin4 : vp_in (i + (4 : Int32)) X.1) (hin5 : vp_in (i + (5 : Int32)) X.1) {QL : Option Value → JMem → Prop} (k : ∀ s', INV2 s' → JT ML_law 421 mc ms 1740 [(4, .int i), (3, .ref 278), (2, .ref 248), (1, .ref 2), (0, .ref 0)] [] (std s') QL) : JT ML_law 421 mc ms 882 [(4, .int i), (3, .ref 278), (2, .ref 248), (1, .ref 2), (0, .ref 0)] [] (std s) QL := by
  have hXs : mS (std s) = X := hX s hs
  have H := h s  hs
  obtain ⟨hr1, hr2, hv, hI, hX1⟩ := H
  refine JT_aload_n (q := 3) dL_law_882 rfl rfl ?_
  refine JS_callVIm (M' := MX11_year) (d' := 3) (As := []) (rest := []) (P := fun z w => (vX11_year s ) = z ∧ (mX11_year s ) = w) dL_law_883 cvL_101 okX11_year rfl (Nat.le_of_ble_eq_true rfl) BS_2 (Nat.le_of_ble_eq_true rfl) (Nat.le_of_ble_eq_true rfl) hci_11 (Nat.le_of_ble_eq_true rfl) (Nat.le_of_ble_eq_true rfl) (pX11_year  hr1 ⟨rfl, rfl⟩) (fun z w hq => ?_)
  obtain ⟨e1, e2⟩ := hq
  rw [← e1, ← e2]
  obtain ⟨vv, hvv⟩ : ∃ z, z = (vX11_year s ) := ⟨_, rfl⟩
  rw [← hvv]
  obtain ⟨sm, hsm⟩ : ∃ z, z = (mX11_year s ) := ⟨_, rfl⟩
  rw [← hsm]
  have hXm : mS (std sm) = X := by rw [hsm]; exact hX1.trans hXs
  refine JT_aload_n (q := 2) dL_law_886 rfl rfl ?_
  refine JS_callVIm (M' := MX12_year) (d' := 1) (As := []) (rest := [.int vv]) (P := fun z w => (vX12_year sm ) = z ∧ (mX12_year sm ) = w) dL_law_887 cvL_104 okX12_year rfl (Nat.le_of_ble_eq_true rfl) BS_248 (Nat.le_of_ble_eq_true rfl) (Nat.le_of_ble_eq_true rfl) hci_12 (Nat.le_of_ble_eq_true rfl) (Nat.le_of_ble_eq_true rfl) (pX12_year  (by rw [hsm]; exact hr2) ⟨rfl, rfl⟩) (fun z w hq => ?_)
  obtain ⟨e1, e2⟩ := hq
  rw [hsm] at e1
  refine JT_icmp_eq (tgt := 1740) dL_law_890 (by decide) (fun _ => ?_) (fun hne => absurd (hvv.trans (hv.trans e1)) hne)
  rw [← e2, hsm]
  exact k _ hI
set_option maxRecDepth 1000000 in
theorem law_undo {X : Nat × (Nat → Int32)} {INV INV2 : SM → Prop} (hX : ∀ s, INV s → s.2.2.2 = X) (h : S_undo INV INV2) {mc ms : Nat} {s : SM} (hs : INV s) {i : Int32} (hin1 : vp_in (i + (1 : Int32)) X.1) (hin2 : vp_in (i + (2 : Int32)) X.1) (hin3 : vp_in (i + (3 : Int32)) X.1) (hin4 : vp_in (i + (4 : Int32)) X.1) (hin5 : vp_in (i + (5 : Int32)) X.1) {QL : Option Value → JMem → Prop} (k : ∀ s', INV2 s' → JT ML_law 421 mc ms 1740 [(4, .int i), (3, .ref 278), (2, .ref 248), (1, .ref 2), (0, .ref 0)] [] (std s') QL) : JT ML_law 421 mc ms 895 [(4, .int i), (3, .ref 278), (2, .ref 248), (1, .ref 2), (0, .ref 0)] [] (std s) QL := by
  have hXs : mS (std s) = X := hX s hs
  have H := h s  hs
  obtain ⟨hr1, hr2, hv, hI, hX1⟩ := H
  refine JT_aload_n (q := 3) dL_law_895 rfl rfl ?_
  refine JS_callVIm (M' := MX11_undo) (d' := 3) (As := []) (rest := []) (P := fun z w => (vX11_undo s ) = z ∧ (mX11_undo s ) = w) dL_law_896 cvL_105 okX11_undo rfl (Nat.le_of_ble_eq_true rfl) BS_2 (Nat.le_of_ble_eq_true rfl) (Nat.le_of_ble_eq_true rfl) hci_11 (Nat.le_of_ble_eq_true rfl) (Nat.le_of_ble_eq_true rfl) (pX11_undo  hr1 ⟨rfl, rfl⟩) (fun z w hq => ?_)
  obtain ⟨e1, e2⟩ := hq
  rw [← e1, ← e2]
  obtain ⟨vv, hvv⟩ : ∃ z, z = (vX11_undo s ) := ⟨_, rfl⟩
  rw [← hvv]
  obtain ⟨sm, hsm⟩ : ∃ z, z = (mX11_undo s ) := ⟨_, rfl⟩
  rw [← hsm]
  have hXm : mS (std sm) = X := by rw [hsm]; exact hX1.trans hXs
  refine JT_aload_n (q := 2) dL_law_899 rfl rfl ?_
  refine JS_callVIm (M' := MX12_undo) (d' := 0) (As := []) (rest := [.int vv]) (P := fun z w => (vX12_undo sm ) = z ∧ (mX12_undo sm ) = w) dL_law_900 cvL_108 okX12_undo rfl (Nat.le_of_ble_eq_true rfl) BS_248 (Nat.le_of_ble_eq_true rfl) (Nat.le_of_ble_eq_true rfl) hci_12 (Nat.le_of_ble_eq_true rfl) (Nat.le_of_ble_eq_true rfl) (pX12_undo  (by rw [hsm]; exact hr2) ⟨rfl, rfl⟩) (fun z w hq => ?_)
  obtain ⟨e1, e2⟩ := hq
  rw [hsm] at e1
  refine JT_icmp_eq (tgt := 1740) dL_law_903 (by decide) (fun _ => ?_) (fun hne => absurd (hvv.trans (hv.trans e1)) hne)
  rw [← e2, hsm]
  exact k _ hI
set_option maxRecDepth 1000000 in
theorem law_can {X : Nat × (Nat → Int32)} {INV INV2 : SM → Prop} (hX : ∀ s, INV s → s.2.2.2 = X) (h : S_can INV INV2) {mc ms : Nat} {s : SM} (hs : INV s) {i : Int32} (hin1 : vp_in (i + (1 : Int32)) X.1) (hin2 : vp_in (i + (2 : Int32)) X.1) (hin3 : vp_in (i + (3 : Int32)) X.1) (hin4 : vp_in (i + (4 : Int32)) X.1) (hin5 : vp_in (i + (5 : Int32)) X.1) {QL : Option Value → JMem → Prop} (k : ∀ s', INV2 s' → JT ML_law 421 mc ms 1740 [(4, .int i), (3, .ref 278), (2, .ref 248), (1, .ref 2), (0, .ref 0)] [] (std s') QL) : JT ML_law 421 mc ms 908 [(4, .int i), (3, .ref 278), (2, .ref 248), (1, .ref 2), (0, .ref 0)] [] (std s) QL := by
  have hXs : mS (std s) = X := hX s hs
  have H := h s (X.2 (i + (1 : Int32)).toNatClampNeg) (X.2 (i + (2 : Int32)).toNatClampNeg) hs
  obtain ⟨hr1, hr2, hv, hI, hX1⟩ := H
  refine JT_aload_n (q := 3) dL_law_908 rfl rfl ?_
  refine JT_aload_n (q := 4) dL_law_909 rfl rfl ?_
  refine JT_iload (q := 0) dL_law_910 rfl ?_
  refine JT_iconst (v := 1) dL_law_912 (by decide) ?_
  refine JT_iadd dL_law_913 ?_
  refine JT_sld dL_law_914 (by rw [show mS (std s) = X from hXs]; exact hin1) ?_
  rw [show mS (std s) = X from hXs]
  refine JT_aload_n (q := 4) dL_law_915 rfl rfl ?_
  refine JT_iload (q := 0) dL_law_916 rfl ?_
  refine JT_iconst (v := 2) dL_law_918 (by decide) ?_
  refine JT_iadd dL_law_919 ?_
  refine JT_sld dL_law_920 (by rw [show mS (std s) = X from hXs]; exact hin2) ?_
  rw [show mS (std s) = X from hXs]
  refine JS_callVIm (M' := MX11_can) (d' := 4) (As := [.int (X.2 (i + (1 : Int32)).toNatClampNeg), .int (X.2 (i + (2 : Int32)).toNatClampNeg)]) (rest := []) (P := fun z w => (vX11_can s (X.2 (i + (1 : Int32)).toNatClampNeg) (X.2 (i + (2 : Int32)).toNatClampNeg)) = z ∧ (mX11_can s (X.2 (i + (1 : Int32)).toNatClampNeg) (X.2 (i + (2 : Int32)).toNatClampNeg)) = w) dL_law_921 cvL_109 okX11_can rfl (Nat.le_of_ble_eq_true rfl) BS_2 (Nat.le_of_ble_eq_true rfl) (Nat.le_of_ble_eq_true rfl) hci_11 (Nat.le_of_ble_eq_true rfl) (Nat.le_of_ble_eq_true rfl) (pX11_can (X.2 (i + (1 : Int32)).toNatClampNeg) (X.2 (i + (2 : Int32)).toNatClampNeg) hr1 ⟨rfl, rfl⟩) (fun z w hq => ?_)
  obtain ⟨e1, e2⟩ := hq
  rw [← e1, ← e2]
  obtain ⟨vv, hvv⟩ : ∃ z, z = (vX11_can s (X.2 (i + (1 : Int32)).toNatClampNeg) (X.2 (i + (2 : Int32)).toNatClampNeg)) := ⟨_, rfl⟩
  rw [← hvv]
  obtain ⟨sm, hsm⟩ : ∃ z, z = (mX11_can s (X.2 (i + (1 : Int32)).toNatClampNeg) (X.2 (i + (2 : Int32)).toNatClampNeg)) := ⟨_, rfl⟩
  rw [← hsm]
  have hXm : mS (std sm) = X := by rw [hsm]; exact hX1.trans hXs
  refine JT_aload_n (q := 2) dL_law_924 rfl rfl ?_
  refine JT_aload_n (q := 4) dL_law_925 rfl rfl ?_
  refine JT_iload (q := 0) dL_law_926 rfl ?_
  refine JT_iconst (v := 1) dL_law_928 (by decide) ?_
  refine JT_iadd dL_law_929 ?_
  refine JT_sld dL_law_930 (by rw [show mS (std sm) = X from hXm]; exact hin1) ?_
  rw [show mS (std sm) = X from hXm]
  refine JT_aload_n (q := 4) dL_law_931 rfl rfl ?_
  refine JT_iload (q := 0) dL_law_932 rfl ?_
  refine JT_iconst (v := 2) dL_law_934 (by decide) ?_
  refine JT_iadd dL_law_935 ?_
  refine JT_sld dL_law_936 (by rw [show mS (std sm) = X from hXm]; exact hin2) ?_
  rw [show mS (std sm) = X from hXm]
  refine JS_callVIm (M' := MX12_can) (d' := 5) (As := [.int (X.2 (i + (1 : Int32)).toNatClampNeg), .int (X.2 (i + (2 : Int32)).toNatClampNeg)]) (rest := [.int vv]) (P := fun z w => (vX12_can sm (X.2 (i + (1 : Int32)).toNatClampNeg) (X.2 (i + (2 : Int32)).toNatClampNeg)) = z ∧ (mX12_can sm (X.2 (i + (1 : Int32)).toNatClampNeg) (X.2 (i + (2 : Int32)).toNatClampNeg)) = w) dL_law_937 cvL_112 okX12_can rfl (Nat.le_of_ble_eq_true rfl) BS_248 (Nat.le_of_ble_eq_true rfl) (Nat.le_of_ble_eq_true rfl) hci_12 (Nat.le_of_ble_eq_true rfl) (Nat.le_of_ble_eq_true rfl) (pX12_can (X.2 (i + (1 : Int32)).toNatClampNeg) (X.2 (i + (2 : Int32)).toNatClampNeg) (by rw [hsm]; exact hr2) ⟨rfl, rfl⟩) (fun z w hq => ?_)
  obtain ⟨e1, e2⟩ := hq
  rw [hsm] at e1
  refine JT_icmp_eq (tgt := 1740) dL_law_940 (by decide) (fun _ => ?_) (fun hne => absurd (hvv.trans (hv.trans e1)) hne)
  rw [← e2, hsm]
  exact k _ hI
set_option maxRecDepth 1000000 in
theorem law_ringsFor {X : Nat × (Nat → Int32)} {INV INV2 : SM → Prop} (hX : ∀ s, INV s → s.2.2.2 = X) (h : S_ringsFor INV INV2) {mc ms : Nat} {s : SM} (hs : INV s) {i : Int32} (hin1 : vp_in (i + (1 : Int32)) X.1) (hin2 : vp_in (i + (2 : Int32)) X.1) (hin3 : vp_in (i + (3 : Int32)) X.1) (hin4 : vp_in (i + (4 : Int32)) X.1) (hin5 : vp_in (i + (5 : Int32)) X.1) {QL : Option Value → JMem → Prop} (k : ∀ s', INV2 s' → JT ML_law 421 mc ms 1740 [(4, .int i), (3, .ref 278), (2, .ref 248), (1, .ref 2), (0, .ref 0)] [] (std s') QL) : JT ML_law 421 mc ms 945 [(4, .int i), (3, .ref 278), (2, .ref 248), (1, .ref 2), (0, .ref 0)] [] (std s) QL := by
  have hXs : mS (std s) = X := hX s hs
  have H := h s (X.2 (i + (1 : Int32)).toNatClampNeg) (X.2 (i + (2 : Int32)).toNatClampNeg) (X.2 (i + (3 : Int32)).toNatClampNeg) hs
  obtain ⟨hr1, hr2, hv, hI, hX1⟩ := H
  refine JT_aload_n (q := 3) dL_law_945 rfl rfl ?_
  refine JT_aload_n (q := 4) dL_law_946 rfl rfl ?_
  refine JT_iload (q := 0) dL_law_947 rfl ?_
  refine JT_iconst (v := 1) dL_law_949 (by decide) ?_
  refine JT_iadd dL_law_950 ?_
  refine JT_sld dL_law_951 (by rw [show mS (std s) = X from hXs]; exact hin1) ?_
  rw [show mS (std s) = X from hXs]
  refine JT_aload_n (q := 4) dL_law_952 rfl rfl ?_
  refine JT_iload (q := 0) dL_law_953 rfl ?_
  refine JT_iconst (v := 2) dL_law_955 (by decide) ?_
  refine JT_iadd dL_law_956 ?_
  refine JT_sld dL_law_957 (by rw [show mS (std s) = X from hXs]; exact hin2) ?_
  rw [show mS (std s) = X from hXs]
  refine JT_aload_n (q := 4) dL_law_958 rfl rfl ?_
  refine JT_iload (q := 0) dL_law_959 rfl ?_
  refine JT_iconst (v := 3) dL_law_961 (by decide) ?_
  refine JT_iadd dL_law_962 ?_
  refine JT_sld dL_law_963 (by rw [show mS (std s) = X from hXs]; exact hin3) ?_
  rw [show mS (std s) = X from hXs]
  refine JS_callVIm (M' := MX11_ringsFor) (d' := 408) (As := [.int (X.2 (i + (1 : Int32)).toNatClampNeg), .int (X.2 (i + (2 : Int32)).toNatClampNeg), .int (X.2 (i + (3 : Int32)).toNatClampNeg)]) (rest := []) (P := fun z w => (vX11_ringsFor s (X.2 (i + (1 : Int32)).toNatClampNeg) (X.2 (i + (2 : Int32)).toNatClampNeg) (X.2 (i + (3 : Int32)).toNatClampNeg)) = z ∧ (mX11_ringsFor s (X.2 (i + (1 : Int32)).toNatClampNeg) (X.2 (i + (2 : Int32)).toNatClampNeg) (X.2 (i + (3 : Int32)).toNatClampNeg)) = w) dL_law_964 cvL_113 okX11_ringsFor rfl (Nat.le_of_ble_eq_true rfl) BS_2 (Nat.le_of_ble_eq_true rfl) (Nat.le_of_ble_eq_true rfl) hci_11 (Nat.le_of_ble_eq_true rfl) (Nat.le_of_ble_eq_true rfl) (pX11_ringsFor (X.2 (i + (1 : Int32)).toNatClampNeg) (X.2 (i + (2 : Int32)).toNatClampNeg) (X.2 (i + (3 : Int32)).toNatClampNeg) hr1 ⟨rfl, rfl⟩) (fun z w hq => ?_)
  obtain ⟨e1, e2⟩ := hq
  rw [← e1, ← e2]
  obtain ⟨vv, hvv⟩ : ∃ z, z = (vX11_ringsFor s (X.2 (i + (1 : Int32)).toNatClampNeg) (X.2 (i + (2 : Int32)).toNatClampNeg) (X.2 (i + (3 : Int32)).toNatClampNeg)) := ⟨_, rfl⟩
  rw [← hvv]
  obtain ⟨sm, hsm⟩ : ∃ z, z = (mX11_ringsFor s (X.2 (i + (1 : Int32)).toNatClampNeg) (X.2 (i + (2 : Int32)).toNatClampNeg) (X.2 (i + (3 : Int32)).toNatClampNeg)) := ⟨_, rfl⟩
  rw [← hsm]
  have hXm : mS (std sm) = X := by rw [hsm]; exact hX1.trans hXs
  refine JT_aload_n (q := 2) dL_law_967 rfl rfl ?_
  refine JT_aload_n (q := 4) dL_law_968 rfl rfl ?_
  refine JT_iload (q := 0) dL_law_969 rfl ?_
  refine JT_iconst (v := 1) dL_law_971 (by decide) ?_
  refine JT_iadd dL_law_972 ?_
  refine JT_sld dL_law_973 (by rw [show mS (std sm) = X from hXm]; exact hin1) ?_
  rw [show mS (std sm) = X from hXm]
  refine JT_aload_n (q := 4) dL_law_974 rfl rfl ?_
  refine JT_iload (q := 0) dL_law_975 rfl ?_
  refine JT_iconst (v := 2) dL_law_977 (by decide) ?_
  refine JT_iadd dL_law_978 ?_
  refine JT_sld dL_law_979 (by rw [show mS (std sm) = X from hXm]; exact hin2) ?_
  rw [show mS (std sm) = X from hXm]
  refine JT_aload_n (q := 4) dL_law_980 rfl rfl ?_
  refine JT_iload (q := 0) dL_law_981 rfl ?_
  refine JT_iconst (v := 3) dL_law_983 (by decide) ?_
  refine JT_iadd dL_law_984 ?_
  refine JT_sld dL_law_985 (by rw [show mS (std sm) = X from hXm]; exact hin3) ?_
  rw [show mS (std sm) = X from hXm]
  refine JS_callVIm (M' := MX12_ringsFor) (d' := 6) (As := [.int (X.2 (i + (1 : Int32)).toNatClampNeg), .int (X.2 (i + (2 : Int32)).toNatClampNeg), .int (X.2 (i + (3 : Int32)).toNatClampNeg)]) (rest := [.int vv]) (P := fun z w => (vX12_ringsFor sm (X.2 (i + (1 : Int32)).toNatClampNeg) (X.2 (i + (2 : Int32)).toNatClampNeg) (X.2 (i + (3 : Int32)).toNatClampNeg)) = z ∧ (mX12_ringsFor sm (X.2 (i + (1 : Int32)).toNatClampNeg) (X.2 (i + (2 : Int32)).toNatClampNeg) (X.2 (i + (3 : Int32)).toNatClampNeg)) = w) dL_law_986 cvL_117 okX12_ringsFor rfl (Nat.le_of_ble_eq_true rfl) BS_248 (Nat.le_of_ble_eq_true rfl) (Nat.le_of_ble_eq_true rfl) hci_12 (Nat.le_of_ble_eq_true rfl) (Nat.le_of_ble_eq_true rfl) (pX12_ringsFor (X.2 (i + (1 : Int32)).toNatClampNeg) (X.2 (i + (2 : Int32)).toNatClampNeg) (X.2 (i + (3 : Int32)).toNatClampNeg) (by rw [hsm]; exact hr2) ⟨rfl, rfl⟩) (fun z w hq => ?_)
  obtain ⟨e1, e2⟩ := hq
  rw [hsm] at e1
  refine JT_icmp_eq (tgt := 1740) dL_law_989 (by decide) (fun _ => ?_) (fun hne => absurd (hvv.trans (hv.trans e1)) hne)
  rw [← e2, hsm]
  exact k _ hI
set_option maxRecDepth 1000000 in
theorem law_aged {X : Nat × (Nat → Int32)} {INV INV2 : SM → Prop} (hX : ∀ s, INV s → s.2.2.2 = X) (h : S_aged INV INV2) {mc ms : Nat} {s : SM} (hs : INV s) {i : Int32} (hin1 : vp_in (i + (1 : Int32)) X.1) (hin2 : vp_in (i + (2 : Int32)) X.1) (hin3 : vp_in (i + (3 : Int32)) X.1) (hin4 : vp_in (i + (4 : Int32)) X.1) (hin5 : vp_in (i + (5 : Int32)) X.1) {QL : Option Value → JMem → Prop} (k : ∀ s', INV2 s' → JT ML_law 421 mc ms 1740 [(4, .int i), (3, .ref 278), (2, .ref 248), (1, .ref 2), (0, .ref 0)] [] (std s') QL) : JT ML_law 421 mc ms 994 [(4, .int i), (3, .ref 278), (2, .ref 248), (1, .ref 2), (0, .ref 0)] [] (std s) QL := by
  have hXs : mS (std s) = X := hX s hs
  have H := h s (X.2 (i + (1 : Int32)).toNatClampNeg) (X.2 (i + (2 : Int32)).toNatClampNeg) hs
  obtain ⟨hr1, hr2, hv, hI⟩ := H
  refine JT_aload_n (q := 3) dL_law_994 rfl rfl ?_
  refine JT_aload_n (q := 4) dL_law_995 rfl rfl ?_
  refine JT_iload (q := 0) dL_law_996 rfl ?_
  refine JT_iconst (v := 1) dL_law_998 (by decide) ?_
  refine JT_iadd dL_law_999 ?_
  refine JT_sld dL_law_1000 (by rw [show mS (std s) = X from hXs]; exact hin1) ?_
  rw [show mS (std s) = X from hXs]
  refine JT_aload_n (q := 4) dL_law_1001 rfl rfl ?_
  refine JT_iload (q := 0) dL_law_1002 rfl ?_
  refine JT_iconst (v := 2) dL_law_1004 (by decide) ?_
  refine JT_iadd dL_law_1005 ?_
  refine JT_sld dL_law_1006 (by rw [show mS (std s) = X from hXs]; exact hin2) ?_
  rw [show mS (std s) = X from hXs]
  refine JS_callVIm (M' := MX11_aged) (d' := 1) (As := [.int (X.2 (i + (1 : Int32)).toNatClampNeg), .int (X.2 (i + (2 : Int32)).toNatClampNeg)]) (rest := []) (P := fun z w => (vX11_aged s (X.2 (i + (1 : Int32)).toNatClampNeg) (X.2 (i + (2 : Int32)).toNatClampNeg)) = z ∧ s = w) dL_law_1007 cvL_118 okX11_aged rfl (Nat.le_of_ble_eq_true rfl) BS_2 (Nat.le_of_ble_eq_true rfl) (Nat.le_of_ble_eq_true rfl) hci_11 (Nat.le_of_ble_eq_true rfl) (Nat.le_of_ble_eq_true rfl) (pX11_aged (X.2 (i + (1 : Int32)).toNatClampNeg) (X.2 (i + (2 : Int32)).toNatClampNeg) hr1 ⟨rfl, rfl⟩) (fun z w hq => ?_)
  obtain ⟨e1, e2⟩ := hq
  rw [← e1, ← e2]
  obtain ⟨vv, hvv⟩ : ∃ z, z = (vX11_aged s (X.2 (i + (1 : Int32)).toNatClampNeg) (X.2 (i + (2 : Int32)).toNatClampNeg)) := ⟨_, rfl⟩
  rw [← hvv]
  obtain ⟨sm, hsm⟩ : ∃ z, z = s := ⟨_, rfl⟩
  rw [← hsm]
  have hXm : mS (std sm) = X := by rw [hsm]; exact hXs
  refine JT_aload_n (q := 2) dL_law_1010 rfl rfl ?_
  refine JT_aload_n (q := 4) dL_law_1011 rfl rfl ?_
  refine JT_iload (q := 0) dL_law_1012 rfl ?_
  refine JT_iconst (v := 1) dL_law_1014 (by decide) ?_
  refine JT_iadd dL_law_1015 ?_
  refine JT_sld dL_law_1016 (by rw [show mS (std sm) = X from hXm]; exact hin1) ?_
  rw [show mS (std sm) = X from hXm]
  refine JT_aload_n (q := 4) dL_law_1017 rfl rfl ?_
  refine JT_iload (q := 0) dL_law_1018 rfl ?_
  refine JT_iconst (v := 2) dL_law_1020 (by decide) ?_
  refine JT_iadd dL_law_1021 ?_
  refine JT_sld dL_law_1022 (by rw [show mS (std sm) = X from hXm]; exact hin2) ?_
  rw [show mS (std sm) = X from hXm]
  refine JS_callVIm (M' := MX12_aged) (d' := 2) (As := [.int (X.2 (i + (1 : Int32)).toNatClampNeg), .int (X.2 (i + (2 : Int32)).toNatClampNeg)]) (rest := [.int vv]) (P := fun z w => (vX12_aged sm (X.2 (i + (1 : Int32)).toNatClampNeg) (X.2 (i + (2 : Int32)).toNatClampNeg)) = z ∧ (mX12_aged sm (X.2 (i + (1 : Int32)).toNatClampNeg) (X.2 (i + (2 : Int32)).toNatClampNeg)) = w) dL_law_1023 cvL_121 okX12_aged rfl (Nat.le_of_ble_eq_true rfl) BS_248 (Nat.le_of_ble_eq_true rfl) (Nat.le_of_ble_eq_true rfl) hci_12 (Nat.le_of_ble_eq_true rfl) (Nat.le_of_ble_eq_true rfl) (pX12_aged (X.2 (i + (1 : Int32)).toNatClampNeg) (X.2 (i + (2 : Int32)).toNatClampNeg) (by rw [hsm]; exact hr2) ⟨rfl, rfl⟩) (fun z w hq => ?_)
  obtain ⟨e1, e2⟩ := hq
  rw [hsm] at e1
  refine JT_icmp_eq (tgt := 1740) dL_law_1026 (by decide) (fun _ => ?_) (fun hne => absurd (hvv.trans (hv.trans e1)) hne)
  rw [← e2, hsm]
  exact k _ hI
set_option maxRecDepth 1000000 in
theorem law_owes {X : Nat × (Nat → Int32)} {INV INV2 : SM → Prop} (hX : ∀ s, INV s → s.2.2.2 = X) (h : S_owes INV INV2) {mc ms : Nat} {s : SM} (hs : INV s) {i : Int32} (hin1 : vp_in (i + (1 : Int32)) X.1) (hin2 : vp_in (i + (2 : Int32)) X.1) (hin3 : vp_in (i + (3 : Int32)) X.1) (hin4 : vp_in (i + (4 : Int32)) X.1) (hin5 : vp_in (i + (5 : Int32)) X.1) {QL : Option Value → JMem → Prop} (k : ∀ s', INV2 s' → JT ML_law 421 mc ms 1740 [(4, .int i), (3, .ref 278), (2, .ref 248), (1, .ref 2), (0, .ref 0)] [] (std s') QL) : JT ML_law 421 mc ms 1031 [(4, .int i), (3, .ref 278), (2, .ref 248), (1, .ref 2), (0, .ref 0)] [] (std s) QL := by
  have hXs : mS (std s) = X := hX s hs
  have H := h s (X.2 (i + (1 : Int32)).toNatClampNeg) (X.2 (i + (2 : Int32)).toNatClampNeg) hs
  obtain ⟨hr1, hr2, hv, hI⟩ := H
  refine JT_aload_n (q := 3) dL_law_1031 rfl rfl ?_
  refine JT_aload_n (q := 4) dL_law_1032 rfl rfl ?_
  refine JT_iload (q := 0) dL_law_1033 rfl ?_
  refine JT_iconst (v := 1) dL_law_1035 (by decide) ?_
  refine JT_iadd dL_law_1036 ?_
  refine JT_sld dL_law_1037 (by rw [show mS (std s) = X from hXs]; exact hin1) ?_
  rw [show mS (std s) = X from hXs]
  refine JT_aload_n (q := 4) dL_law_1038 rfl rfl ?_
  refine JT_iload (q := 0) dL_law_1039 rfl ?_
  refine JT_iconst (v := 2) dL_law_1041 (by decide) ?_
  refine JT_iadd dL_law_1042 ?_
  refine JT_sld dL_law_1043 (by rw [show mS (std s) = X from hXs]; exact hin2) ?_
  rw [show mS (std s) = X from hXs]
  refine JS_callVIm (M' := MX11_owes) (d' := 2) (As := [.int (X.2 (i + (1 : Int32)).toNatClampNeg), .int (X.2 (i + (2 : Int32)).toNatClampNeg)]) (rest := []) (P := fun z w => (vX11_owes s (X.2 (i + (1 : Int32)).toNatClampNeg) (X.2 (i + (2 : Int32)).toNatClampNeg)) = z ∧ s = w) dL_law_1044 cvL_122 okX11_owes rfl (Nat.le_of_ble_eq_true rfl) BS_2 (Nat.le_of_ble_eq_true rfl) (Nat.le_of_ble_eq_true rfl) hci_11 (Nat.le_of_ble_eq_true rfl) (Nat.le_of_ble_eq_true rfl) (pX11_owes (X.2 (i + (1 : Int32)).toNatClampNeg) (X.2 (i + (2 : Int32)).toNatClampNeg) hr1 ⟨rfl, rfl⟩) (fun z w hq => ?_)
  obtain ⟨e1, e2⟩ := hq
  rw [← e1, ← e2]
  obtain ⟨vv, hvv⟩ : ∃ z, z = (vX11_owes s (X.2 (i + (1 : Int32)).toNatClampNeg) (X.2 (i + (2 : Int32)).toNatClampNeg)) := ⟨_, rfl⟩
  rw [← hvv]
  obtain ⟨sm, hsm⟩ : ∃ z, z = s := ⟨_, rfl⟩
  rw [← hsm]
  have hXm : mS (std sm) = X := by rw [hsm]; exact hXs
  refine JT_aload_n (q := 2) dL_law_1047 rfl rfl ?_
  refine JT_aload_n (q := 4) dL_law_1048 rfl rfl ?_
  refine JT_iload (q := 0) dL_law_1049 rfl ?_
  refine JT_iconst (v := 1) dL_law_1051 (by decide) ?_
  refine JT_iadd dL_law_1052 ?_
  refine JT_sld dL_law_1053 (by rw [show mS (std sm) = X from hXm]; exact hin1) ?_
  rw [show mS (std sm) = X from hXm]
  refine JT_aload_n (q := 4) dL_law_1054 rfl rfl ?_
  refine JT_iload (q := 0) dL_law_1055 rfl ?_
  refine JT_iconst (v := 2) dL_law_1057 (by decide) ?_
  refine JT_iadd dL_law_1058 ?_
  refine JT_sld dL_law_1059 (by rw [show mS (std sm) = X from hXm]; exact hin2) ?_
  rw [show mS (std sm) = X from hXm]
  refine JS_callVIm (M' := MX12_owes) (d' := 3) (As := [.int (X.2 (i + (1 : Int32)).toNatClampNeg), .int (X.2 (i + (2 : Int32)).toNatClampNeg)]) (rest := [.int vv]) (P := fun z w => (vX12_owes sm (X.2 (i + (1 : Int32)).toNatClampNeg) (X.2 (i + (2 : Int32)).toNatClampNeg)) = z ∧ (mX12_owes sm (X.2 (i + (1 : Int32)).toNatClampNeg) (X.2 (i + (2 : Int32)).toNatClampNeg)) = w) dL_law_1060 cvL_125 okX12_owes rfl (Nat.le_of_ble_eq_true rfl) BS_248 (Nat.le_of_ble_eq_true rfl) (Nat.le_of_ble_eq_true rfl) hci_12 (Nat.le_of_ble_eq_true rfl) (Nat.le_of_ble_eq_true rfl) (pX12_owes (X.2 (i + (1 : Int32)).toNatClampNeg) (X.2 (i + (2 : Int32)).toNatClampNeg) (by rw [hsm]; exact hr2) ⟨rfl, rfl⟩) (fun z w hq => ?_)
  obtain ⟨e1, e2⟩ := hq
  rw [hsm] at e1
  refine JT_icmp_eq (tgt := 1740) dL_law_1063 (by decide) (fun _ => ?_) (fun hne => absurd (hvv.trans (hv.trans e1)) hne)
  rw [← e2, hsm]
  exact k _ hI
set_option maxRecDepth 1000000 in
theorem law_chain {X : Nat × (Nat → Int32)} {INV INV2 : SM → Prop} (hX : ∀ s, INV s → s.2.2.2 = X) (h : S_chain INV INV2) {mc ms : Nat} {s : SM} (hs : INV s) {i : Int32} (hin1 : vp_in (i + (1 : Int32)) X.1) (hin2 : vp_in (i + (2 : Int32)) X.1) (hin3 : vp_in (i + (3 : Int32)) X.1) (hin4 : vp_in (i + (4 : Int32)) X.1) (hin5 : vp_in (i + (5 : Int32)) X.1) {QL : Option Value → JMem → Prop} (k : ∀ s', INV2 s' → JT ML_law 421 mc ms 1740 [(4, .int i), (3, .ref 278), (2, .ref 248), (1, .ref 2), (0, .ref 0)] [] (std s') QL) : JT ML_law 421 mc ms 1068 [(4, .int i), (3, .ref 278), (2, .ref 248), (1, .ref 2), (0, .ref 0)] [] (std s) QL := by
  have hXs : mS (std s) = X := hX s hs
  have H := h s (X.2 (i + (1 : Int32)).toNatClampNeg) (X.2 (i + (2 : Int32)).toNatClampNeg) hs
  obtain ⟨hr1, hr2, hv, hI⟩ := H
  refine JT_aload_n (q := 3) dL_law_1068 rfl rfl ?_
  refine JT_aload_n (q := 4) dL_law_1069 rfl rfl ?_
  refine JT_iload (q := 0) dL_law_1070 rfl ?_
  refine JT_iconst (v := 1) dL_law_1072 (by decide) ?_
  refine JT_iadd dL_law_1073 ?_
  refine JT_sld dL_law_1074 (by rw [show mS (std s) = X from hXs]; exact hin1) ?_
  rw [show mS (std s) = X from hXs]
  refine JT_aload_n (q := 4) dL_law_1075 rfl rfl ?_
  refine JT_iload (q := 0) dL_law_1076 rfl ?_
  refine JT_iconst (v := 2) dL_law_1078 (by decide) ?_
  refine JT_iadd dL_law_1079 ?_
  refine JT_sld dL_law_1080 (by rw [show mS (std s) = X from hXs]; exact hin2) ?_
  rw [show mS (std s) = X from hXs]
  refine JS_callVIm (M' := MX11_chain) (d' := 3) (As := [.int (X.2 (i + (1 : Int32)).toNatClampNeg), .int (X.2 (i + (2 : Int32)).toNatClampNeg)]) (rest := []) (P := fun z w => (vX11_chain s (X.2 (i + (1 : Int32)).toNatClampNeg) (X.2 (i + (2 : Int32)).toNatClampNeg)) = z ∧ s = w) dL_law_1081 cvL_126 okX11_chain rfl (Nat.le_of_ble_eq_true rfl) BS_2 (Nat.le_of_ble_eq_true rfl) (Nat.le_of_ble_eq_true rfl) hci_11 (Nat.le_of_ble_eq_true rfl) (Nat.le_of_ble_eq_true rfl) (pX11_chain (X.2 (i + (1 : Int32)).toNatClampNeg) (X.2 (i + (2 : Int32)).toNatClampNeg) hr1 ⟨rfl, rfl⟩) (fun z w hq => ?_)
  obtain ⟨e1, e2⟩ := hq
  rw [← e1, ← e2]
  obtain ⟨vv, hvv⟩ : ∃ z, z = (vX11_chain s (X.2 (i + (1 : Int32)).toNatClampNeg) (X.2 (i + (2 : Int32)).toNatClampNeg)) := ⟨_, rfl⟩
  rw [← hvv]
  obtain ⟨sm, hsm⟩ : ∃ z, z = s := ⟨_, rfl⟩
  rw [← hsm]
  have hXm : mS (std sm) = X := by rw [hsm]; exact hXs
  refine JT_aload_n (q := 2) dL_law_1084 rfl rfl ?_
  refine JT_aload_n (q := 4) dL_law_1085 rfl rfl ?_
  refine JT_iload (q := 0) dL_law_1086 rfl ?_
  refine JT_iconst (v := 1) dL_law_1088 (by decide) ?_
  refine JT_iadd dL_law_1089 ?_
  refine JT_sld dL_law_1090 (by rw [show mS (std sm) = X from hXm]; exact hin1) ?_
  rw [show mS (std sm) = X from hXm]
  refine JT_aload_n (q := 4) dL_law_1091 rfl rfl ?_
  refine JT_iload (q := 0) dL_law_1092 rfl ?_
  refine JT_iconst (v := 2) dL_law_1094 (by decide) ?_
  refine JT_iadd dL_law_1095 ?_
  refine JT_sld dL_law_1096 (by rw [show mS (std sm) = X from hXm]; exact hin2) ?_
  rw [show mS (std sm) = X from hXm]
  refine JS_callVIm (M' := MX12_chain) (d' := 3) (As := [.int (X.2 (i + (1 : Int32)).toNatClampNeg), .int (X.2 (i + (2 : Int32)).toNatClampNeg)]) (rest := [.int vv]) (P := fun z w => (vX12_chain sm (X.2 (i + (1 : Int32)).toNatClampNeg) (X.2 (i + (2 : Int32)).toNatClampNeg)) = z ∧ (mX12_chain sm (X.2 (i + (1 : Int32)).toNatClampNeg) (X.2 (i + (2 : Int32)).toNatClampNeg)) = w) dL_law_1097 cvL_129 okX12_chain rfl (Nat.le_of_ble_eq_true rfl) BS_248 (Nat.le_of_ble_eq_true rfl) (Nat.le_of_ble_eq_true rfl) hci_12 (Nat.le_of_ble_eq_true rfl) (Nat.le_of_ble_eq_true rfl) (pX12_chain (X.2 (i + (1 : Int32)).toNatClampNeg) (X.2 (i + (2 : Int32)).toNatClampNeg) (by rw [hsm]; exact hr2) ⟨rfl, rfl⟩) (fun z w hq => ?_)
  obtain ⟨e1, e2⟩ := hq
  rw [hsm] at e1
  refine JT_icmp_eq (tgt := 1740) dL_law_1100 (by decide) (fun _ => ?_) (fun hne => absurd (hvv.trans (hv.trans e1)) hne)
  rw [← e2, hsm]
  exact k _ hI
set_option maxRecDepth 1000000 in
theorem law_fullest {X : Nat × (Nat → Int32)} {INV INV2 : SM → Prop} (hX : ∀ s, INV s → s.2.2.2 = X) (h : S_fullest INV INV2) {mc ms : Nat} {s : SM} (hs : INV s) {i : Int32} (hin1 : vp_in (i + (1 : Int32)) X.1) (hin2 : vp_in (i + (2 : Int32)) X.1) (hin3 : vp_in (i + (3 : Int32)) X.1) (hin4 : vp_in (i + (4 : Int32)) X.1) (hin5 : vp_in (i + (5 : Int32)) X.1) {QL : Option Value → JMem → Prop} (k : ∀ s', INV2 s' → JT ML_law 421 mc ms 1740 [(4, .int i), (3, .ref 278), (2, .ref 248), (1, .ref 2), (0, .ref 0)] [] (std s') QL) : JT ML_law 421 mc ms 1105 [(4, .int i), (3, .ref 278), (2, .ref 248), (1, .ref 2), (0, .ref 0)] [] (std s) QL := by
  have hXs : mS (std s) = X := hX s hs
  have H := h s (X.2 (i + (1 : Int32)).toNatClampNeg) hs
  obtain ⟨hr1, hr2, hv, hI⟩ := H
  refine JT_aload_n (q := 3) dL_law_1105 rfl rfl ?_
  refine JT_aload_n (q := 4) dL_law_1106 rfl rfl ?_
  refine JT_iload (q := 0) dL_law_1107 rfl ?_
  refine JT_iconst (v := 1) dL_law_1109 (by decide) ?_
  refine JT_iadd dL_law_1110 ?_
  refine JT_sld dL_law_1111 (by rw [show mS (std s) = X from hXs]; exact hin1) ?_
  rw [show mS (std s) = X from hXs]
  refine JS_callVIm (M' := MX11_fullest) (d' := 2) (As := [.int (X.2 (i + (1 : Int32)).toNatClampNeg)]) (rest := []) (P := fun z w => (vX11_fullest s (X.2 (i + (1 : Int32)).toNatClampNeg)) = z ∧ s = w) dL_law_1112 cvL_130 okX11_fullest rfl (Nat.le_of_ble_eq_true rfl) BS_2 (Nat.le_of_ble_eq_true rfl) (Nat.le_of_ble_eq_true rfl) hci_11 (Nat.le_of_ble_eq_true rfl) (Nat.le_of_ble_eq_true rfl) (pX11_fullest (X.2 (i + (1 : Int32)).toNatClampNeg) hr1 ⟨rfl, rfl⟩) (fun z w hq => ?_)
  obtain ⟨e1, e2⟩ := hq
  rw [← e1, ← e2]
  obtain ⟨vv, hvv⟩ : ∃ z, z = (vX11_fullest s (X.2 (i + (1 : Int32)).toNatClampNeg)) := ⟨_, rfl⟩
  rw [← hvv]
  obtain ⟨sm, hsm⟩ : ∃ z, z = s := ⟨_, rfl⟩
  rw [← hsm]
  have hXm : mS (std sm) = X := by rw [hsm]; exact hXs
  refine JT_aload_n (q := 2) dL_law_1115 rfl rfl ?_
  refine JT_aload_n (q := 4) dL_law_1116 rfl rfl ?_
  refine JT_iload (q := 0) dL_law_1117 rfl ?_
  refine JT_iconst (v := 1) dL_law_1119 (by decide) ?_
  refine JT_iadd dL_law_1120 ?_
  refine JT_sld dL_law_1121 (by rw [show mS (std sm) = X from hXm]; exact hin1) ?_
  rw [show mS (std sm) = X from hXm]
  refine JS_callVIm (M' := MX12_fullest) (d' := 3) (As := [.int (X.2 (i + (1 : Int32)).toNatClampNeg)]) (rest := [.int vv]) (P := fun z w => (vX12_fullest sm (X.2 (i + (1 : Int32)).toNatClampNeg)) = z ∧ (mX12_fullest sm (X.2 (i + (1 : Int32)).toNatClampNeg)) = w) dL_law_1122 cvL_133 okX12_fullest rfl (Nat.le_of_ble_eq_true rfl) BS_248 (Nat.le_of_ble_eq_true rfl) (Nat.le_of_ble_eq_true rfl) hci_12 (Nat.le_of_ble_eq_true rfl) (Nat.le_of_ble_eq_true rfl) (pX12_fullest (X.2 (i + (1 : Int32)).toNatClampNeg) (by rw [hsm]; exact hr2) ⟨rfl, rfl⟩) (fun z w hq => ?_)
  obtain ⟨e1, e2⟩ := hq
  rw [hsm] at e1
  refine JT_icmp_eq (tgt := 1740) dL_law_1125 (by decide) (fun _ => ?_) (fun hne => absurd (hvv.trans (hv.trans e1)) hne)
  rw [← e2, hsm]
  exact k _ hI
set_option maxRecDepth 1000000 in
theorem law_trade {X : Nat × (Nat → Int32)} {INV INV2 : SM → Prop} (hX : ∀ s, INV s → s.2.2.2 = X) (h : S_trade INV INV2) {mc ms : Nat} {s : SM} (hs : INV s) {i : Int32} (hin1 : vp_in (i + (1 : Int32)) X.1) (hin2 : vp_in (i + (2 : Int32)) X.1) (hin3 : vp_in (i + (3 : Int32)) X.1) (hin4 : vp_in (i + (4 : Int32)) X.1) (hin5 : vp_in (i + (5 : Int32)) X.1) {QL : Option Value → JMem → Prop} (k : ∀ s', INV2 s' → JT ML_law 421 mc ms 1740 [(4, .int i), (3, .ref 278), (2, .ref 248), (1, .ref 2), (0, .ref 0)] [] (std s') QL) : JT ML_law 421 mc ms 1130 [(4, .int i), (3, .ref 278), (2, .ref 248), (1, .ref 2), (0, .ref 0)] [] (std s) QL := by
  have hXs : mS (std s) = X := hX s hs
  have H := h s (X.2 (i + (1 : Int32)).toNatClampNeg) (X.2 (i + (2 : Int32)).toNatClampNeg) hs
  obtain ⟨hr1, hr2, hv, hI⟩ := H
  refine JT_aload_n (q := 3) dL_law_1130 rfl rfl ?_
  refine JT_aload_n (q := 4) dL_law_1131 rfl rfl ?_
  refine JT_iload (q := 0) dL_law_1132 rfl ?_
  refine JT_iconst (v := 1) dL_law_1134 (by decide) ?_
  refine JT_iadd dL_law_1135 ?_
  refine JT_sld dL_law_1136 (by rw [show mS (std s) = X from hXs]; exact hin1) ?_
  rw [show mS (std s) = X from hXs]
  refine JT_aload_n (q := 4) dL_law_1137 rfl rfl ?_
  refine JT_iload (q := 0) dL_law_1138 rfl ?_
  refine JT_iconst (v := 2) dL_law_1140 (by decide) ?_
  refine JT_iadd dL_law_1141 ?_
  refine JT_sld dL_law_1142 (by rw [show mS (std s) = X from hXs]; exact hin2) ?_
  rw [show mS (std s) = X from hXs]
  refine JS_callVIm (M' := MX11_trade) (d' := 2) (As := [.int (X.2 (i + (1 : Int32)).toNatClampNeg), .int (X.2 (i + (2 : Int32)).toNatClampNeg)]) (rest := []) (P := fun z w => (vX11_trade s (X.2 (i + (1 : Int32)).toNatClampNeg) (X.2 (i + (2 : Int32)).toNatClampNeg)) = z ∧ s = w) dL_law_1143 cvL_134 okX11_trade rfl (Nat.le_of_ble_eq_true rfl) BS_2 (Nat.le_of_ble_eq_true rfl) (Nat.le_of_ble_eq_true rfl) hci_11 (Nat.le_of_ble_eq_true rfl) (Nat.le_of_ble_eq_true rfl) (pX11_trade (X.2 (i + (1 : Int32)).toNatClampNeg) (X.2 (i + (2 : Int32)).toNatClampNeg) hr1 ⟨rfl, rfl⟩) (fun z w hq => ?_)
  obtain ⟨e1, e2⟩ := hq
  rw [← e1, ← e2]
  obtain ⟨vv, hvv⟩ : ∃ z, z = (vX11_trade s (X.2 (i + (1 : Int32)).toNatClampNeg) (X.2 (i + (2 : Int32)).toNatClampNeg)) := ⟨_, rfl⟩
  rw [← hvv]
  obtain ⟨sm, hsm⟩ : ∃ z, z = s := ⟨_, rfl⟩
  rw [← hsm]
  have hXm : mS (std sm) = X := by rw [hsm]; exact hXs
  refine JT_aload_n (q := 2) dL_law_1146 rfl rfl ?_
  refine JT_aload_n (q := 4) dL_law_1147 rfl rfl ?_
  refine JT_iload (q := 0) dL_law_1148 rfl ?_
  refine JT_iconst (v := 1) dL_law_1150 (by decide) ?_
  refine JT_iadd dL_law_1151 ?_
  refine JT_sld dL_law_1152 (by rw [show mS (std sm) = X from hXm]; exact hin1) ?_
  rw [show mS (std sm) = X from hXm]
  refine JT_aload_n (q := 4) dL_law_1153 rfl rfl ?_
  refine JT_iload (q := 0) dL_law_1154 rfl ?_
  refine JT_iconst (v := 2) dL_law_1156 (by decide) ?_
  refine JT_iadd dL_law_1157 ?_
  refine JT_sld dL_law_1158 (by rw [show mS (std sm) = X from hXm]; exact hin2) ?_
  rw [show mS (std sm) = X from hXm]
  refine JS_callVIm (M' := MX12_trade) (d' := 3) (As := [.int (X.2 (i + (1 : Int32)).toNatClampNeg), .int (X.2 (i + (2 : Int32)).toNatClampNeg)]) (rest := [.int vv]) (P := fun z w => (vX12_trade sm (X.2 (i + (1 : Int32)).toNatClampNeg) (X.2 (i + (2 : Int32)).toNatClampNeg)) = z ∧ (mX12_trade sm (X.2 (i + (1 : Int32)).toNatClampNeg) (X.2 (i + (2 : Int32)).toNatClampNeg)) = w) dL_law_1159 cvL_137 okX12_trade rfl (Nat.le_of_ble_eq_true rfl) BS_248 (Nat.le_of_ble_eq_true rfl) (Nat.le_of_ble_eq_true rfl) hci_12 (Nat.le_of_ble_eq_true rfl) (Nat.le_of_ble_eq_true rfl) (pX12_trade (X.2 (i + (1 : Int32)).toNatClampNeg) (X.2 (i + (2 : Int32)).toNatClampNeg) (by rw [hsm]; exact hr2) ⟨rfl, rfl⟩) (fun z w hq => ?_)
  obtain ⟨e1, e2⟩ := hq
  rw [hsm] at e1
  refine JT_icmp_eq (tgt := 1740) dL_law_1162 (by decide) (fun _ => ?_) (fun hne => absurd (hvv.trans (hv.trans e1)) hne)
  rw [← e2, hsm]
  exact k _ hI
set_option maxRecDepth 1000000 in
theorem law_settled {X : Nat × (Nat → Int32)} {INV INV2 : SM → Prop} (hX : ∀ s, INV s → s.2.2.2 = X) (h : S_settled INV INV2) {mc ms : Nat} {s : SM} (hs : INV s) {i : Int32} (hin1 : vp_in (i + (1 : Int32)) X.1) (hin2 : vp_in (i + (2 : Int32)) X.1) (hin3 : vp_in (i + (3 : Int32)) X.1) (hin4 : vp_in (i + (4 : Int32)) X.1) (hin5 : vp_in (i + (5 : Int32)) X.1) {QL : Option Value → JMem → Prop} (k : ∀ s', INV2 s' → JT ML_law 421 mc ms 1740 [(4, .int i), (3, .ref 278), (2, .ref 248), (1, .ref 2), (0, .ref 0)] [] (std s') QL) : JT ML_law 421 mc ms 1167 [(4, .int i), (3, .ref 278), (2, .ref 248), (1, .ref 2), (0, .ref 0)] [] (std s) QL := by
  have hXs : mS (std s) = X := hX s hs
  have H := h s  hs
  obtain ⟨hr1, hr2, hv, hI, hX1⟩ := H
  refine JT_aload_n (q := 3) dL_law_1167 rfl rfl ?_
  refine JS_callVIm (M' := MX11_settled) (d' := 4) (As := []) (rest := []) (P := fun z w => (vX11_settled s ) = z ∧ (mX11_settled s ) = w) dL_law_1168 cvL_138 okX11_settled rfl (Nat.le_of_ble_eq_true rfl) BS_2 (Nat.le_of_ble_eq_true rfl) (Nat.le_of_ble_eq_true rfl) hci_11 (Nat.le_of_ble_eq_true rfl) (Nat.le_of_ble_eq_true rfl) (pX11_settled  hr1 ⟨rfl, rfl⟩) (fun z w hq => ?_)
  obtain ⟨e1, e2⟩ := hq
  rw [← e1, ← e2]
  obtain ⟨vv, hvv⟩ : ∃ z, z = (vX11_settled s ) := ⟨_, rfl⟩
  rw [← hvv]
  obtain ⟨sm, hsm⟩ : ∃ z, z = (mX11_settled s ) := ⟨_, rfl⟩
  rw [← hsm]
  have hXm : mS (std sm) = X := by rw [hsm]; exact hX1.trans hXs
  refine JT_aload_n (q := 2) dL_law_1171 rfl rfl ?_
  refine JS_callVIm (M' := MX12_settled) (d' := 4) (As := []) (rest := [.int vv]) (P := fun z w => (vX12_settled sm ) = z ∧ (mX12_settled sm ) = w) dL_law_1172 cvL_141 okX12_settled rfl (Nat.le_of_ble_eq_true rfl) BS_248 (Nat.le_of_ble_eq_true rfl) (Nat.le_of_ble_eq_true rfl) hci_12 (Nat.le_of_ble_eq_true rfl) (Nat.le_of_ble_eq_true rfl) (pX12_settled  (by rw [hsm]; exact hr2) ⟨rfl, rfl⟩) (fun z w hq => ?_)
  obtain ⟨e1, e2⟩ := hq
  rw [hsm] at e1
  refine JT_icmp_eq (tgt := 1740) dL_law_1175 (by decide) (fun _ => ?_) (fun hne => absurd (hvv.trans (hv.trans e1)) hne)
  rw [← e2, hsm]
  exact k _ hI
set_option maxRecDepth 1000000 in
theorem law_skin {X : Nat × (Nat → Int32)} {INV INV2 : SM → Prop} (hX : ∀ s, INV s → s.2.2.2 = X) (h : S_skin INV INV2) {mc ms : Nat} {s : SM} (hs : INV s) {i : Int32} (hin1 : vp_in (i + (1 : Int32)) X.1) (hin2 : vp_in (i + (2 : Int32)) X.1) (hin3 : vp_in (i + (3 : Int32)) X.1) (hin4 : vp_in (i + (4 : Int32)) X.1) (hin5 : vp_in (i + (5 : Int32)) X.1) {QL : Option Value → JMem → Prop} (k : ∀ s', INV2 s' → JT ML_law 421 mc ms 1740 [(4, .int i), (3, .ref 278), (2, .ref 248), (1, .ref 2), (0, .ref 0)] [] (std s') QL) : JT ML_law 421 mc ms 1180 [(4, .int i), (3, .ref 278), (2, .ref 248), (1, .ref 2), (0, .ref 0)] [] (std s) QL := by
  have hXs : mS (std s) = X := hX s hs
  have H := h s (X.2 (i + (1 : Int32)).toNatClampNeg) hs
  obtain ⟨hr1, hr2, hv, hI, hX1⟩ := H
  refine JT_aload_n (q := 3) dL_law_1180 rfl rfl ?_
  refine JT_aload_n (q := 4) dL_law_1181 rfl rfl ?_
  refine JT_iload (q := 0) dL_law_1182 rfl ?_
  refine JT_iconst (v := 1) dL_law_1184 (by decide) ?_
  refine JT_iadd dL_law_1185 ?_
  refine JT_sld dL_law_1186 (by rw [show mS (std s) = X from hXs]; exact hin1) ?_
  rw [show mS (std s) = X from hXs]
  refine JS_callVIm (M' := MX11_skin) (d' := 3) (As := [.int (X.2 (i + (1 : Int32)).toNatClampNeg)]) (rest := []) (P := fun z w => (vX11_skin s (X.2 (i + (1 : Int32)).toNatClampNeg)) = z ∧ (mX11_skin s (X.2 (i + (1 : Int32)).toNatClampNeg)) = w) dL_law_1187 cvL_142 okX11_skin rfl (Nat.le_of_ble_eq_true rfl) BS_2 (Nat.le_of_ble_eq_true rfl) (Nat.le_of_ble_eq_true rfl) hci_11 (Nat.le_of_ble_eq_true rfl) (Nat.le_of_ble_eq_true rfl) (pX11_skin (X.2 (i + (1 : Int32)).toNatClampNeg) hr1 ⟨rfl, rfl⟩) (fun z w hq => ?_)
  obtain ⟨e1, e2⟩ := hq
  rw [← e1, ← e2]
  obtain ⟨vv, hvv⟩ : ∃ z, z = (vX11_skin s (X.2 (i + (1 : Int32)).toNatClampNeg)) := ⟨_, rfl⟩
  rw [← hvv]
  obtain ⟨sm, hsm⟩ : ∃ z, z = (mX11_skin s (X.2 (i + (1 : Int32)).toNatClampNeg)) := ⟨_, rfl⟩
  rw [← hsm]
  have hXm : mS (std sm) = X := by rw [hsm]; exact hX1.trans hXs
  refine JT_aload_n (q := 2) dL_law_1190 rfl rfl ?_
  refine JT_aload_n (q := 4) dL_law_1191 rfl rfl ?_
  refine JT_iload (q := 0) dL_law_1192 rfl ?_
  refine JT_iconst (v := 1) dL_law_1194 (by decide) ?_
  refine JT_iadd dL_law_1195 ?_
  refine JT_sld dL_law_1196 (by rw [show mS (std sm) = X from hXm]; exact hin1) ?_
  rw [show mS (std sm) = X from hXm]
  refine JS_callVIm (M' := MX12_skin) (d' := 2) (As := [.int (X.2 (i + (1 : Int32)).toNatClampNeg)]) (rest := [.int vv]) (P := fun z w => (vX12_skin sm (X.2 (i + (1 : Int32)).toNatClampNeg)) = z ∧ (mX12_skin sm (X.2 (i + (1 : Int32)).toNatClampNeg)) = w) dL_law_1197 cvL_145 okX12_skin rfl (Nat.le_of_ble_eq_true rfl) BS_248 (Nat.le_of_ble_eq_true rfl) (Nat.le_of_ble_eq_true rfl) hci_12 (Nat.le_of_ble_eq_true rfl) (Nat.le_of_ble_eq_true rfl) (pX12_skin (X.2 (i + (1 : Int32)).toNatClampNeg) (by rw [hsm]; exact hr2) ⟨rfl, rfl⟩) (fun z w hq => ?_)
  obtain ⟨e1, e2⟩ := hq
  rw [hsm] at e1
  refine JT_icmp_eq (tgt := 1740) dL_law_1200 (by decide) (fun _ => ?_) (fun hne => absurd (hvv.trans (hv.trans e1)) hne)
  rw [← e2, hsm]
  exact k _ hI
set_option maxRecDepth 1000000 in
theorem law_byteAt {X : Nat × (Nat → Int32)} {INV INV2 : SM → Prop} (hX : ∀ s, INV s → s.2.2.2 = X) (h : S_byteAt INV INV2) {mc ms : Nat} {s : SM} (hs : INV s) {i : Int32} (hin1 : vp_in (i + (1 : Int32)) X.1) (hin2 : vp_in (i + (2 : Int32)) X.1) (hin3 : vp_in (i + (3 : Int32)) X.1) (hin4 : vp_in (i + (4 : Int32)) X.1) (hin5 : vp_in (i + (5 : Int32)) X.1) {QL : Option Value → JMem → Prop} (k : ∀ s', INV2 s' → JT ML_law 421 mc ms 1740 [(4, .int i), (3, .ref 278), (2, .ref 248), (1, .ref 2), (0, .ref 0)] [] (std s') QL) : JT ML_law 421 mc ms 1205 [(4, .int i), (3, .ref 278), (2, .ref 248), (1, .ref 2), (0, .ref 0)] [] (std s) QL := by
  have hXs : mS (std s) = X := hX s hs
  have H := h s (X.2 (i + (1 : Int32)).toNatClampNeg) hs
  obtain ⟨hr1, hr2, hv, hI⟩ := H
  refine JT_aload_n (q := 3) dL_law_1205 rfl rfl ?_
  refine JT_aload_n (q := 4) dL_law_1206 rfl rfl ?_
  refine JT_iload (q := 0) dL_law_1207 rfl ?_
  refine JT_iconst (v := 1) dL_law_1209 (by decide) ?_
  refine JT_iadd dL_law_1210 ?_
  refine JT_sld dL_law_1211 (by rw [show mS (std s) = X from hXs]; exact hin1) ?_
  rw [show mS (std s) = X from hXs]
  refine JS_callVIm (M' := MX11_byteAt) (d' := 1) (As := [.int (X.2 (i + (1 : Int32)).toNatClampNeg)]) (rest := []) (P := fun z w => (vX11_byteAt s (X.2 (i + (1 : Int32)).toNatClampNeg)) = z ∧ s = w) dL_law_1212 cvL_146 okX11_byteAt rfl (Nat.le_of_ble_eq_true rfl) BS_2 (Nat.le_of_ble_eq_true rfl) (Nat.le_of_ble_eq_true rfl) hci_11 (Nat.le_of_ble_eq_true rfl) (Nat.le_of_ble_eq_true rfl) (pX11_byteAt (X.2 (i + (1 : Int32)).toNatClampNeg) hr1 ⟨rfl, rfl⟩) (fun z w hq => ?_)
  obtain ⟨e1, e2⟩ := hq
  rw [← e1, ← e2]
  obtain ⟨vv, hvv⟩ : ∃ z, z = (vX11_byteAt s (X.2 (i + (1 : Int32)).toNatClampNeg)) := ⟨_, rfl⟩
  rw [← hvv]
  obtain ⟨sm, hsm⟩ : ∃ z, z = s := ⟨_, rfl⟩
  rw [← hsm]
  have hXm : mS (std sm) = X := by rw [hsm]; exact hXs
  refine JT_aload_n (q := 2) dL_law_1215 rfl rfl ?_
  refine JT_aload_n (q := 4) dL_law_1216 rfl rfl ?_
  refine JT_iload (q := 0) dL_law_1217 rfl ?_
  refine JT_iconst (v := 1) dL_law_1219 (by decide) ?_
  refine JT_iadd dL_law_1220 ?_
  refine JT_sld dL_law_1221 (by rw [show mS (std sm) = X from hXm]; exact hin1) ?_
  rw [show mS (std sm) = X from hXm]
  refine JS_callVIm (M' := MX12_byteAt) (d' := 1) (As := [.int (X.2 (i + (1 : Int32)).toNatClampNeg)]) (rest := [.int vv]) (P := fun z w => (vX12_byteAt sm (X.2 (i + (1 : Int32)).toNatClampNeg)) = z ∧ (mX12_byteAt sm (X.2 (i + (1 : Int32)).toNatClampNeg)) = w) dL_law_1222 cvL_149 okX12_byteAt rfl (Nat.le_of_ble_eq_true rfl) BS_248 (Nat.le_of_ble_eq_true rfl) (Nat.le_of_ble_eq_true rfl) hci_12 (Nat.le_of_ble_eq_true rfl) (Nat.le_of_ble_eq_true rfl) (pX12_byteAt (X.2 (i + (1 : Int32)).toNatClampNeg) (by rw [hsm]; exact hr2) ⟨rfl, rfl⟩) (fun z w hq => ?_)
  obtain ⟨e1, e2⟩ := hq
  rw [hsm] at e1
  refine JT_icmp_eq (tgt := 1740) dL_law_1225 (by decide) (fun _ => ?_) (fun hne => absurd (hvv.trans (hv.trans e1)) hne)
  rw [← e2, hsm]
  exact k _ hI
set_option maxRecDepth 1000000 in
theorem law_between {X : Nat × (Nat → Int32)} {INV INV2 : SM → Prop} (hX : ∀ s, INV s → s.2.2.2 = X) (h : S_between INV INV2) {mc ms : Nat} {s : SM} (hs : INV s) {i : Int32} (hin1 : vp_in (i + (1 : Int32)) X.1) (hin2 : vp_in (i + (2 : Int32)) X.1) (hin3 : vp_in (i + (3 : Int32)) X.1) (hin4 : vp_in (i + (4 : Int32)) X.1) (hin5 : vp_in (i + (5 : Int32)) X.1) {QL : Option Value → JMem → Prop} (k : ∀ s', INV2 s' → JT ML_law 421 mc ms 1740 [(4, .int i), (3, .ref 278), (2, .ref 248), (1, .ref 2), (0, .ref 0)] [] (std s') QL) : JT ML_law 421 mc ms 1230 [(4, .int i), (3, .ref 278), (2, .ref 248), (1, .ref 2), (0, .ref 0)] [] (std s) QL := by
  have hXs : mS (std s) = X := hX s hs
  have H := h s (X.2 (i + (1 : Int32)).toNatClampNeg) (X.2 (i + (2 : Int32)).toNatClampNeg) (X.2 (i + (3 : Int32)).toNatClampNeg) hs
  obtain ⟨hr1, hr2, hv, hI⟩ := H
  refine JT_aload_n (q := 3) dL_law_1230 rfl rfl ?_
  refine JT_aload_n (q := 4) dL_law_1231 rfl rfl ?_
  refine JT_iload (q := 0) dL_law_1232 rfl ?_
  refine JT_iconst (v := 1) dL_law_1234 (by decide) ?_
  refine JT_iadd dL_law_1235 ?_
  refine JT_sld dL_law_1236 (by rw [show mS (std s) = X from hXs]; exact hin1) ?_
  rw [show mS (std s) = X from hXs]
  refine JT_aload_n (q := 4) dL_law_1237 rfl rfl ?_
  refine JT_iload (q := 0) dL_law_1238 rfl ?_
  refine JT_iconst (v := 2) dL_law_1240 (by decide) ?_
  refine JT_iadd dL_law_1241 ?_
  refine JT_sld dL_law_1242 (by rw [show mS (std s) = X from hXs]; exact hin2) ?_
  rw [show mS (std s) = X from hXs]
  refine JT_aload_n (q := 4) dL_law_1243 rfl rfl ?_
  refine JT_iload (q := 0) dL_law_1244 rfl ?_
  refine JT_iconst (v := 3) dL_law_1246 (by decide) ?_
  refine JT_iadd dL_law_1247 ?_
  refine JT_sld dL_law_1248 (by rw [show mS (std s) = X from hXs]; exact hin3) ?_
  rw [show mS (std s) = X from hXs]
  refine JS_callVIm (M' := MX11_between) (d' := 2) (As := [.int (X.2 (i + (1 : Int32)).toNatClampNeg), .int (X.2 (i + (2 : Int32)).toNatClampNeg), .int (X.2 (i + (3 : Int32)).toNatClampNeg)]) (rest := []) (P := fun z w => (vX11_between s (X.2 (i + (1 : Int32)).toNatClampNeg) (X.2 (i + (2 : Int32)).toNatClampNeg) (X.2 (i + (3 : Int32)).toNatClampNeg)) = z ∧ s = w) dL_law_1249 cvL_150 okX11_between rfl (Nat.le_of_ble_eq_true rfl) BS_2 (Nat.le_of_ble_eq_true rfl) (Nat.le_of_ble_eq_true rfl) hci_11 (Nat.le_of_ble_eq_true rfl) (Nat.le_of_ble_eq_true rfl) (pX11_between (X.2 (i + (1 : Int32)).toNatClampNeg) (X.2 (i + (2 : Int32)).toNatClampNeg) (X.2 (i + (3 : Int32)).toNatClampNeg) hr1 ⟨rfl, rfl⟩) (fun z w hq => ?_)
  obtain ⟨e1, e2⟩ := hq
  rw [← e1, ← e2]
  obtain ⟨vv, hvv⟩ : ∃ z, z = (vX11_between s (X.2 (i + (1 : Int32)).toNatClampNeg) (X.2 (i + (2 : Int32)).toNatClampNeg) (X.2 (i + (3 : Int32)).toNatClampNeg)) := ⟨_, rfl⟩
  rw [← hvv]
  obtain ⟨sm, hsm⟩ : ∃ z, z = s := ⟨_, rfl⟩
  rw [← hsm]
  have hXm : mS (std sm) = X := by rw [hsm]; exact hXs
  refine JT_aload_n (q := 2) dL_law_1252 rfl rfl ?_
  refine JT_aload_n (q := 4) dL_law_1253 rfl rfl ?_
  refine JT_iload (q := 0) dL_law_1254 rfl ?_
  refine JT_iconst (v := 1) dL_law_1256 (by decide) ?_
  refine JT_iadd dL_law_1257 ?_
  refine JT_sld dL_law_1258 (by rw [show mS (std sm) = X from hXm]; exact hin1) ?_
  rw [show mS (std sm) = X from hXm]
  refine JT_aload_n (q := 4) dL_law_1259 rfl rfl ?_
  refine JT_iload (q := 0) dL_law_1260 rfl ?_
  refine JT_iconst (v := 2) dL_law_1262 (by decide) ?_
  refine JT_iadd dL_law_1263 ?_
  refine JT_sld dL_law_1264 (by rw [show mS (std sm) = X from hXm]; exact hin2) ?_
  rw [show mS (std sm) = X from hXm]
  refine JT_aload_n (q := 4) dL_law_1265 rfl rfl ?_
  refine JT_iload (q := 0) dL_law_1266 rfl ?_
  refine JT_iconst (v := 3) dL_law_1268 (by decide) ?_
  refine JT_iadd dL_law_1269 ?_
  refine JT_sld dL_law_1270 (by rw [show mS (std sm) = X from hXm]; exact hin3) ?_
  rw [show mS (std sm) = X from hXm]
  refine JS_callVIm (M' := MX12_between) (d' := 3) (As := [.int (X.2 (i + (1 : Int32)).toNatClampNeg), .int (X.2 (i + (2 : Int32)).toNatClampNeg), .int (X.2 (i + (3 : Int32)).toNatClampNeg)]) (rest := [.int vv]) (P := fun z w => (vX12_between sm (X.2 (i + (1 : Int32)).toNatClampNeg) (X.2 (i + (2 : Int32)).toNatClampNeg) (X.2 (i + (3 : Int32)).toNatClampNeg)) = z ∧ (mX12_between sm (X.2 (i + (1 : Int32)).toNatClampNeg) (X.2 (i + (2 : Int32)).toNatClampNeg) (X.2 (i + (3 : Int32)).toNatClampNeg)) = w) dL_law_1271 cvL_153 okX12_between rfl (Nat.le_of_ble_eq_true rfl) BS_248 (Nat.le_of_ble_eq_true rfl) (Nat.le_of_ble_eq_true rfl) hci_12 (Nat.le_of_ble_eq_true rfl) (Nat.le_of_ble_eq_true rfl) (pX12_between (X.2 (i + (1 : Int32)).toNatClampNeg) (X.2 (i + (2 : Int32)).toNatClampNeg) (X.2 (i + (3 : Int32)).toNatClampNeg) (by rw [hsm]; exact hr2) ⟨rfl, rfl⟩) (fun z w hq => ?_)
  obtain ⟨e1, e2⟩ := hq
  rw [hsm] at e1
  refine JT_icmp_eq (tgt := 1740) dL_law_1274 (by decide) (fun _ => ?_) (fun hne => absurd (hvv.trans (hv.trans e1)) hne)
  rw [← e2, hsm]
  exact k _ hI
set_option maxRecDepth 1000000 in
theorem law_greatest {X : Nat × (Nat → Int32)} {INV INV2 : SM → Prop} (hX : ∀ s, INV s → s.2.2.2 = X) (h : S_greatest INV INV2) {mc ms : Nat} {s : SM} (hs : INV s) {i : Int32} (hin1 : vp_in (i + (1 : Int32)) X.1) (hin2 : vp_in (i + (2 : Int32)) X.1) (hin3 : vp_in (i + (3 : Int32)) X.1) (hin4 : vp_in (i + (4 : Int32)) X.1) (hin5 : vp_in (i + (5 : Int32)) X.1) {QL : Option Value → JMem → Prop} (k : ∀ s', INV2 s' → JT ML_law 421 mc ms 1740 [(4, .int i), (3, .ref 278), (2, .ref 248), (1, .ref 2), (0, .ref 0)] [] (std s') QL) : JT ML_law 421 mc ms 1279 [(4, .int i), (3, .ref 278), (2, .ref 248), (1, .ref 2), (0, .ref 0)] [] (std s) QL := by
  have hXs : mS (std s) = X := hX s hs
  have H := h s (X.2 (i + (1 : Int32)).toNatClampNeg) hs
  obtain ⟨hr1, hr2, hv, hI⟩ := H
  refine JT_aload_n (q := 3) dL_law_1279 rfl rfl ?_
  refine JT_aload_n (q := 4) dL_law_1280 rfl rfl ?_
  refine JT_iload (q := 0) dL_law_1281 rfl ?_
  refine JT_iconst (v := 1) dL_law_1283 (by decide) ?_
  refine JT_iadd dL_law_1284 ?_
  refine JT_sld dL_law_1285 (by rw [show mS (std s) = X from hXs]; exact hin1) ?_
  rw [show mS (std s) = X from hXs]
  refine JS_callVIm (M' := MX11_greatest) (d' := 3) (As := [.int (X.2 (i + (1 : Int32)).toNatClampNeg)]) (rest := []) (P := fun z w => (vX11_greatest s (X.2 (i + (1 : Int32)).toNatClampNeg)) = z ∧ s = w) dL_law_1286 cvL_154 okX11_greatest rfl (Nat.le_of_ble_eq_true rfl) BS_2 (Nat.le_of_ble_eq_true rfl) (Nat.le_of_ble_eq_true rfl) hci_11 (Nat.le_of_ble_eq_true rfl) (Nat.le_of_ble_eq_true rfl) (pX11_greatest (X.2 (i + (1 : Int32)).toNatClampNeg) hr1 ⟨rfl, rfl⟩) (fun z w hq => ?_)
  obtain ⟨e1, e2⟩ := hq
  rw [← e1, ← e2]
  obtain ⟨vv, hvv⟩ : ∃ z, z = (vX11_greatest s (X.2 (i + (1 : Int32)).toNatClampNeg)) := ⟨_, rfl⟩
  rw [← hvv]
  obtain ⟨sm, hsm⟩ : ∃ z, z = s := ⟨_, rfl⟩
  rw [← hsm]
  have hXm : mS (std sm) = X := by rw [hsm]; exact hXs
  refine JT_aload_n (q := 2) dL_law_1289 rfl rfl ?_
  refine JT_aload_n (q := 4) dL_law_1290 rfl rfl ?_
  refine JT_iload (q := 0) dL_law_1291 rfl ?_
  refine JT_iconst (v := 1) dL_law_1293 (by decide) ?_
  refine JT_iadd dL_law_1294 ?_
  refine JT_sld dL_law_1295 (by rw [show mS (std sm) = X from hXm]; exact hin1) ?_
  rw [show mS (std sm) = X from hXm]
  refine JS_callVIm (M' := MX12_greatest) (d' := 3) (As := [.int (X.2 (i + (1 : Int32)).toNatClampNeg)]) (rest := [.int vv]) (P := fun z w => (vX12_greatest sm (X.2 (i + (1 : Int32)).toNatClampNeg)) = z ∧ (mX12_greatest sm (X.2 (i + (1 : Int32)).toNatClampNeg)) = w) dL_law_1296 cvL_157 okX12_greatest rfl (Nat.le_of_ble_eq_true rfl) BS_248 (Nat.le_of_ble_eq_true rfl) (Nat.le_of_ble_eq_true rfl) hci_12 (Nat.le_of_ble_eq_true rfl) (Nat.le_of_ble_eq_true rfl) (pX12_greatest (X.2 (i + (1 : Int32)).toNatClampNeg) (by rw [hsm]; exact hr2) ⟨rfl, rfl⟩) (fun z w hq => ?_)
  obtain ⟨e1, e2⟩ := hq
  rw [hsm] at e1
  refine JT_icmp_eq (tgt := 1740) dL_law_1299 (by decide) (fun _ => ?_) (fun hne => absurd (hvv.trans (hv.trans e1)) hne)
  rw [← e2, hsm]
  exact k _ hI
set_option maxRecDepth 1000000 in
theorem law_book {X : Nat × (Nat → Int32)} {INV INV2 : SM → Prop} (hX : ∀ s, INV s → s.2.2.2 = X) (h : S_book INV INV2) {mc ms : Nat} {s : SM} (hs : INV s) {i : Int32} (hin1 : vp_in (i + (1 : Int32)) X.1) (hin2 : vp_in (i + (2 : Int32)) X.1) (hin3 : vp_in (i + (3 : Int32)) X.1) (hin4 : vp_in (i + (4 : Int32)) X.1) (hin5 : vp_in (i + (5 : Int32)) X.1) {QL : Option Value → JMem → Prop} (k : ∀ s', INV2 s' → JT ML_law 421 mc ms 1740 [(4, .int i), (3, .ref 278), (2, .ref 248), (1, .ref 2), (0, .ref 0)] [] (std s') QL) : JT ML_law 421 mc ms 1304 [(4, .int i), (3, .ref 278), (2, .ref 248), (1, .ref 2), (0, .ref 0)] [] (std s) QL := by
  have hXs : mS (std s) = X := hX s hs
  have H := h s  hs
  obtain ⟨hr1, hr2, hv, hI, hX1⟩ := H
  refine JT_aload_n (q := 3) dL_law_1304 rfl rfl ?_
  refine JS_callVIm (M' := MX11_book) (d' := 7) (As := []) (rest := []) (P := fun z w => (vX11_book s ) = z ∧ (mX11_book s ) = w) dL_law_1305 cvL_158 okX11_book rfl (Nat.le_of_ble_eq_true rfl) BS_2 (Nat.le_of_ble_eq_true rfl) (Nat.le_of_ble_eq_true rfl) hci_11 (Nat.le_of_ble_eq_true rfl) (Nat.le_of_ble_eq_true rfl) (pX11_book  hr1 ⟨rfl, rfl⟩) (fun z w hq => ?_)
  obtain ⟨e1, e2⟩ := hq
  rw [← e1, ← e2]
  obtain ⟨vv, hvv⟩ : ∃ z, z = (vX11_book s ) := ⟨_, rfl⟩
  rw [← hvv]
  obtain ⟨sm, hsm⟩ : ∃ z, z = (mX11_book s ) := ⟨_, rfl⟩
  rw [← hsm]
  have hXm : mS (std sm) = X := by rw [hsm]; exact hX1.trans hXs
  refine JT_aload_n (q := 2) dL_law_1308 rfl rfl ?_
  refine JS_callVIm (M' := MX12_book) (d' := 4) (As := []) (rest := [.int vv]) (P := fun z w => (vX12_book sm ) = z ∧ (mX12_book sm ) = w) dL_law_1309 cvL_161 okX12_book rfl (Nat.le_of_ble_eq_true rfl) BS_248 (Nat.le_of_ble_eq_true rfl) (Nat.le_of_ble_eq_true rfl) hci_12 (Nat.le_of_ble_eq_true rfl) (Nat.le_of_ble_eq_true rfl) (pX12_book  (by rw [hsm]; exact hr2) ⟨rfl, rfl⟩) (fun z w hq => ?_)
  obtain ⟨e1, e2⟩ := hq
  rw [hsm] at e1
  refine JT_icmp_eq (tgt := 1740) dL_law_1312 (by decide) (fun _ => ?_) (fun hne => absurd (hvv.trans (hv.trans e1)) hne)
  rw [← e2, hsm]
  exact k _ hI
set_option maxRecDepth 1000000 in
theorem law_judge {X : Nat × (Nat → Int32)} {INV INV2 : SM → Prop} (hX : ∀ s, INV s → s.2.2.2 = X) (h : S_judge INV INV2) {mc ms : Nat} {s : SM} (hs : INV s) {i : Int32} (hin1 : vp_in (i + (1 : Int32)) X.1) (hin2 : vp_in (i + (2 : Int32)) X.1) (hin3 : vp_in (i + (3 : Int32)) X.1) (hin4 : vp_in (i + (4 : Int32)) X.1) (hin5 : vp_in (i + (5 : Int32)) X.1) {QL : Option Value → JMem → Prop} (k : ∀ s', INV2 s' → JT ML_law 421 mc ms 1740 [(4, .int i), (3, .ref 278), (2, .ref 248), (1, .ref 2), (0, .ref 0)] [] (std s') QL) : JT ML_law 421 mc ms 1317 [(4, .int i), (3, .ref 278), (2, .ref 248), (1, .ref 2), (0, .ref 0)] [] (std s) QL := by
  have hXs : mS (std s) = X := hX s hs
  have H := h s (X.2 (i + (1 : Int32)).toNatClampNeg) hs
  obtain ⟨hr1, hr2, hv, hI, hX1⟩ := H
  refine JT_aload_n (q := 3) dL_law_1317 rfl rfl ?_
  refine JT_aload_n (q := 4) dL_law_1318 rfl rfl ?_
  refine JT_iload (q := 0) dL_law_1319 rfl ?_
  refine JT_iconst (v := 1) dL_law_1321 (by decide) ?_
  refine JT_iadd dL_law_1322 ?_
  refine JT_sld dL_law_1323 (by rw [show mS (std s) = X from hXs]; exact hin1) ?_
  rw [show mS (std s) = X from hXs]
  refine JS_callVIm (M' := MX11_judge) (d' := 409) (As := [.int (X.2 (i + (1 : Int32)).toNatClampNeg)]) (rest := []) (P := fun z w => (vX11_judge s (X.2 (i + (1 : Int32)).toNatClampNeg)) = z ∧ (mX11_judge s (X.2 (i + (1 : Int32)).toNatClampNeg)) = w) dL_law_1324 cvL_162 okX11_judge rfl (Nat.le_of_ble_eq_true rfl) BS_2 (Nat.le_of_ble_eq_true rfl) (Nat.le_of_ble_eq_true rfl) hci_11 (Nat.le_of_ble_eq_true rfl) (Nat.le_of_ble_eq_true rfl) (pX11_judge (X.2 (i + (1 : Int32)).toNatClampNeg) hr1 ⟨rfl, rfl⟩) (fun z w hq => ?_)
  obtain ⟨e1, e2⟩ := hq
  rw [← e1, ← e2]
  obtain ⟨vv, hvv⟩ : ∃ z, z = (vX11_judge s (X.2 (i + (1 : Int32)).toNatClampNeg)) := ⟨_, rfl⟩
  rw [← hvv]
  obtain ⟨sm, hsm⟩ : ∃ z, z = (mX11_judge s (X.2 (i + (1 : Int32)).toNatClampNeg)) := ⟨_, rfl⟩
  rw [← hsm]
  have hXm : mS (std sm) = X := by rw [hsm]; exact hX1.trans hXs
  refine JT_aload_n (q := 2) dL_law_1327 rfl rfl ?_
  refine JT_aload_n (q := 4) dL_law_1328 rfl rfl ?_
  refine JT_iload (q := 0) dL_law_1329 rfl ?_
  refine JT_iconst (v := 1) dL_law_1331 (by decide) ?_
  refine JT_iadd dL_law_1332 ?_
  refine JT_sld dL_law_1333 (by rw [show mS (std sm) = X from hXm]; exact hin1) ?_
  rw [show mS (std sm) = X from hXm]
  refine JS_callVIm (M' := MX12_judge) (d' := 7) (As := [.int (X.2 (i + (1 : Int32)).toNatClampNeg)]) (rest := [.int vv]) (P := fun z w => (vX12_judge sm (X.2 (i + (1 : Int32)).toNatClampNeg)) = z ∧ (mX12_judge sm (X.2 (i + (1 : Int32)).toNatClampNeg)) = w) dL_law_1334 cvL_165 okX12_judge rfl (Nat.le_of_ble_eq_true rfl) BS_248 (Nat.le_of_ble_eq_true rfl) (Nat.le_of_ble_eq_true rfl) hci_12 (Nat.le_of_ble_eq_true rfl) (Nat.le_of_ble_eq_true rfl) (pX12_judge (X.2 (i + (1 : Int32)).toNatClampNeg) (by rw [hsm]; exact hr2) ⟨rfl, rfl⟩) (fun z w hq => ?_)
  obtain ⟨e1, e2⟩ := hq
  rw [hsm] at e1
  refine JT_icmp_eq (tgt := 1740) dL_law_1337 (by decide) (fun _ => ?_) (fun hne => absurd (hvv.trans (hv.trans e1)) hne)
  rw [← e2, hsm]
  exact k _ hI
set_option maxRecDepth 1000000 in
theorem law_judged {X : Nat × (Nat → Int32)} {INV INV2 : SM → Prop} (hX : ∀ s, INV s → s.2.2.2 = X) (h : S_judged INV INV2) {mc ms : Nat} {s : SM} (hs : INV s) {i : Int32} (hin1 : vp_in (i + (1 : Int32)) X.1) (hin2 : vp_in (i + (2 : Int32)) X.1) (hin3 : vp_in (i + (3 : Int32)) X.1) (hin4 : vp_in (i + (4 : Int32)) X.1) (hin5 : vp_in (i + (5 : Int32)) X.1) {QL : Option Value → JMem → Prop} (k : ∀ s', INV2 s' → JT ML_law 421 mc ms 1740 [(4, .int i), (3, .ref 278), (2, .ref 248), (1, .ref 2), (0, .ref 0)] [] (std s') QL) : JT ML_law 421 mc ms 1342 [(4, .int i), (3, .ref 278), (2, .ref 248), (1, .ref 2), (0, .ref 0)] [] (std s) QL := by
  have hXs : mS (std s) = X := hX s hs
  have H := h s (X.2 (i + (1 : Int32)).toNatClampNeg) hs
  obtain ⟨hr1, hr2, hv, hI⟩ := H
  refine JT_aload_n (q := 3) dL_law_1342 rfl rfl ?_
  refine JT_aload_n (q := 4) dL_law_1343 rfl rfl ?_
  refine JT_iload (q := 0) dL_law_1344 rfl ?_
  refine JT_iconst (v := 1) dL_law_1346 (by decide) ?_
  refine JT_iadd dL_law_1347 ?_
  refine JT_sld dL_law_1348 (by rw [show mS (std s) = X from hXs]; exact hin1) ?_
  rw [show mS (std s) = X from hXs]
  refine JS_callVIm (M' := MX11_judged) (d' := 0) (As := [.int (X.2 (i + (1 : Int32)).toNatClampNeg)]) (rest := []) (P := fun z w => (vX11_judged s (X.2 (i + (1 : Int32)).toNatClampNeg)) = z ∧ s = w) dL_law_1349 cvL_166 okX11_judged rfl (Nat.le_of_ble_eq_true rfl) BS_2 (Nat.le_of_ble_eq_true rfl) (Nat.le_of_ble_eq_true rfl) hci_11 (Nat.le_of_ble_eq_true rfl) (Nat.le_of_ble_eq_true rfl) (pX11_judged (X.2 (i + (1 : Int32)).toNatClampNeg) hr1 ⟨rfl, rfl⟩) (fun z w hq => ?_)
  obtain ⟨e1, e2⟩ := hq
  rw [← e1, ← e2]
  obtain ⟨vv, hvv⟩ : ∃ z, z = (vX11_judged s (X.2 (i + (1 : Int32)).toNatClampNeg)) := ⟨_, rfl⟩
  rw [← hvv]
  obtain ⟨sm, hsm⟩ : ∃ z, z = s := ⟨_, rfl⟩
  rw [← hsm]
  have hXm : mS (std sm) = X := by rw [hsm]; exact hXs
  refine JT_aload_n (q := 2) dL_law_1352 rfl rfl ?_
  refine JT_aload_n (q := 4) dL_law_1353 rfl rfl ?_
  refine JT_iload (q := 0) dL_law_1354 rfl ?_
  refine JT_iconst (v := 1) dL_law_1356 (by decide) ?_
  refine JT_iadd dL_law_1357 ?_
  refine JT_sld dL_law_1358 (by rw [show mS (std sm) = X from hXm]; exact hin1) ?_
  rw [show mS (std sm) = X from hXm]
  refine JS_callVIm (M' := MX12_judged) (d' := 1) (As := [.int (X.2 (i + (1 : Int32)).toNatClampNeg)]) (rest := [.int vv]) (P := fun z w => (vX12_judged sm (X.2 (i + (1 : Int32)).toNatClampNeg)) = z ∧ (mX12_judged sm (X.2 (i + (1 : Int32)).toNatClampNeg)) = w) dL_law_1359 cvL_169 okX12_judged rfl (Nat.le_of_ble_eq_true rfl) BS_248 (Nat.le_of_ble_eq_true rfl) (Nat.le_of_ble_eq_true rfl) hci_12 (Nat.le_of_ble_eq_true rfl) (Nat.le_of_ble_eq_true rfl) (pX12_judged (X.2 (i + (1 : Int32)).toNatClampNeg) (by rw [hsm]; exact hr2) ⟨rfl, rfl⟩) (fun z w hq => ?_)
  obtain ⟨e1, e2⟩ := hq
  rw [hsm] at e1
  refine JT_icmp_eq (tgt := 1740) dL_law_1362 (by decide) (fun _ => ?_) (fun hne => absurd (hvv.trans (hv.trans e1)) hne)
  rw [← e2, hsm]
  exact k _ hI
set_option maxRecDepth 1000000 in
theorem law_pack {X : Nat × (Nat → Int32)} {INV INV2 : SM → Prop} (hX : ∀ s, INV s → s.2.2.2 = X) (h : S_pack INV INV2) {mc ms : Nat} {s : SM} (hs : INV s) {i : Int32} (hin1 : vp_in (i + (1 : Int32)) X.1) (hin2 : vp_in (i + (2 : Int32)) X.1) (hin3 : vp_in (i + (3 : Int32)) X.1) (hin4 : vp_in (i + (4 : Int32)) X.1) (hin5 : vp_in (i + (5 : Int32)) X.1) {QL : Option Value → JMem → Prop} (k : ∀ s', INV2 s' → JT ML_law 421 mc ms 1740 [(4, .int i), (3, .ref 278), (2, .ref 248), (1, .ref 2), (0, .ref 0)] [] (std s') QL) : JT ML_law 421 mc ms 1367 [(4, .int i), (3, .ref 278), (2, .ref 248), (1, .ref 2), (0, .ref 0)] [] (std s) QL := by
  have hXs : mS (std s) = X := hX s hs
  have H := h s  hs
  obtain ⟨hr1, hr2, hv, hI, hX1⟩ := H
  refine JT_aload_n (q := 3) dL_law_1367 rfl rfl ?_
  refine JS_callVIm (M' := MX11_pack) (d' := 206) (As := []) (rest := []) (P := fun z w => (vX11_pack s ) = z ∧ (mX11_pack s ) = w) dL_law_1368 cvL_170 okX11_pack rfl (Nat.le_of_ble_eq_true rfl) BS_2 (Nat.le_of_ble_eq_true rfl) (Nat.le_of_ble_eq_true rfl) hci_11 (Nat.le_of_ble_eq_true rfl) (Nat.le_of_ble_eq_true rfl) (pX11_pack  hr1 ⟨rfl, rfl⟩) (fun z w hq => ?_)
  obtain ⟨e1, e2⟩ := hq
  rw [← e1, ← e2]
  obtain ⟨vv, hvv⟩ : ∃ z, z = (vX11_pack s ) := ⟨_, rfl⟩
  rw [← hvv]
  obtain ⟨sm, hsm⟩ : ∃ z, z = (mX11_pack s ) := ⟨_, rfl⟩
  rw [← hsm]
  have hXm : mS (std sm) = X := by rw [hsm]; exact hX1.trans hXs
  refine JT_aload_n (q := 2) dL_law_1371 rfl rfl ?_
  refine JS_callVIm (M' := MX12_pack) (d' := 5) (As := []) (rest := [.int vv]) (P := fun z w => (vX12_pack sm ) = z ∧ (mX12_pack sm ) = w) dL_law_1372 cvL_173 okX12_pack rfl (Nat.le_of_ble_eq_true rfl) BS_248 (Nat.le_of_ble_eq_true rfl) (Nat.le_of_ble_eq_true rfl) hci_12 (Nat.le_of_ble_eq_true rfl) (Nat.le_of_ble_eq_true rfl) (pX12_pack  (by rw [hsm]; exact hr2) ⟨rfl, rfl⟩) (fun z w hq => ?_)
  obtain ⟨e1, e2⟩ := hq
  rw [hsm] at e1
  refine JT_icmp_eq (tgt := 1740) dL_law_1375 (by decide) (fun _ => ?_) (fun hne => absurd (hvv.trans (hv.trans e1)) hne)
  rw [← e2, hsm]
  exact k _ hI
set_option maxRecDepth 1000000 in
theorem law_packed {X : Nat × (Nat → Int32)} {INV INV2 : SM → Prop} (hX : ∀ s, INV s → s.2.2.2 = X) (h : S_packed INV INV2) {mc ms : Nat} {s : SM} (hs : INV s) {i : Int32} (hin1 : vp_in (i + (1 : Int32)) X.1) (hin2 : vp_in (i + (2 : Int32)) X.1) (hin3 : vp_in (i + (3 : Int32)) X.1) (hin4 : vp_in (i + (4 : Int32)) X.1) (hin5 : vp_in (i + (5 : Int32)) X.1) {QL : Option Value → JMem → Prop} (k : ∀ s', INV2 s' → JT ML_law 421 mc ms 1740 [(4, .int i), (3, .ref 278), (2, .ref 248), (1, .ref 2), (0, .ref 0)] [] (std s') QL) : JT ML_law 421 mc ms 1380 [(4, .int i), (3, .ref 278), (2, .ref 248), (1, .ref 2), (0, .ref 0)] [] (std s) QL := by
  have hXs : mS (std s) = X := hX s hs
  have H := h s (X.2 (i + (1 : Int32)).toNatClampNeg) hs
  obtain ⟨hr1, hr2, hv, hI⟩ := H
  refine JT_aload_n (q := 3) dL_law_1380 rfl rfl ?_
  refine JT_aload_n (q := 4) dL_law_1381 rfl rfl ?_
  refine JT_iload (q := 0) dL_law_1382 rfl ?_
  refine JT_iconst (v := 1) dL_law_1384 (by decide) ?_
  refine JT_iadd dL_law_1385 ?_
  refine JT_sld dL_law_1386 (by rw [show mS (std s) = X from hXs]; exact hin1) ?_
  rw [show mS (std s) = X from hXs]
  refine JS_callVIm (M' := MX11_packed) (d' := 1) (As := [.int (X.2 (i + (1 : Int32)).toNatClampNeg)]) (rest := []) (P := fun z w => (vX11_packed s (X.2 (i + (1 : Int32)).toNatClampNeg)) = z ∧ s = w) dL_law_1387 cvL_174 okX11_packed rfl (Nat.le_of_ble_eq_true rfl) BS_2 (Nat.le_of_ble_eq_true rfl) (Nat.le_of_ble_eq_true rfl) hci_11 (Nat.le_of_ble_eq_true rfl) (Nat.le_of_ble_eq_true rfl) (pX11_packed (X.2 (i + (1 : Int32)).toNatClampNeg) hr1 ⟨rfl, rfl⟩) (fun z w hq => ?_)
  obtain ⟨e1, e2⟩ := hq
  rw [← e1, ← e2]
  obtain ⟨vv, hvv⟩ : ∃ z, z = (vX11_packed s (X.2 (i + (1 : Int32)).toNatClampNeg)) := ⟨_, rfl⟩
  rw [← hvv]
  obtain ⟨sm, hsm⟩ : ∃ z, z = s := ⟨_, rfl⟩
  rw [← hsm]
  have hXm : mS (std sm) = X := by rw [hsm]; exact hXs
  refine JT_aload_n (q := 2) dL_law_1390 rfl rfl ?_
  refine JT_aload_n (q := 4) dL_law_1391 rfl rfl ?_
  refine JT_iload (q := 0) dL_law_1392 rfl ?_
  refine JT_iconst (v := 1) dL_law_1394 (by decide) ?_
  refine JT_iadd dL_law_1395 ?_
  refine JT_sld dL_law_1396 (by rw [show mS (std sm) = X from hXm]; exact hin1) ?_
  rw [show mS (std sm) = X from hXm]
  refine JS_callVIm (M' := MX12_packed) (d' := 1) (As := [.int (X.2 (i + (1 : Int32)).toNatClampNeg)]) (rest := [.int vv]) (P := fun z w => (vX12_packed sm (X.2 (i + (1 : Int32)).toNatClampNeg)) = z ∧ (mX12_packed sm (X.2 (i + (1 : Int32)).toNatClampNeg)) = w) dL_law_1397 cvL_177 okX12_packed rfl (Nat.le_of_ble_eq_true rfl) BS_248 (Nat.le_of_ble_eq_true rfl) (Nat.le_of_ble_eq_true rfl) hci_12 (Nat.le_of_ble_eq_true rfl) (Nat.le_of_ble_eq_true rfl) (pX12_packed (X.2 (i + (1 : Int32)).toNatClampNeg) (by rw [hsm]; exact hr2) ⟨rfl, rfl⟩) (fun z w hq => ?_)
  obtain ⟨e1, e2⟩ := hq
  rw [hsm] at e1
  refine JT_icmp_eq (tgt := 1740) dL_law_1400 (by decide) (fun _ => ?_) (fun hne => absurd (hvv.trans (hv.trans e1)) hne)
  rw [← e2, hsm]
  exact k _ hI
set_option maxRecDepth 1000000 in
theorem law_price {X : Nat × (Nat → Int32)} {INV INV2 : SM → Prop} (hX : ∀ s, INV s → s.2.2.2 = X) (h : S_price INV INV2) {mc ms : Nat} {s : SM} (hs : INV s) {i : Int32} (hin1 : vp_in (i + (1 : Int32)) X.1) (hin2 : vp_in (i + (2 : Int32)) X.1) (hin3 : vp_in (i + (3 : Int32)) X.1) (hin4 : vp_in (i + (4 : Int32)) X.1) (hin5 : vp_in (i + (5 : Int32)) X.1) {QL : Option Value → JMem → Prop} (k : ∀ s', INV2 s' → JT ML_law 421 mc ms 1740 [(4, .int i), (3, .ref 278), (2, .ref 248), (1, .ref 2), (0, .ref 0)] [] (std s') QL) : JT ML_law 421 mc ms 1405 [(4, .int i), (3, .ref 278), (2, .ref 248), (1, .ref 2), (0, .ref 0)] [] (std s) QL := by
  have hXs : mS (std s) = X := hX s hs
  have H := h s (X.2 (i + (1 : Int32)).toNatClampNeg) (X.2 (i + (2 : Int32)).toNatClampNeg) hs
  obtain ⟨hr1, hr2, hv, hI, hX1⟩ := H
  refine JT_aload_n (q := 3) dL_law_1405 rfl rfl ?_
  refine JT_aload_n (q := 4) dL_law_1406 rfl rfl ?_
  refine JT_iload (q := 0) dL_law_1407 rfl ?_
  refine JT_iconst (v := 1) dL_law_1409 (by decide) ?_
  refine JT_iadd dL_law_1410 ?_
  refine JT_sld dL_law_1411 (by rw [show mS (std s) = X from hXs]; exact hin1) ?_
  rw [show mS (std s) = X from hXs]
  refine JT_aload_n (q := 4) dL_law_1412 rfl rfl ?_
  refine JT_iload (q := 0) dL_law_1413 rfl ?_
  refine JT_iconst (v := 2) dL_law_1415 (by decide) ?_
  refine JT_iadd dL_law_1416 ?_
  refine JT_sld dL_law_1417 (by rw [show mS (std s) = X from hXs]; exact hin2) ?_
  rw [show mS (std s) = X from hXs]
  refine JS_callVIm (M' := MX11_price) (d' := 206) (As := [.int (X.2 (i + (1 : Int32)).toNatClampNeg), .int (X.2 (i + (2 : Int32)).toNatClampNeg)]) (rest := []) (P := fun z w => (vX11_price s (X.2 (i + (1 : Int32)).toNatClampNeg) (X.2 (i + (2 : Int32)).toNatClampNeg)) = z ∧ (mX11_price s (X.2 (i + (1 : Int32)).toNatClampNeg) (X.2 (i + (2 : Int32)).toNatClampNeg)) = w) dL_law_1418 cvL_178 okX11_price rfl (Nat.le_of_ble_eq_true rfl) BS_2 (Nat.le_of_ble_eq_true rfl) (Nat.le_of_ble_eq_true rfl) hci_11 (Nat.le_of_ble_eq_true rfl) (Nat.le_of_ble_eq_true rfl) (pX11_price (X.2 (i + (1 : Int32)).toNatClampNeg) (X.2 (i + (2 : Int32)).toNatClampNeg) hr1 ⟨rfl, rfl⟩) (fun z w hq => ?_)
  obtain ⟨e1, e2⟩ := hq
  rw [← e1, ← e2]
  obtain ⟨vv, hvv⟩ : ∃ z, z = (vX11_price s (X.2 (i + (1 : Int32)).toNatClampNeg) (X.2 (i + (2 : Int32)).toNatClampNeg)) := ⟨_, rfl⟩
  rw [← hvv]
  obtain ⟨sm, hsm⟩ : ∃ z, z = (mX11_price s (X.2 (i + (1 : Int32)).toNatClampNeg) (X.2 (i + (2 : Int32)).toNatClampNeg)) := ⟨_, rfl⟩
  rw [← hsm]
  have hXm : mS (std sm) = X := by rw [hsm]; exact hX1.trans hXs
  refine JT_aload_n (q := 2) dL_law_1421 rfl rfl ?_
  refine JT_aload_n (q := 4) dL_law_1422 rfl rfl ?_
  refine JT_iload (q := 0) dL_law_1423 rfl ?_
  refine JT_iconst (v := 1) dL_law_1425 (by decide) ?_
  refine JT_iadd dL_law_1426 ?_
  refine JT_sld dL_law_1427 (by rw [show mS (std sm) = X from hXm]; exact hin1) ?_
  rw [show mS (std sm) = X from hXm]
  refine JT_aload_n (q := 4) dL_law_1428 rfl rfl ?_
  refine JT_iload (q := 0) dL_law_1429 rfl ?_
  refine JT_iconst (v := 2) dL_law_1431 (by decide) ?_
  refine JT_iadd dL_law_1432 ?_
  refine JT_sld dL_law_1433 (by rw [show mS (std sm) = X from hXm]; exact hin2) ?_
  rw [show mS (std sm) = X from hXm]
  refine JS_callVIm (M' := MX12_price) (d' := 5) (As := [.int (X.2 (i + (1 : Int32)).toNatClampNeg), .int (X.2 (i + (2 : Int32)).toNatClampNeg)]) (rest := [.int vv]) (P := fun z w => (vX12_price sm (X.2 (i + (1 : Int32)).toNatClampNeg) (X.2 (i + (2 : Int32)).toNatClampNeg)) = z ∧ (mX12_price sm (X.2 (i + (1 : Int32)).toNatClampNeg) (X.2 (i + (2 : Int32)).toNatClampNeg)) = w) dL_law_1434 cvL_181 okX12_price rfl (Nat.le_of_ble_eq_true rfl) BS_248 (Nat.le_of_ble_eq_true rfl) (Nat.le_of_ble_eq_true rfl) hci_12 (Nat.le_of_ble_eq_true rfl) (Nat.le_of_ble_eq_true rfl) (pX12_price (X.2 (i + (1 : Int32)).toNatClampNeg) (X.2 (i + (2 : Int32)).toNatClampNeg) (by rw [hsm]; exact hr2) ⟨rfl, rfl⟩) (fun z w hq => ?_)
  obtain ⟨e1, e2⟩ := hq
  rw [hsm] at e1
  refine JT_icmp_eq (tgt := 1740) dL_law_1437 (by decide) (fun _ => ?_) (fun hne => absurd (hvv.trans (hv.trans e1)) hne)
  rw [← e2, hsm]
  exact k _ hI
set_option maxRecDepth 1000000 in
theorem law_lost {X : Nat × (Nat → Int32)} {INV INV2 : SM → Prop} (hX : ∀ s, INV s → s.2.2.2 = X) (h : S_lost INV INV2) {mc ms : Nat} {s : SM} (hs : INV s) {i : Int32} (hin1 : vp_in (i + (1 : Int32)) X.1) (hin2 : vp_in (i + (2 : Int32)) X.1) (hin3 : vp_in (i + (3 : Int32)) X.1) (hin4 : vp_in (i + (4 : Int32)) X.1) (hin5 : vp_in (i + (5 : Int32)) X.1) {QL : Option Value → JMem → Prop} (k : ∀ s', INV2 s' → JT ML_law 421 mc ms 1740 [(4, .int i), (3, .ref 278), (2, .ref 248), (1, .ref 2), (0, .ref 0)] [] (std s') QL) : JT ML_law 421 mc ms 1442 [(4, .int i), (3, .ref 278), (2, .ref 248), (1, .ref 2), (0, .ref 0)] [] (std s) QL := by
  have hXs : mS (std s) = X := hX s hs
  have H := h s (X.2 (i + (1 : Int32)).toNatClampNeg) hs
  obtain ⟨hr1, hr2, hv, hI⟩ := H
  refine JT_aload_n (q := 3) dL_law_1442 rfl rfl ?_
  refine JT_aload_n (q := 4) dL_law_1443 rfl rfl ?_
  refine JT_iload (q := 0) dL_law_1444 rfl ?_
  refine JT_iconst (v := 1) dL_law_1446 (by decide) ?_
  refine JT_iadd dL_law_1447 ?_
  refine JT_sld dL_law_1448 (by rw [show mS (std s) = X from hXs]; exact hin1) ?_
  rw [show mS (std s) = X from hXs]
  refine JS_callVIm (M' := MX11_lost) (d' := 5) (As := [.int (X.2 (i + (1 : Int32)).toNatClampNeg)]) (rest := []) (P := fun z w => (vX11_lost s (X.2 (i + (1 : Int32)).toNatClampNeg)) = z ∧ s = w) dL_law_1449 cvL_182 okX11_lost rfl (Nat.le_of_ble_eq_true rfl) BS_2 (Nat.le_of_ble_eq_true rfl) (Nat.le_of_ble_eq_true rfl) hci_11 (Nat.le_of_ble_eq_true rfl) (Nat.le_of_ble_eq_true rfl) (pX11_lost (X.2 (i + (1 : Int32)).toNatClampNeg) hr1 ⟨rfl, rfl⟩) (fun z w hq => ?_)
  obtain ⟨e1, e2⟩ := hq
  rw [← e1, ← e2]
  obtain ⟨vv, hvv⟩ : ∃ z, z = (vX11_lost s (X.2 (i + (1 : Int32)).toNatClampNeg)) := ⟨_, rfl⟩
  rw [← hvv]
  obtain ⟨sm, hsm⟩ : ∃ z, z = s := ⟨_, rfl⟩
  rw [← hsm]
  have hXm : mS (std sm) = X := by rw [hsm]; exact hXs
  refine JT_aload_n (q := 2) dL_law_1452 rfl rfl ?_
  refine JT_aload_n (q := 4) dL_law_1453 rfl rfl ?_
  refine JT_iload (q := 0) dL_law_1454 rfl ?_
  refine JT_iconst (v := 1) dL_law_1456 (by decide) ?_
  refine JT_iadd dL_law_1457 ?_
  refine JT_sld dL_law_1458 (by rw [show mS (std sm) = X from hXm]; exact hin1) ?_
  rw [show mS (std sm) = X from hXm]
  refine JS_callVIm (M' := MX12_lost) (d' := 5) (As := [.int (X.2 (i + (1 : Int32)).toNatClampNeg)]) (rest := [.int vv]) (P := fun z w => (vX12_lost sm (X.2 (i + (1 : Int32)).toNatClampNeg)) = z ∧ (mX12_lost sm (X.2 (i + (1 : Int32)).toNatClampNeg)) = w) dL_law_1459 cvL_185 okX12_lost rfl (Nat.le_of_ble_eq_true rfl) BS_248 (Nat.le_of_ble_eq_true rfl) (Nat.le_of_ble_eq_true rfl) hci_12 (Nat.le_of_ble_eq_true rfl) (Nat.le_of_ble_eq_true rfl) (pX12_lost (X.2 (i + (1 : Int32)).toNatClampNeg) (by rw [hsm]; exact hr2) ⟨rfl, rfl⟩) (fun z w hq => ?_)
  obtain ⟨e1, e2⟩ := hq
  rw [hsm] at e1
  refine JT_icmp_eq (tgt := 1740) dL_law_1462 (by decide) (fun _ => ?_) (fun hne => absurd (hvv.trans (hv.trans e1)) hne)
  rw [← e2, hsm]
  exact k _ hI
set_option maxRecDepth 1000000 in
theorem law_fits {X : Nat × (Nat → Int32)} {INV INV2 : SM → Prop} (hX : ∀ s, INV s → s.2.2.2 = X) (h : S_fits INV INV2) {mc ms : Nat} {s : SM} (hs : INV s) {i : Int32} (hin1 : vp_in (i + (1 : Int32)) X.1) (hin2 : vp_in (i + (2 : Int32)) X.1) (hin3 : vp_in (i + (3 : Int32)) X.1) (hin4 : vp_in (i + (4 : Int32)) X.1) (hin5 : vp_in (i + (5 : Int32)) X.1) {QL : Option Value → JMem → Prop} (k : ∀ s', INV2 s' → JT ML_law 421 mc ms 1740 [(4, .int i), (3, .ref 278), (2, .ref 248), (1, .ref 2), (0, .ref 0)] [] (std s') QL) : JT ML_law 421 mc ms 1467 [(4, .int i), (3, .ref 278), (2, .ref 248), (1, .ref 2), (0, .ref 0)] [] (std s) QL := by
  have hXs : mS (std s) = X := hX s hs
  have H := h s (X.2 (i + (1 : Int32)).toNatClampNeg) hs
  obtain ⟨hr1, hr2, hv, hI, hX1⟩ := H
  refine JT_aload_n (q := 3) dL_law_1467 rfl rfl ?_
  refine JT_aload_n (q := 4) dL_law_1468 rfl rfl ?_
  refine JT_iload (q := 0) dL_law_1469 rfl ?_
  refine JT_iconst (v := 1) dL_law_1471 (by decide) ?_
  refine JT_iadd dL_law_1472 ?_
  refine JT_sld dL_law_1473 (by rw [show mS (std s) = X from hXs]; exact hin1) ?_
  rw [show mS (std s) = X from hXs]
  refine JS_callVIm (M' := MX11_fits) (d' := 406) (As := [.int (X.2 (i + (1 : Int32)).toNatClampNeg)]) (rest := []) (P := fun z w => (vX11_fits s (X.2 (i + (1 : Int32)).toNatClampNeg)) = z ∧ (mX11_fits s (X.2 (i + (1 : Int32)).toNatClampNeg)) = w) dL_law_1474 cvL_186 okX11_fits rfl (Nat.le_of_ble_eq_true rfl) BS_2 (Nat.le_of_ble_eq_true rfl) (Nat.le_of_ble_eq_true rfl) hci_11 (Nat.le_of_ble_eq_true rfl) (Nat.le_of_ble_eq_true rfl) (pX11_fits (X.2 (i + (1 : Int32)).toNatClampNeg) hr1 ⟨rfl, rfl⟩) (fun z w hq => ?_)
  obtain ⟨e1, e2⟩ := hq
  rw [← e1, ← e2]
  obtain ⟨vv, hvv⟩ : ∃ z, z = (vX11_fits s (X.2 (i + (1 : Int32)).toNatClampNeg)) := ⟨_, rfl⟩
  rw [← hvv]
  obtain ⟨sm, hsm⟩ : ∃ z, z = (mX11_fits s (X.2 (i + (1 : Int32)).toNatClampNeg)) := ⟨_, rfl⟩
  rw [← hsm]
  have hXm : mS (std sm) = X := by rw [hsm]; exact hX1.trans hXs
  refine JT_aload_n (q := 2) dL_law_1477 rfl rfl ?_
  refine JT_aload_n (q := 4) dL_law_1478 rfl rfl ?_
  refine JT_iload (q := 0) dL_law_1479 rfl ?_
  refine JT_iconst (v := 1) dL_law_1481 (by decide) ?_
  refine JT_iadd dL_law_1482 ?_
  refine JT_sld dL_law_1483 (by rw [show mS (std sm) = X from hXm]; exact hin1) ?_
  rw [show mS (std sm) = X from hXm]
  refine JS_callVIm (M' := MX12_fits) (d' := 6) (As := [.int (X.2 (i + (1 : Int32)).toNatClampNeg)]) (rest := [.int vv]) (P := fun z w => (vX12_fits sm (X.2 (i + (1 : Int32)).toNatClampNeg)) = z ∧ (mX12_fits sm (X.2 (i + (1 : Int32)).toNatClampNeg)) = w) dL_law_1484 cvL_189 okX12_fits rfl (Nat.le_of_ble_eq_true rfl) BS_248 (Nat.le_of_ble_eq_true rfl) (Nat.le_of_ble_eq_true rfl) hci_12 (Nat.le_of_ble_eq_true rfl) (Nat.le_of_ble_eq_true rfl) (pX12_fits (X.2 (i + (1 : Int32)).toNatClampNeg) (by rw [hsm]; exact hr2) ⟨rfl, rfl⟩) (fun z w hq => ?_)
  obtain ⟨e1, e2⟩ := hq
  rw [hsm] at e1
  refine JT_icmp_eq (tgt := 1740) dL_law_1487 (by decide) (fun _ => ?_) (fun hne => absurd (hvv.trans (hv.trans e1)) hne)
  rw [← e2, hsm]
  exact k _ hI
set_option maxRecDepth 1000000 in
theorem law_fit {X : Nat × (Nat → Int32)} {INV INV2 : SM → Prop} (hX : ∀ s, INV s → s.2.2.2 = X) (h : S_fit INV INV2) {mc ms : Nat} {s : SM} (hs : INV s) {i : Int32} (hin1 : vp_in (i + (1 : Int32)) X.1) (hin2 : vp_in (i + (2 : Int32)) X.1) (hin3 : vp_in (i + (3 : Int32)) X.1) (hin4 : vp_in (i + (4 : Int32)) X.1) (hin5 : vp_in (i + (5 : Int32)) X.1) {QL : Option Value → JMem → Prop} (k : ∀ s', INV2 s' → JT ML_law 421 mc ms 1740 [(4, .int i), (3, .ref 278), (2, .ref 248), (1, .ref 2), (0, .ref 0)] [] (std s') QL) : JT ML_law 421 mc ms 1492 [(4, .int i), (3, .ref 278), (2, .ref 248), (1, .ref 2), (0, .ref 0)] [] (std s) QL := by
  have hXs : mS (std s) = X := hX s hs
  have H := h s (X.2 (i + (1 : Int32)).toNatClampNeg) (X.2 (i + (2 : Int32)).toNatClampNeg) hs
  obtain ⟨hr1, hr2, hv, hI⟩ := H
  refine JT_aload_n (q := 3) dL_law_1492 rfl rfl ?_
  refine JT_aload_n (q := 4) dL_law_1493 rfl rfl ?_
  refine JT_iload (q := 0) dL_law_1494 rfl ?_
  refine JT_iconst (v := 1) dL_law_1496 (by decide) ?_
  refine JT_iadd dL_law_1497 ?_
  refine JT_sld dL_law_1498 (by rw [show mS (std s) = X from hXs]; exact hin1) ?_
  rw [show mS (std s) = X from hXs]
  refine JT_aload_n (q := 4) dL_law_1499 rfl rfl ?_
  refine JT_iload (q := 0) dL_law_1500 rfl ?_
  refine JT_iconst (v := 2) dL_law_1502 (by decide) ?_
  refine JT_iadd dL_law_1503 ?_
  refine JT_sld dL_law_1504 (by rw [show mS (std s) = X from hXs]; exact hin2) ?_
  rw [show mS (std s) = X from hXs]
  refine JS_callVIm (M' := MX11_fit) (d' := 1) (As := [.int (X.2 (i + (1 : Int32)).toNatClampNeg), .int (X.2 (i + (2 : Int32)).toNatClampNeg)]) (rest := []) (P := fun z w => (vX11_fit s (X.2 (i + (1 : Int32)).toNatClampNeg) (X.2 (i + (2 : Int32)).toNatClampNeg)) = z ∧ s = w) dL_law_1505 cvL_190 okX11_fit rfl (Nat.le_of_ble_eq_true rfl) BS_2 (Nat.le_of_ble_eq_true rfl) (Nat.le_of_ble_eq_true rfl) hci_11 (Nat.le_of_ble_eq_true rfl) (Nat.le_of_ble_eq_true rfl) (pX11_fit (X.2 (i + (1 : Int32)).toNatClampNeg) (X.2 (i + (2 : Int32)).toNatClampNeg) hr1 ⟨rfl, rfl⟩) (fun z w hq => ?_)
  obtain ⟨e1, e2⟩ := hq
  rw [← e1, ← e2]
  obtain ⟨vv, hvv⟩ : ∃ z, z = (vX11_fit s (X.2 (i + (1 : Int32)).toNatClampNeg) (X.2 (i + (2 : Int32)).toNatClampNeg)) := ⟨_, rfl⟩
  rw [← hvv]
  obtain ⟨sm, hsm⟩ : ∃ z, z = s := ⟨_, rfl⟩
  rw [← hsm]
  have hXm : mS (std sm) = X := by rw [hsm]; exact hXs
  refine JT_aload_n (q := 2) dL_law_1508 rfl rfl ?_
  refine JT_aload_n (q := 4) dL_law_1509 rfl rfl ?_
  refine JT_iload (q := 0) dL_law_1510 rfl ?_
  refine JT_iconst (v := 1) dL_law_1512 (by decide) ?_
  refine JT_iadd dL_law_1513 ?_
  refine JT_sld dL_law_1514 (by rw [show mS (std sm) = X from hXm]; exact hin1) ?_
  rw [show mS (std sm) = X from hXm]
  refine JT_aload_n (q := 4) dL_law_1515 rfl rfl ?_
  refine JT_iload (q := 0) dL_law_1516 rfl ?_
  refine JT_iconst (v := 2) dL_law_1518 (by decide) ?_
  refine JT_iadd dL_law_1519 ?_
  refine JT_sld dL_law_1520 (by rw [show mS (std sm) = X from hXm]; exact hin2) ?_
  rw [show mS (std sm) = X from hXm]
  refine JS_callVIm (M' := MX12_fit) (d' := 1) (As := [.int (X.2 (i + (1 : Int32)).toNatClampNeg), .int (X.2 (i + (2 : Int32)).toNatClampNeg)]) (rest := [.int vv]) (P := fun z w => (vX12_fit sm (X.2 (i + (1 : Int32)).toNatClampNeg) (X.2 (i + (2 : Int32)).toNatClampNeg)) = z ∧ (mX12_fit sm (X.2 (i + (1 : Int32)).toNatClampNeg) (X.2 (i + (2 : Int32)).toNatClampNeg)) = w) dL_law_1521 cvL_193 okX12_fit rfl (Nat.le_of_ble_eq_true rfl) BS_248 (Nat.le_of_ble_eq_true rfl) (Nat.le_of_ble_eq_true rfl) hci_12 (Nat.le_of_ble_eq_true rfl) (Nat.le_of_ble_eq_true rfl) (pX12_fit (X.2 (i + (1 : Int32)).toNatClampNeg) (X.2 (i + (2 : Int32)).toNatClampNeg) (by rw [hsm]; exact hr2) ⟨rfl, rfl⟩) (fun z w hq => ?_)
  obtain ⟨e1, e2⟩ := hq
  rw [hsm] at e1
  refine JT_icmp_eq (tgt := 1740) dL_law_1524 (by decide) (fun _ => ?_) (fun hne => absurd (hvv.trans (hv.trans e1)) hne)
  rw [← e2, hsm]
  exact k _ hI
set_option maxRecDepth 1000000 in
theorem law_owed {X : Nat × (Nat → Int32)} {INV INV2 : SM → Prop} (hX : ∀ s, INV s → s.2.2.2 = X) (h : S_owed INV INV2) {mc ms : Nat} {s : SM} (hs : INV s) {i : Int32} (hin1 : vp_in (i + (1 : Int32)) X.1) (hin2 : vp_in (i + (2 : Int32)) X.1) (hin3 : vp_in (i + (3 : Int32)) X.1) (hin4 : vp_in (i + (4 : Int32)) X.1) (hin5 : vp_in (i + (5 : Int32)) X.1) {QL : Option Value → JMem → Prop} (k : ∀ s', INV2 s' → JT ML_law 421 mc ms 1740 [(4, .int i), (3, .ref 278), (2, .ref 248), (1, .ref 2), (0, .ref 0)] [] (std s') QL) : JT ML_law 421 mc ms 1529 [(4, .int i), (3, .ref 278), (2, .ref 248), (1, .ref 2), (0, .ref 0)] [] (std s) QL := by
  have hXs : mS (std s) = X := hX s hs
  have H := h s (X.2 (i + (1 : Int32)).toNatClampNeg) (X.2 (i + (2 : Int32)).toNatClampNeg) (X.2 (i + (3 : Int32)).toNatClampNeg) hs
  obtain ⟨hr1, hr2, hv, hI⟩ := H
  refine JT_aload_n (q := 3) dL_law_1529 rfl rfl ?_
  refine JT_aload_n (q := 4) dL_law_1530 rfl rfl ?_
  refine JT_iload (q := 0) dL_law_1531 rfl ?_
  refine JT_iconst (v := 1) dL_law_1533 (by decide) ?_
  refine JT_iadd dL_law_1534 ?_
  refine JT_sld dL_law_1535 (by rw [show mS (std s) = X from hXs]; exact hin1) ?_
  rw [show mS (std s) = X from hXs]
  refine JT_aload_n (q := 4) dL_law_1536 rfl rfl ?_
  refine JT_iload (q := 0) dL_law_1537 rfl ?_
  refine JT_iconst (v := 2) dL_law_1539 (by decide) ?_
  refine JT_iadd dL_law_1540 ?_
  refine JT_sld dL_law_1541 (by rw [show mS (std s) = X from hXs]; exact hin2) ?_
  rw [show mS (std s) = X from hXs]
  refine JT_aload_n (q := 4) dL_law_1542 rfl rfl ?_
  refine JT_iload (q := 0) dL_law_1543 rfl ?_
  refine JT_iconst (v := 3) dL_law_1545 (by decide) ?_
  refine JT_iadd dL_law_1546 ?_
  refine JT_sld dL_law_1547 (by rw [show mS (std s) = X from hXs]; exact hin3) ?_
  rw [show mS (std s) = X from hXs]
  refine JS_callVIm (M' := MX11_owed) (d' := 6) (As := [.int (X.2 (i + (1 : Int32)).toNatClampNeg), .int (X.2 (i + (2 : Int32)).toNatClampNeg), .int (X.2 (i + (3 : Int32)).toNatClampNeg)]) (rest := []) (P := fun z w => (vX11_owed s (X.2 (i + (1 : Int32)).toNatClampNeg) (X.2 (i + (2 : Int32)).toNatClampNeg) (X.2 (i + (3 : Int32)).toNatClampNeg)) = z ∧ s = w) dL_law_1548 cvL_194 okX11_owed rfl (Nat.le_of_ble_eq_true rfl) BS_2 (Nat.le_of_ble_eq_true rfl) (Nat.le_of_ble_eq_true rfl) hci_11 (Nat.le_of_ble_eq_true rfl) (Nat.le_of_ble_eq_true rfl) (pX11_owed (X.2 (i + (1 : Int32)).toNatClampNeg) (X.2 (i + (2 : Int32)).toNatClampNeg) (X.2 (i + (3 : Int32)).toNatClampNeg) hr1 ⟨rfl, rfl⟩) (fun z w hq => ?_)
  obtain ⟨e1, e2⟩ := hq
  rw [← e1, ← e2]
  obtain ⟨vv, hvv⟩ : ∃ z, z = (vX11_owed s (X.2 (i + (1 : Int32)).toNatClampNeg) (X.2 (i + (2 : Int32)).toNatClampNeg) (X.2 (i + (3 : Int32)).toNatClampNeg)) := ⟨_, rfl⟩
  rw [← hvv]
  obtain ⟨sm, hsm⟩ : ∃ z, z = s := ⟨_, rfl⟩
  rw [← hsm]
  have hXm : mS (std sm) = X := by rw [hsm]; exact hXs
  refine JT_aload_n (q := 2) dL_law_1551 rfl rfl ?_
  refine JT_aload_n (q := 4) dL_law_1552 rfl rfl ?_
  refine JT_iload (q := 0) dL_law_1553 rfl ?_
  refine JT_iconst (v := 1) dL_law_1555 (by decide) ?_
  refine JT_iadd dL_law_1556 ?_
  refine JT_sld dL_law_1557 (by rw [show mS (std sm) = X from hXm]; exact hin1) ?_
  rw [show mS (std sm) = X from hXm]
  refine JT_aload_n (q := 4) dL_law_1558 rfl rfl ?_
  refine JT_iload (q := 0) dL_law_1559 rfl ?_
  refine JT_iconst (v := 2) dL_law_1561 (by decide) ?_
  refine JT_iadd dL_law_1562 ?_
  refine JT_sld dL_law_1563 (by rw [show mS (std sm) = X from hXm]; exact hin2) ?_
  rw [show mS (std sm) = X from hXm]
  refine JT_aload_n (q := 4) dL_law_1564 rfl rfl ?_
  refine JT_iload (q := 0) dL_law_1565 rfl ?_
  refine JT_iconst (v := 3) dL_law_1567 (by decide) ?_
  refine JT_iadd dL_law_1568 ?_
  refine JT_sld dL_law_1569 (by rw [show mS (std sm) = X from hXm]; exact hin3) ?_
  rw [show mS (std sm) = X from hXm]
  refine JS_callVIm (M' := MX12_owed) (d' := 4) (As := [.int (X.2 (i + (1 : Int32)).toNatClampNeg), .int (X.2 (i + (2 : Int32)).toNatClampNeg), .int (X.2 (i + (3 : Int32)).toNatClampNeg)]) (rest := [.int vv]) (P := fun z w => (vX12_owed sm (X.2 (i + (1 : Int32)).toNatClampNeg) (X.2 (i + (2 : Int32)).toNatClampNeg) (X.2 (i + (3 : Int32)).toNatClampNeg)) = z ∧ (mX12_owed sm (X.2 (i + (1 : Int32)).toNatClampNeg) (X.2 (i + (2 : Int32)).toNatClampNeg) (X.2 (i + (3 : Int32)).toNatClampNeg)) = w) dL_law_1570 cvL_197 okX12_owed rfl (Nat.le_of_ble_eq_true rfl) BS_248 (Nat.le_of_ble_eq_true rfl) (Nat.le_of_ble_eq_true rfl) hci_12 (Nat.le_of_ble_eq_true rfl) (Nat.le_of_ble_eq_true rfl) (pX12_owed (X.2 (i + (1 : Int32)).toNatClampNeg) (X.2 (i + (2 : Int32)).toNatClampNeg) (X.2 (i + (3 : Int32)).toNatClampNeg) (by rw [hsm]; exact hr2) ⟨rfl, rfl⟩) (fun z w hq => ?_)
  obtain ⟨e1, e2⟩ := hq
  rw [hsm] at e1
  refine JT_icmp_eq (tgt := 1740) dL_law_1573 (by decide) (fun _ => ?_) (fun hne => absurd (hvv.trans (hv.trans e1)) hne)
  rw [← e2, hsm]
  exact k _ hI
set_option maxRecDepth 1000000 in
theorem law_proof {X : Nat × (Nat → Int32)} {INV INV2 : SM → Prop} (hX : ∀ s, INV s → s.2.2.2 = X) (h : S_proof INV INV2) {mc ms : Nat} {s : SM} (hs : INV s) {i : Int32} (hin1 : vp_in (i + (1 : Int32)) X.1) (hin2 : vp_in (i + (2 : Int32)) X.1) (hin3 : vp_in (i + (3 : Int32)) X.1) (hin4 : vp_in (i + (4 : Int32)) X.1) (hin5 : vp_in (i + (5 : Int32)) X.1) {QL : Option Value → JMem → Prop} (k : ∀ s', INV2 s' → JT ML_law 421 mc ms 1740 [(4, .int i), (3, .ref 278), (2, .ref 248), (1, .ref 2), (0, .ref 0)] [] (std s') QL) : JT ML_law 421 mc ms 1578 [(4, .int i), (3, .ref 278), (2, .ref 248), (1, .ref 2), (0, .ref 0)] [] (std s) QL := by
  have hXs : mS (std s) = X := hX s hs
  have H := h s (X.2 (i + (1 : Int32)).toNatClampNeg) hs
  obtain ⟨hr1, hr2, hv, hI⟩ := H
  refine JT_aload_n (q := 3) dL_law_1578 rfl rfl ?_
  refine JT_aload_n (q := 4) dL_law_1579 rfl rfl ?_
  refine JT_iload (q := 0) dL_law_1580 rfl ?_
  refine JT_iconst (v := 1) dL_law_1582 (by decide) ?_
  refine JT_iadd dL_law_1583 ?_
  refine JT_sld dL_law_1584 (by rw [show mS (std s) = X from hXs]; exact hin1) ?_
  rw [show mS (std s) = X from hXs]
  refine JS_callVIm (M' := MX11_proof) (d' := 5) (As := [.int (X.2 (i + (1 : Int32)).toNatClampNeg)]) (rest := []) (P := fun z w => (vX11_proof s (X.2 (i + (1 : Int32)).toNatClampNeg)) = z ∧ s = w) dL_law_1585 cvL_198 okX11_proof rfl (Nat.le_of_ble_eq_true rfl) BS_2 (Nat.le_of_ble_eq_true rfl) (Nat.le_of_ble_eq_true rfl) hci_11 (Nat.le_of_ble_eq_true rfl) (Nat.le_of_ble_eq_true rfl) (pX11_proof (X.2 (i + (1 : Int32)).toNatClampNeg) hr1 ⟨rfl, rfl⟩) (fun z w hq => ?_)
  obtain ⟨e1, e2⟩ := hq
  rw [← e1, ← e2]
  obtain ⟨vv, hvv⟩ : ∃ z, z = (vX11_proof s (X.2 (i + (1 : Int32)).toNatClampNeg)) := ⟨_, rfl⟩
  rw [← hvv]
  obtain ⟨sm, hsm⟩ : ∃ z, z = s := ⟨_, rfl⟩
  rw [← hsm]
  have hXm : mS (std sm) = X := by rw [hsm]; exact hXs
  refine JT_aload_n (q := 2) dL_law_1588 rfl rfl ?_
  refine JT_aload_n (q := 4) dL_law_1589 rfl rfl ?_
  refine JT_iload (q := 0) dL_law_1590 rfl ?_
  refine JT_iconst (v := 1) dL_law_1592 (by decide) ?_
  refine JT_iadd dL_law_1593 ?_
  refine JT_sld dL_law_1594 (by rw [show mS (std sm) = X from hXm]; exact hin1) ?_
  rw [show mS (std sm) = X from hXm]
  refine JS_callVIm (M' := MX12_proof) (d' := 4) (As := [.int (X.2 (i + (1 : Int32)).toNatClampNeg)]) (rest := [.int vv]) (P := fun z w => (vX12_proof sm (X.2 (i + (1 : Int32)).toNatClampNeg)) = z ∧ (mX12_proof sm (X.2 (i + (1 : Int32)).toNatClampNeg)) = w) dL_law_1595 cvL_201 okX12_proof rfl (Nat.le_of_ble_eq_true rfl) BS_248 (Nat.le_of_ble_eq_true rfl) (Nat.le_of_ble_eq_true rfl) hci_12 (Nat.le_of_ble_eq_true rfl) (Nat.le_of_ble_eq_true rfl) (pX12_proof (X.2 (i + (1 : Int32)).toNatClampNeg) (by rw [hsm]; exact hr2) ⟨rfl, rfl⟩) (fun z w hq => ?_)
  obtain ⟨e1, e2⟩ := hq
  rw [hsm] at e1
  refine JT_icmp_eq (tgt := 1740) dL_law_1598 (by decide) (fun _ => ?_) (fun hne => absurd (hvv.trans (hv.trans e1)) hne)
  rw [← e2, hsm]
  exact k _ hI
set_option maxRecDepth 1000000 in
theorem law_witness {X : Nat × (Nat → Int32)} {INV INV2 : SM → Prop} (hX : ∀ s, INV s → s.2.2.2 = X) (h : S_witness INV INV2) {mc ms : Nat} {s : SM} (hs : INV s) {i : Int32} (hin1 : vp_in (i + (1 : Int32)) X.1) (hin2 : vp_in (i + (2 : Int32)) X.1) (hin3 : vp_in (i + (3 : Int32)) X.1) (hin4 : vp_in (i + (4 : Int32)) X.1) (hin5 : vp_in (i + (5 : Int32)) X.1) {QL : Option Value → JMem → Prop} (k : ∀ s', INV2 s' → JT ML_law 421 mc ms 1740 [(4, .int i), (3, .ref 278), (2, .ref 248), (1, .ref 2), (0, .ref 0)] [] (std s') QL) : JT ML_law 421 mc ms 1603 [(4, .int i), (3, .ref 278), (2, .ref 248), (1, .ref 2), (0, .ref 0)] [] (std s) QL := by
  have hXs : mS (std s) = X := hX s hs
  have H := h s (X.2 (i + (1 : Int32)).toNatClampNeg) hs
  obtain ⟨hr1, hr2, hv, hI⟩ := H
  refine JT_aload_n (q := 3) dL_law_1603 rfl rfl ?_
  refine JT_aload_n (q := 4) dL_law_1604 rfl rfl ?_
  refine JT_iload (q := 0) dL_law_1605 rfl ?_
  refine JT_iconst (v := 1) dL_law_1607 (by decide) ?_
  refine JT_iadd dL_law_1608 ?_
  refine JT_sld dL_law_1609 (by rw [show mS (std s) = X from hXs]; exact hin1) ?_
  rw [show mS (std s) = X from hXs]
  refine JS_callVIm (M' := MX11_witness) (d' := 2) (As := [.int (X.2 (i + (1 : Int32)).toNatClampNeg)]) (rest := []) (P := fun z w => (vX11_witness s (X.2 (i + (1 : Int32)).toNatClampNeg)) = z ∧ s = w) dL_law_1610 cvL_202 okX11_witness rfl (Nat.le_of_ble_eq_true rfl) BS_2 (Nat.le_of_ble_eq_true rfl) (Nat.le_of_ble_eq_true rfl) hci_11 (Nat.le_of_ble_eq_true rfl) (Nat.le_of_ble_eq_true rfl) (pX11_witness (X.2 (i + (1 : Int32)).toNatClampNeg) hr1 ⟨rfl, rfl⟩) (fun z w hq => ?_)
  obtain ⟨e1, e2⟩ := hq
  rw [← e1, ← e2]
  obtain ⟨vv, hvv⟩ : ∃ z, z = (vX11_witness s (X.2 (i + (1 : Int32)).toNatClampNeg)) := ⟨_, rfl⟩
  rw [← hvv]
  obtain ⟨sm, hsm⟩ : ∃ z, z = s := ⟨_, rfl⟩
  rw [← hsm]
  have hXm : mS (std sm) = X := by rw [hsm]; exact hXs
  refine JT_aload_n (q := 2) dL_law_1613 rfl rfl ?_
  refine JT_aload_n (q := 4) dL_law_1614 rfl rfl ?_
  refine JT_iload (q := 0) dL_law_1615 rfl ?_
  refine JT_iconst (v := 1) dL_law_1617 (by decide) ?_
  refine JT_iadd dL_law_1618 ?_
  refine JT_sld dL_law_1619 (by rw [show mS (std sm) = X from hXm]; exact hin1) ?_
  rw [show mS (std sm) = X from hXm]
  refine JS_callVIm (M' := MX12_witness) (d' := 3) (As := [.int (X.2 (i + (1 : Int32)).toNatClampNeg)]) (rest := [.int vv]) (P := fun z w => (vX12_witness sm (X.2 (i + (1 : Int32)).toNatClampNeg)) = z ∧ (mX12_witness sm (X.2 (i + (1 : Int32)).toNatClampNeg)) = w) dL_law_1620 cvL_205 okX12_witness rfl (Nat.le_of_ble_eq_true rfl) BS_248 (Nat.le_of_ble_eq_true rfl) (Nat.le_of_ble_eq_true rfl) hci_12 (Nat.le_of_ble_eq_true rfl) (Nat.le_of_ble_eq_true rfl) (pX12_witness (X.2 (i + (1 : Int32)).toNatClampNeg) (by rw [hsm]; exact hr2) ⟨rfl, rfl⟩) (fun z w hq => ?_)
  obtain ⟨e1, e2⟩ := hq
  rw [hsm] at e1
  refine JT_icmp_eq (tgt := 1740) dL_law_1623 (by decide) (fun _ => ?_) (fun hne => absurd (hvv.trans (hv.trans e1)) hne)
  rw [← e2, hsm]
  exact k _ hI
set_option maxRecDepth 1000000 in
theorem law_lasts {X : Nat × (Nat → Int32)} {INV INV2 : SM → Prop} (hX : ∀ s, INV s → s.2.2.2 = X) (h : S_lasts INV INV2) {mc ms : Nat} {s : SM} (hs : INV s) {i : Int32} (hin1 : vp_in (i + (1 : Int32)) X.1) (hin2 : vp_in (i + (2 : Int32)) X.1) (hin3 : vp_in (i + (3 : Int32)) X.1) (hin4 : vp_in (i + (4 : Int32)) X.1) (hin5 : vp_in (i + (5 : Int32)) X.1) {QL : Option Value → JMem → Prop} (k : ∀ s', INV2 s' → JT ML_law 421 mc ms 1740 [(4, .int i), (3, .ref 278), (2, .ref 248), (1, .ref 2), (0, .ref 0)] [] (std s') QL) : JT ML_law 421 mc ms 1628 [(4, .int i), (3, .ref 278), (2, .ref 248), (1, .ref 2), (0, .ref 0)] [] (std s) QL := by
  have hXs : mS (std s) = X := hX s hs
  have H := h s (X.2 (i + (1 : Int32)).toNatClampNeg) (X.2 (i + (2 : Int32)).toNatClampNeg) hs
  obtain ⟨hr1, hr2, hv, hI, hX1⟩ := H
  refine JT_aload_n (q := 3) dL_law_1628 rfl rfl ?_
  refine JT_aload_n (q := 4) dL_law_1629 rfl rfl ?_
  refine JT_iload (q := 0) dL_law_1630 rfl ?_
  refine JT_iconst (v := 1) dL_law_1632 (by decide) ?_
  refine JT_iadd dL_law_1633 ?_
  refine JT_sld dL_law_1634 (by rw [show mS (std s) = X from hXs]; exact hin1) ?_
  rw [show mS (std s) = X from hXs]
  refine JT_aload_n (q := 4) dL_law_1635 rfl rfl ?_
  refine JT_iload (q := 0) dL_law_1636 rfl ?_
  refine JT_iconst (v := 2) dL_law_1638 (by decide) ?_
  refine JT_iadd dL_law_1639 ?_
  refine JT_sld dL_law_1640 (by rw [show mS (std s) = X from hXs]; exact hin2) ?_
  rw [show mS (std s) = X from hXs]
  refine JS_callVIm (M' := MX11_lasts) (d' := 408) (As := [.int (X.2 (i + (1 : Int32)).toNatClampNeg), .int (X.2 (i + (2 : Int32)).toNatClampNeg)]) (rest := []) (P := fun z w => (vX11_lasts s (X.2 (i + (1 : Int32)).toNatClampNeg) (X.2 (i + (2 : Int32)).toNatClampNeg)) = z ∧ (mX11_lasts s (X.2 (i + (1 : Int32)).toNatClampNeg) (X.2 (i + (2 : Int32)).toNatClampNeg)) = w) dL_law_1641 cvL_206 okX11_lasts rfl (Nat.le_of_ble_eq_true rfl) BS_2 (Nat.le_of_ble_eq_true rfl) (Nat.le_of_ble_eq_true rfl) hci_11 (Nat.le_of_ble_eq_true rfl) (Nat.le_of_ble_eq_true rfl) (pX11_lasts (X.2 (i + (1 : Int32)).toNatClampNeg) (X.2 (i + (2 : Int32)).toNatClampNeg) hr1 ⟨rfl, rfl⟩) (fun z w hq => ?_)
  obtain ⟨e1, e2⟩ := hq
  rw [← e1, ← e2]
  obtain ⟨vv, hvv⟩ : ∃ z, z = (vX11_lasts s (X.2 (i + (1 : Int32)).toNatClampNeg) (X.2 (i + (2 : Int32)).toNatClampNeg)) := ⟨_, rfl⟩
  rw [← hvv]
  obtain ⟨sm, hsm⟩ : ∃ z, z = (mX11_lasts s (X.2 (i + (1 : Int32)).toNatClampNeg) (X.2 (i + (2 : Int32)).toNatClampNeg)) := ⟨_, rfl⟩
  rw [← hsm]
  have hXm : mS (std sm) = X := by rw [hsm]; exact hX1.trans hXs
  refine JT_aload_n (q := 2) dL_law_1644 rfl rfl ?_
  refine JT_aload_n (q := 4) dL_law_1645 rfl rfl ?_
  refine JT_iload (q := 0) dL_law_1646 rfl ?_
  refine JT_iconst (v := 1) dL_law_1648 (by decide) ?_
  refine JT_iadd dL_law_1649 ?_
  refine JT_sld dL_law_1650 (by rw [show mS (std sm) = X from hXm]; exact hin1) ?_
  rw [show mS (std sm) = X from hXm]
  refine JT_aload_n (q := 4) dL_law_1651 rfl rfl ?_
  refine JT_iload (q := 0) dL_law_1652 rfl ?_
  refine JT_iconst (v := 2) dL_law_1654 (by decide) ?_
  refine JT_iadd dL_law_1655 ?_
  refine JT_sld dL_law_1656 (by rw [show mS (std sm) = X from hXm]; exact hin2) ?_
  rw [show mS (std sm) = X from hXm]
  refine JS_callVIm (M' := MX12_lasts) (d' := 6) (As := [.int (X.2 (i + (1 : Int32)).toNatClampNeg), .int (X.2 (i + (2 : Int32)).toNatClampNeg)]) (rest := [.int vv]) (P := fun z w => (vX12_lasts sm (X.2 (i + (1 : Int32)).toNatClampNeg) (X.2 (i + (2 : Int32)).toNatClampNeg)) = z ∧ (mX12_lasts sm (X.2 (i + (1 : Int32)).toNatClampNeg) (X.2 (i + (2 : Int32)).toNatClampNeg)) = w) dL_law_1657 cvL_209 okX12_lasts rfl (Nat.le_of_ble_eq_true rfl) BS_248 (Nat.le_of_ble_eq_true rfl) (Nat.le_of_ble_eq_true rfl) hci_12 (Nat.le_of_ble_eq_true rfl) (Nat.le_of_ble_eq_true rfl) (pX12_lasts (X.2 (i + (1 : Int32)).toNatClampNeg) (X.2 (i + (2 : Int32)).toNatClampNeg) (by rw [hsm]; exact hr2) ⟨rfl, rfl⟩) (fun z w hq => ?_)
  obtain ⟨e1, e2⟩ := hq
  rw [hsm] at e1
  refine JT_icmp_eq (tgt := 1740) dL_law_1660 (by decide) (fun _ => ?_) (fun hne => absurd (hvv.trans (hv.trans e1)) hne)
  rw [← e2, hsm]
  exact k _ hI
set_option maxRecDepth 1000000 in
theorem law_image {X : Nat × (Nat → Int32)} {INV INV2 : SM → Prop} (hX : ∀ s, INV s → s.2.2.2 = X) (h : S_image INV INV2) {mc ms : Nat} {s : SM} (hs : INV s) {i : Int32} (hin1 : vp_in (i + (1 : Int32)) X.1) (hin2 : vp_in (i + (2 : Int32)) X.1) (hin3 : vp_in (i + (3 : Int32)) X.1) (hin4 : vp_in (i + (4 : Int32)) X.1) (hin5 : vp_in (i + (5 : Int32)) X.1) {QL : Option Value → JMem → Prop} (k : ∀ s', INV2 s' → JT ML_law 421 mc ms 1740 [(4, .int i), (3, .ref 278), (2, .ref 248), (1, .ref 2), (0, .ref 0)] [] (std s') QL) : JT ML_law 421 mc ms 1665 [(4, .int i), (3, .ref 278), (2, .ref 248), (1, .ref 2), (0, .ref 0)] [] (std s) QL := by
  have hXs : mS (std s) = X := hX s hs
  have H := h s (X.2 (i + (1 : Int32)).toNatClampNeg) hs
  obtain ⟨hr1, hr2, hv, hI, hX1⟩ := H
  refine JT_aload_n (q := 3) dL_law_1665 rfl rfl ?_
  refine JT_aload_n (q := 4) dL_law_1666 rfl rfl ?_
  refine JT_iload (q := 0) dL_law_1667 rfl ?_
  refine JT_iconst (v := 1) dL_law_1669 (by decide) ?_
  refine JT_iadd dL_law_1670 ?_
  refine JT_sld dL_law_1671 (by rw [show mS (std s) = X from hXs]; exact hin1) ?_
  rw [show mS (std s) = X from hXs]
  refine JS_callVIm (M' := MX11_image) (d' := 3) (As := [.int (X.2 (i + (1 : Int32)).toNatClampNeg)]) (rest := []) (P := fun z w => (vX11_image s (X.2 (i + (1 : Int32)).toNatClampNeg)) = z ∧ (mX11_image s (X.2 (i + (1 : Int32)).toNatClampNeg)) = w) dL_law_1672 cvL_210 okX11_image rfl (Nat.le_of_ble_eq_true rfl) BS_2 (Nat.le_of_ble_eq_true rfl) (Nat.le_of_ble_eq_true rfl) hci_11 (Nat.le_of_ble_eq_true rfl) (Nat.le_of_ble_eq_true rfl) (pX11_image (X.2 (i + (1 : Int32)).toNatClampNeg) hr1 ⟨rfl, rfl⟩) (fun z w hq => ?_)
  obtain ⟨e1, e2⟩ := hq
  rw [← e1, ← e2]
  obtain ⟨vv, hvv⟩ : ∃ z, z = (vX11_image s (X.2 (i + (1 : Int32)).toNatClampNeg)) := ⟨_, rfl⟩
  rw [← hvv]
  obtain ⟨sm, hsm⟩ : ∃ z, z = (mX11_image s (X.2 (i + (1 : Int32)).toNatClampNeg)) := ⟨_, rfl⟩
  rw [← hsm]
  have hXm : mS (std sm) = X := by rw [hsm]; exact hX1.trans hXs
  refine JT_aload_n (q := 2) dL_law_1675 rfl rfl ?_
  refine JT_aload_n (q := 4) dL_law_1676 rfl rfl ?_
  refine JT_iload (q := 0) dL_law_1677 rfl ?_
  refine JT_iconst (v := 1) dL_law_1679 (by decide) ?_
  refine JT_iadd dL_law_1680 ?_
  refine JT_sld dL_law_1681 (by rw [show mS (std sm) = X from hXm]; exact hin1) ?_
  rw [show mS (std sm) = X from hXm]
  refine JS_callVIm (M' := MX12_image) (d' := 1) (As := [.int (X.2 (i + (1 : Int32)).toNatClampNeg)]) (rest := [.int vv]) (P := fun z w => (vX12_image sm (X.2 (i + (1 : Int32)).toNatClampNeg)) = z ∧ (mX12_image sm (X.2 (i + (1 : Int32)).toNatClampNeg)) = w) dL_law_1682 cvL_213 okX12_image rfl (Nat.le_of_ble_eq_true rfl) BS_248 (Nat.le_of_ble_eq_true rfl) (Nat.le_of_ble_eq_true rfl) hci_12 (Nat.le_of_ble_eq_true rfl) (Nat.le_of_ble_eq_true rfl) (pX12_image (X.2 (i + (1 : Int32)).toNatClampNeg) (by rw [hsm]; exact hr2) ⟨rfl, rfl⟩) (fun z w hq => ?_)
  obtain ⟨e1, e2⟩ := hq
  rw [hsm] at e1
  refine JT_icmp_eq (tgt := 1740) dL_law_1685 (by decide) (fun _ => ?_) (fun hne => absurd (hvv.trans (hv.trans e1)) hne)
  rw [← e2, hsm]
  exact k _ hI
set_option maxRecDepth 1000000 in
theorem law_restore {X : Nat × (Nat → Int32)} {INV INV2 : SM → Prop} (hX : ∀ s, INV s → s.2.2.2 = X) (h : S_restore INV INV2) {mc ms : Nat} {s : SM} (hs : INV s) {i : Int32} (hin1 : vp_in (i + (1 : Int32)) X.1) (hin2 : vp_in (i + (2 : Int32)) X.1) (hin3 : vp_in (i + (3 : Int32)) X.1) (hin4 : vp_in (i + (4 : Int32)) X.1) (hin5 : vp_in (i + (5 : Int32)) X.1) {QL : Option Value → JMem → Prop} (k : ∀ s', INV2 s' → JT ML_law 421 mc ms 1740 [(4, .int i), (3, .ref 278), (2, .ref 248), (1, .ref 2), (0, .ref 0)] [] (std s') QL) : JT ML_law 421 mc ms 1690 [(4, .int i), (3, .ref 278), (2, .ref 248), (1, .ref 2), (0, .ref 0)] [] (std s) QL := by
  have hXs : mS (std s) = X := hX s hs
  have H := h s (X.2 (i + (1 : Int32)).toNatClampNeg) hs
  obtain ⟨hr1, hr2, hv, hI, hX1⟩ := H
  refine JT_aload_n (q := 3) dL_law_1690 rfl rfl ?_
  refine JT_aload_n (q := 4) dL_law_1691 rfl rfl ?_
  refine JT_iload (q := 0) dL_law_1692 rfl ?_
  refine JT_iconst (v := 1) dL_law_1694 (by decide) ?_
  refine JT_iadd dL_law_1695 ?_
  refine JT_sld dL_law_1696 (by rw [show mS (std s) = X from hXs]; exact hin1) ?_
  rw [show mS (std s) = X from hXs]
  refine JS_callVIm (M' := MX11_restore) (d' := 3) (As := [.int (X.2 (i + (1 : Int32)).toNatClampNeg)]) (rest := []) (P := fun z w => (vX11_restore s (X.2 (i + (1 : Int32)).toNatClampNeg)) = z ∧ (mX11_restore s (X.2 (i + (1 : Int32)).toNatClampNeg)) = w) dL_law_1697 cvL_214 okX11_restore rfl (Nat.le_of_ble_eq_true rfl) BS_2 (Nat.le_of_ble_eq_true rfl) (Nat.le_of_ble_eq_true rfl) hci_11 (Nat.le_of_ble_eq_true rfl) (Nat.le_of_ble_eq_true rfl) (pX11_restore (X.2 (i + (1 : Int32)).toNatClampNeg) hr1 ⟨rfl, rfl⟩) (fun z w hq => ?_)
  obtain ⟨e1, e2⟩ := hq
  rw [← e1, ← e2]
  obtain ⟨vv, hvv⟩ : ∃ z, z = (vX11_restore s (X.2 (i + (1 : Int32)).toNatClampNeg)) := ⟨_, rfl⟩
  rw [← hvv]
  obtain ⟨sm, hsm⟩ : ∃ z, z = (mX11_restore s (X.2 (i + (1 : Int32)).toNatClampNeg)) := ⟨_, rfl⟩
  rw [← hsm]
  have hXm : mS (std sm) = X := by rw [hsm]; exact hX1.trans hXs
  refine JT_aload_n (q := 2) dL_law_1700 rfl rfl ?_
  refine JT_aload_n (q := 4) dL_law_1701 rfl rfl ?_
  refine JT_iload (q := 0) dL_law_1702 rfl ?_
  refine JT_iconst (v := 1) dL_law_1704 (by decide) ?_
  refine JT_iadd dL_law_1705 ?_
  refine JT_sld dL_law_1706 (by rw [show mS (std sm) = X from hXm]; exact hin1) ?_
  rw [show mS (std sm) = X from hXm]
  refine JS_callVIm (M' := MX12_restore) (d' := 1) (As := [.int (X.2 (i + (1 : Int32)).toNatClampNeg)]) (rest := [.int vv]) (P := fun z w => (vX12_restore sm (X.2 (i + (1 : Int32)).toNatClampNeg)) = z ∧ (mX12_restore sm (X.2 (i + (1 : Int32)).toNatClampNeg)) = w) dL_law_1707 cvL_217 okX12_restore rfl (Nat.le_of_ble_eq_true rfl) BS_248 (Nat.le_of_ble_eq_true rfl) (Nat.le_of_ble_eq_true rfl) hci_12 (Nat.le_of_ble_eq_true rfl) (Nat.le_of_ble_eq_true rfl) (pX12_restore (X.2 (i + (1 : Int32)).toNatClampNeg) (by rw [hsm]; exact hr2) ⟨rfl, rfl⟩) (fun z w hq => ?_)
  obtain ⟨e1, e2⟩ := hq
  rw [hsm] at e1
  refine JT_icmp_eq (tgt := 1740) dL_law_1710 (by decide) (fun _ => ?_) (fun hne => absurd (hvv.trans (hv.trans e1)) hne)
  rw [← e2, hsm]
  exact k _ hI
set_option maxRecDepth 1000000 in
theorem law_count {X : Nat × (Nat → Int32)} {INV INV2 : SM → Prop} (hX : ∀ s, INV s → s.2.2.2 = X) (h : S_count INV INV2) {mc ms : Nat} {s : SM} (hs : INV s) {i : Int32} (hin1 : vp_in (i + (1 : Int32)) X.1) (hin2 : vp_in (i + (2 : Int32)) X.1) (hin3 : vp_in (i + (3 : Int32)) X.1) (hin4 : vp_in (i + (4 : Int32)) X.1) (hin5 : vp_in (i + (5 : Int32)) X.1) {QL : Option Value → JMem → Prop} (k : ∀ s', INV2 s' → JT ML_law 421 mc ms 1740 [(4, .int i), (3, .ref 278), (2, .ref 248), (1, .ref 2), (0, .ref 0)] [] (std s') QL) : JT ML_law 421 mc ms 1715 [(4, .int i), (3, .ref 278), (2, .ref 248), (1, .ref 2), (0, .ref 0)] [] (std s) QL := by
  have hXs : mS (std s) = X := hX s hs
  have H := h s (X.2 (i + (1 : Int32)).toNatClampNeg) hs
  obtain ⟨hr1, hr2, hv, hI⟩ := H
  refine JT_aload_n (q := 3) dL_law_1715 rfl rfl ?_
  refine JT_aload_n (q := 4) dL_law_1716 rfl rfl ?_
  refine JT_iload (q := 0) dL_law_1717 rfl ?_
  refine JT_iconst (v := 1) dL_law_1719 (by decide) ?_
  refine JT_iadd dL_law_1720 ?_
  refine JT_sld dL_law_1721 (by rw [show mS (std s) = X from hXs]; exact hin1) ?_
  rw [show mS (std s) = X from hXs]
  refine JS_callVIm (M' := MX11_count) (d' := 3) (As := [.int (X.2 (i + (1 : Int32)).toNatClampNeg)]) (rest := []) (P := fun z w => (vX11_count s (X.2 (i + (1 : Int32)).toNatClampNeg)) = z ∧ s = w) dL_law_1722 cvL_218 okX11_count rfl (Nat.le_of_ble_eq_true rfl) BS_2 (Nat.le_of_ble_eq_true rfl) (Nat.le_of_ble_eq_true rfl) hci_11 (Nat.le_of_ble_eq_true rfl) (Nat.le_of_ble_eq_true rfl) (pX11_count (X.2 (i + (1 : Int32)).toNatClampNeg) hr1 ⟨rfl, rfl⟩) (fun z w hq => ?_)
  obtain ⟨e1, e2⟩ := hq
  rw [← e1, ← e2]
  obtain ⟨vv, hvv⟩ : ∃ z, z = (vX11_count s (X.2 (i + (1 : Int32)).toNatClampNeg)) := ⟨_, rfl⟩
  rw [← hvv]
  obtain ⟨sm, hsm⟩ : ∃ z, z = s := ⟨_, rfl⟩
  rw [← hsm]
  have hXm : mS (std sm) = X := by rw [hsm]; exact hXs
  refine JT_aload_n (q := 2) dL_law_1725 rfl rfl ?_
  refine JT_aload_n (q := 4) dL_law_1726 rfl rfl ?_
  refine JT_iload (q := 0) dL_law_1727 rfl ?_
  refine JT_iconst (v := 1) dL_law_1729 (by decide) ?_
  refine JT_iadd dL_law_1730 ?_
  refine JT_sld dL_law_1731 (by rw [show mS (std sm) = X from hXm]; exact hin1) ?_
  rw [show mS (std sm) = X from hXm]
  refine JS_callVIm (M' := MX12_count) (d' := 4) (As := [.int (X.2 (i + (1 : Int32)).toNatClampNeg)]) (rest := [.int vv]) (P := fun z w => (vX12_count sm (X.2 (i + (1 : Int32)).toNatClampNeg)) = z ∧ (mX12_count sm (X.2 (i + (1 : Int32)).toNatClampNeg)) = w) dL_law_1732 cvL_221 okX12_count rfl (Nat.le_of_ble_eq_true rfl) BS_248 (Nat.le_of_ble_eq_true rfl) (Nat.le_of_ble_eq_true rfl) hci_12 (Nat.le_of_ble_eq_true rfl) (Nat.le_of_ble_eq_true rfl) (pX12_count (X.2 (i + (1 : Int32)).toNatClampNeg) (by rw [hsm]; exact hr2) ⟨rfl, rfl⟩) (fun z w hq => ?_)
  obtain ⟨e1, e2⟩ := hq
  rw [hsm] at e1
  refine JT_icmp_eq (tgt := 1740) dL_law_1735 (by decide) (fun _ => ?_) (fun hne => absurd (hvv.trans (hv.trans e1)) hne)
  rw [← e2, hsm]
  exact k _ hI
