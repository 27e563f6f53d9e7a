set_option maxRecDepth 20000 in
theorem bX12_fits_52 (a1 : Int32) (a2 : Int32) (a3 : Int32) {s : SM} {Q : Int32 → SM → Prop} (h : (((gI s 250 ((0 : Int32)).toNatClampNeg) ≤ a3 → BI MX12_fits 6 112 [(0, .ref 248), (1, .int a1), (2, .int a2), (3, .int (0 : Int32))] s Q) ∧ (¬ (gI s 250 ((0 : Int32)).toNatClampNeg) ≤ a3 → rX12_octet s ((2 : Int32) * a3) ∧ rX12_octet s (((2 : Int32) * a3) + (1 : Int32)) ∧ vp_in a3 9 ∧ (∀ s2, s2 = (pI s 273 (a3).toNatClampNeg ((((256 : Int32) * (vX12_octet s ((2 : Int32) * a3))) + (vX12_octet s (((2 : Int32) * a3) + (1 : Int32)))) - (10000 : Int32))) → KI MX12_netOf 3 [.ref 248, .int a3] s2 (fun x4 s3 => vp_in a3 9 ∧ BI MX12_fits 6 52 [(0, .ref 248), (1, .int a1), (2, .int a2), (3, .int (a3 + 1))] (pI s3 274 (a3).toNatClampNeg x4) Q))))) : BI MX12_fits 6 52 [(0, .ref 248), (1, .int a1), (2, .int a2), (3, .int a3)] s Q := by
  refine JT_iload_n (q := 3) dX12_fits_52 rfl rfl ?_
  refine JT_aload_n (q := 0) dX12_fits_53 rfl rfl ?_
  refine JS_getR (x := 250) dX12_fits_54 flX12_33 BS_248 (Nat.le_of_ble_eq_true rfl) (Nat.le_of_ble_eq_true rfl) (Or.inr ⟨_, ct_12_6⟩) RF_248_6 ?_
  refine JT_iconst (v := 0) dX12_fits_57 ic_0 ?_
  refine JS_iald dX12_fits_58 BS_250 (Nat.le_of_ble_eq_true rfl) (Nat.le_of_ble_eq_true rfl) (by unfold vp_in; decide) ?_
  refine JT_icmp_ge (tgt := 110) dX12_fits_59 (by decide) (fun hc8 => ?_) (fun hc8 => ?_)
  · have h := h.1 hc8
    refine JT_iconst (v := 0) dX12_fits_110 ic_0 ?_
    refine JT_istore_n (lv' := [(3, .int (0 : Int32)), (0, .ref 248), (1, .int a1), (2, .int a2)]) dX12_fits_111 rfl (Nat.le_of_ble_eq_true rfl) rfl ?_
    exact JT_sub [1, 2, 3, 0] rfl h
  · have h := h.2 hc8
    refine JT_aload_n (q := 0) dX12_fits_62 rfl rfl ?_
    refine JS_getR (x := 273) dX12_fits_63 flX12_110 BS_248 (Nat.le_of_ble_eq_true rfl) (Nat.le_of_ble_eq_true rfl) (Or.inr ⟨_, ct_12_51⟩) RF_248_51 ?_
    refine JT_iload_n (q := 3) dX12_fits_66 rfl rfl ?_
    refine JT_sipush (v := 256) dX12_fits_67 sp_256 ?_
    refine JT_aload_n (q := 0) dX12_fits_70 rfl rfl ?_
    refine JT_iconst (v := 2) dX12_fits_71 ic_2 ?_
    refine JT_iload_n (q := 3) dX12_fits_72 rfl rfl ?_
    refine JT_imul dX12_fits_73 ?_
    obtain ⟨o7, h⟩ := h
    refine JS_callVI (M' := MX12_octet) (d' := 0) (As := [.int ((2 : Int32) * a3)]) (rest := [.int (256 : Int32), .int a3, .ref 273]) (P := (fun zv9 wm9 => (vX12_octet s ((2 : Int32) * a3)) = zv9 ∧ s = wm9)) dX12_fits_74 cvX12_427 okX12_octet rfl (Nat.le_of_ble_eq_true rfl) BS_248 (Nat.le_of_ble_eq_true rfl) (Nat.le_of_ble_eq_true rfl) hci_12 (Nat.le_of_ble_eq_true rfl) (Nat.le_of_ble_eq_true rfl) (pX12_octet  (((2 : Int32) * a3)) o7 ⟨rfl, rfl⟩) (fun zv9 wm9 hq9 => ?_)
    obtain ⟨rfl, rfl⟩ := hq9
    refine JT_imul dX12_fits_77 ?_
    refine JT_aload_n (q := 0) dX12_fits_78 rfl rfl ?_
    refine JT_iconst (v := 2) dX12_fits_79 ic_2 ?_
    refine JT_iload_n (q := 3) dX12_fits_80 rfl rfl ?_
    refine JT_imul dX12_fits_81 ?_
    refine JT_iconst (v := 1) dX12_fits_82 ic_1 ?_
    refine JT_iadd dX12_fits_83 ?_
    obtain ⟨o6, h⟩ := h
    refine JS_callVI (M' := MX12_octet) (d' := 0) (As := [.int (((2 : Int32) * a3) + (1 : Int32))]) (rest := [.int ((256 : Int32) * (vX12_octet s ((2 : Int32) * a3))), .int a3, .ref 273]) (P := (fun zv9 wm9 => (vX12_octet s (((2 : Int32) * a3) + (1 : Int32))) = zv9 ∧ s = wm9)) dX12_fits_84 cvX12_427 okX12_octet rfl (Nat.le_of_ble_eq_true rfl) BS_248 (Nat.le_of_ble_eq_true rfl) (Nat.le_of_ble_eq_true rfl) hci_12 (Nat.le_of_ble_eq_true rfl) (Nat.le_of_ble_eq_true rfl) (pX12_octet  ((((2 : Int32) * a3) + (1 : Int32))) o6 ⟨rfl, rfl⟩) (fun zv9 wm9 hq9 => ?_)
    obtain ⟨rfl, rfl⟩ := hq9
    refine JT_iadd dX12_fits_87 ?_
    refine JT_sipush (v := 10000) dX12_fits_88 sp_10000 ?_
    refine JT_isub dX12_fits_91 ?_
    obtain ⟨o1, h⟩ := h
    refine JS_iast dX12_fits_92 BS_273 (Nat.le_of_ble_eq_true rfl) (Nat.le_of_ble_eq_true rfl) o1 ?_
    obtain ⟨s2, hs2⟩ : ∃ z, z = (pI s 273 (a3).toNatClampNeg ((((256 : Int32) * (vX12_octet s ((2 : Int32) * a3))) + (vX12_octet s (((2 : Int32) * a3) + (1 : Int32)))) - (10000 : Int32))) := ⟨_, rfl⟩
    replace h := h s2 hs2
    rw [← hs2]
    refine JT_aload_n (q := 0) dX12_fits_93 rfl rfl ?_
    refine JS_getR (x := 274) dX12_fits_94 flX12_113 BS_248 (Nat.le_of_ble_eq_true rfl) (Nat.le_of_ble_eq_true rfl) (Or.inr ⟨_, ct_12_52⟩) RF_248_52 ?_
    refine JT_iload_n (q := 3) dX12_fits_97 rfl rfl ?_
    refine JT_aload_n (q := 0) dX12_fits_98 rfl rfl ?_
    refine JT_iload_n (q := 3) dX12_fits_99 rfl rfl ?_
    refine JS_callVI (M' := MX12_netOf) (d' := 3) (As := [.int a3]) (rest := [.int a3, .ref 274]) dX12_fits_100 cvX12_300 okX12_netOf rfl (Nat.le_of_ble_eq_true rfl) BS_248 (Nat.le_of_ble_eq_true rfl) (Nat.le_of_ble_eq_true rfl) hci_12 (Nat.le_of_ble_eq_true rfl) (Nat.le_of_ble_eq_true rfl) h (fun x4 s3 h => ?_)
    obtain ⟨o5, h⟩ := h
    refine JS_iast dX12_fits_103 BS_274 (Nat.le_of_ble_eq_true rfl) (Nat.le_of_ble_eq_true rfl) o5 ?_
    refine JT_iinc (q := 3) (v := (a3 + 1)) (lv' := [(3, .int (a3 + 1)), (0, .ref 248), (1, .int a1), (2, .int a2)]) dX12_fits_104 rfl (by rfl) (Nat.le_of_ble_eq_true rfl) rfl ?_
    refine JT_goto (tgt := 52) dX12_fits_107 (by decide) ?_
    exact JT_sub [1, 2, 3, 0] rfl h
set_option maxRecDepth 20000 in
theorem bX12_fits_112 (a1 : Int32) (a2 : Int32) (a3 : Int32) {s : SM} {Q : Int32 → SM → Prop} (h : ((a2 ≤ a3 → BI MX12_fits 6 189 [(0, .ref 248), (1, .int a1), (2, .int a2), (3, .int (0 : Int32)), (4, .int (1 : Int32))] (pI s 248 53 (0 : Int32)) Q) ∧ (¬ a2 ≤ a3 → KI MX12_lostOf 4 [.ref 248, .int a3] s (fun x2 s1 => rX12_of s1 x2 (0 : Int32) ∧ vp_in (vX12_of s1 x2 (0 : Int32)) 9 ∧ rX12_valueOf s1 x2 ∧ vp_in (vX12_of s1 x2 (0 : Int32)) 9 ∧ (∀ s5, s5 = (pI s1 274 ((vX12_of s1 x2 (0 : Int32))).toNatClampNeg ((gI s1 274 ((vX12_of s1 x2 (0 : Int32))).toNatClampNeg) - (vX12_valueOf s1 x2))) → rX12_of s5 x2 (1 : Int32) ∧ vp_in (vX12_of s5 x2 (1 : Int32)) 9 ∧ rX12_valueOf s5 x2 ∧ vp_in (vX12_of s5 x2 (1 : Int32)) 9 ∧ (∀ s8, s8 = (pI s5 274 ((vX12_of s5 x2 (1 : Int32))).toNatClampNeg ((gI s5 274 ((vX12_of s5 x2 (1 : Int32))).toNatClampNeg) + (vX12_valueOf s5 x2))) → vp_in a3 4 ∧ BI MX12_fits 6 112 [(0, .ref 248), (1, .int a1), (2, .int a2), (3, .int (a3 + 1))] (pI s8 272 (a3).toNatClampNeg (1 : Int32)) Q)))))) : BI MX12_fits 6 112 [(0, .ref 248), (1, .int a1), (2, .int a2), (3, .int a3)] s Q := by
  refine JT_iload_n (q := 3) dX12_fits_112 rfl rfl ?_
  refine JT_iload_n (q := 2) dX12_fits_113 rfl rfl ?_
  refine JT_icmp_ge (tgt := 179) dX12_fits_114 (by decide) (fun hc14 => ?_) (fun hc14 => ?_)
  · have h := h.1 hc14
    refine JT_aload_n (q := 0) dX12_fits_179 rfl rfl ?_
    refine JT_iconst (v := 0) dX12_fits_180 ic_0 ?_
    refine JS_putI dX12_fits_181 flX12_439 BS_248 (Nat.le_of_ble_eq_true rfl) (Nat.le_of_ble_eq_true rfl) ct_12_53 ?_
    refine JT_iconst (v := 0) dX12_fits_184 ic_0 ?_
    refine JT_istore_n (lv' := [(3, .int (0 : Int32)), (0, .ref 248), (1, .int a1), (2, .int a2)]) dX12_fits_185 rfl (Nat.le_of_ble_eq_true rfl) rfl ?_
    refine JT_iconst (v := 1) dX12_fits_186 ic_1 ?_
    refine JT_istore (lv' := [(4, .int (1 : Int32)), (3, .int (0 : Int32)), (0, .ref 248), (1, .int a1), (2, .int a2)]) dX12_fits_187 (Nat.le_of_ble_eq_true rfl) rfl ?_
    exact JT_sub [2, 3, 4, 1, 0] rfl h
  · have h := h.2 hc14
    refine JT_aload_n (q := 0) dX12_fits_117 rfl rfl ?_
    refine JT_iload_n (q := 3) dX12_fits_118 rfl rfl ?_
    refine JS_callVI (M' := MX12_lostOf) (d' := 4) (As := [.int a3]) (rest := []) dX12_fits_119 cvX12_436 okX12_lostOf rfl (Nat.le_of_ble_eq_true rfl) BS_248 (Nat.le_of_ble_eq_true rfl) (Nat.le_of_ble_eq_true rfl) hci_12 (Nat.le_of_ble_eq_true rfl) (Nat.le_of_ble_eq_true rfl) h (fun x2 s1 h => ?_)
    refine JT_istore (lv' := [(4, .int x2), (0, .ref 248), (1, .int a1), (2, .int a2), (3, .int a3)]) dX12_fits_122 (Nat.le_of_ble_eq_true rfl) rfl ?_
    refine JT_aload_n (q := 1) dX12_fits_124 rfl rfl ?_
    refine JS_getR (x := 274) dX12_fits_125 flX12_113 BS_248 (Nat.le_of_ble_eq_true rfl) (Nat.le_of_ble_eq_true rfl) (Or.inr ⟨_, ct_12_52⟩) RF_248_52 ?_
    refine JT_aload_n (q := 1) dX12_fits_128 rfl rfl ?_
    refine JT_iload (q := 0) dX12_fits_129 rfl ?_
    refine JT_iconst (v := 0) dX12_fits_131 ic_0 ?_
    obtain ⟨o13, h⟩ := h
    refine JS_callVI (M' := MX12_of) (d' := 0) (As := [.int x2, .int (0 : Int32)]) (rest := [.ref 274]) (P := (fun zv9 wm9 => (vX12_of s1 x2 (0 : Int32)) = zv9 ∧ s1 = wm9)) dX12_fits_132 cvX12_265 okX12_of rfl (Nat.le_of_ble_eq_true rfl) BS_248 (Nat.le_of_ble_eq_true rfl) (Nat.le_of_ble_eq_true rfl) hci_12 (Nat.le_of_ble_eq_true rfl) (Nat.le_of_ble_eq_true rfl) (pX12_of  (x2) ((0 : Int32)) o13 ⟨rfl, rfl⟩) (fun zv9 wm9 hq9 => ?_)
    obtain ⟨rfl, rfl⟩ := hq9
    refine JT_dup2 dX12_fits_135 rfl rfl ?_
    obtain ⟨o3, h⟩ := h
    refine JS_iald dX12_fits_136 BS_274 (Nat.le_of_ble_eq_true rfl) (Nat.le_of_ble_eq_true rfl) o3 ?_
    refine JT_aload_n (q := 1) dX12_fits_137 rfl rfl ?_
    refine JT_iload (q := 0) dX12_fits_138 rfl ?_
    obtain ⟨o12, h⟩ := h
    refine JS_callVI (M' := MX12_valueOf) (d' := 2) (As := [.int x2]) (rest := [.int (gI s1 274 ((vX12_of s1 x2 (0 : Int32))).toNatClampNeg), .int (vX12_of s1 x2 (0 : Int32)), .ref 274]) (P := (fun zv9 wm9 => (vX12_valueOf s1 x2) = zv9 ∧ s1 = wm9)) dX12_fits_140 cvX12_281 okX12_valueOf rfl (Nat.le_of_ble_eq_true rfl) BS_248 (Nat.le_of_ble_eq_true rfl) (Nat.le_of_ble_eq_true rfl) hci_12 (Nat.le_of_ble_eq_true rfl) (Nat.le_of_ble_eq_true rfl) (pX12_valueOf  (x2) o12 ⟨rfl, rfl⟩) (fun zv9 wm9 hq9 => ?_)
    obtain ⟨rfl, rfl⟩ := hq9
    refine JT_isub dX12_fits_143 ?_
    obtain ⟨o4, h⟩ := h
    refine JS_iast dX12_fits_144 BS_274 (Nat.le_of_ble_eq_true rfl) (Nat.le_of_ble_eq_true rfl) o4 ?_
    obtain ⟨s5, hs5⟩ : ∃ z, z = (pI s1 274 ((vX12_of s1 x2 (0 : Int32))).toNatClampNeg ((gI s1 274 ((vX12_of s1 x2 (0 : Int32))).toNatClampNeg) - (vX12_valueOf s1 x2))) := ⟨_, rfl⟩
    replace h := h s5 hs5
    rw [← hs5]
    refine JT_aload_n (q := 1) dX12_fits_145 rfl rfl ?_
    refine JS_getR (x := 274) dX12_fits_146 flX12_113 BS_248 (Nat.le_of_ble_eq_true rfl) (Nat.le_of_ble_eq_true rfl) (Or.inr ⟨_, ct_12_52⟩) RF_248_52 ?_
    refine JT_aload_n (q := 1) dX12_fits_149 rfl rfl ?_
    refine JT_iload (q := 0) dX12_fits_150 rfl ?_
    refine JT_iconst (v := 1) dX12_fits_152 ic_1 ?_
    obtain ⟨o11, h⟩ := h
    refine JS_callVI (M' := MX12_of) (d' := 0) (As := [.int x2, .int (1 : Int32)]) (rest := [.ref 274]) (P := (fun zv9 wm9 => (vX12_of s5 x2 (1 : Int32)) = zv9 ∧ s5 = wm9)) dX12_fits_153 cvX12_265 okX12_of rfl (Nat.le_of_ble_eq_true rfl) BS_248 (Nat.le_of_ble_eq_true rfl) (Nat.le_of_ble_eq_true rfl) hci_12 (Nat.le_of_ble_eq_true rfl) (Nat.le_of_ble_eq_true rfl) (pX12_of  (x2) ((1 : Int32)) o11 ⟨rfl, rfl⟩) (fun zv9 wm9 hq9 => ?_)
    obtain ⟨rfl, rfl⟩ := hq9
    refine JT_dup2 dX12_fits_156 rfl rfl ?_
    obtain ⟨o6, h⟩ := h
    refine JS_iald dX12_fits_157 BS_274 (Nat.le_of_ble_eq_true rfl) (Nat.le_of_ble_eq_true rfl) o6 ?_
    refine JT_aload_n (q := 1) dX12_fits_158 rfl rfl ?_
    refine JT_iload (q := 0) dX12_fits_159 rfl ?_
    obtain ⟨o10, h⟩ := h
    refine JS_callVI (M' := MX12_valueOf) (d' := 2) (As := [.int x2]) (rest := [.int (gI s5 274 ((vX12_of s5 x2 (1 : Int32))).toNatClampNeg), .int (vX12_of s5 x2 (1 : Int32)), .ref 274]) (P := (fun zv9 wm9 => (vX12_valueOf s5 x2) = zv9 ∧ s5 = wm9)) dX12_fits_161 cvX12_281 okX12_valueOf rfl (Nat.le_of_ble_eq_true rfl) BS_248 (Nat.le_of_ble_eq_true rfl) (Nat.le_of_ble_eq_true rfl) hci_12 (Nat.le_of_ble_eq_true rfl) (Nat.le_of_ble_eq_true rfl) (pX12_valueOf  (x2) o10 ⟨rfl, rfl⟩) (fun zv9 wm9 hq9 => ?_)
    obtain ⟨rfl, rfl⟩ := hq9
    refine JT_iadd dX12_fits_164 ?_
    obtain ⟨o7, h⟩ := h
    refine JS_iast dX12_fits_165 BS_274 (Nat.le_of_ble_eq_true rfl) (Nat.le_of_ble_eq_true rfl) o7 ?_
    obtain ⟨s8, hs8⟩ : ∃ z, z = (pI s5 274 ((vX12_of s5 x2 (1 : Int32))).toNatClampNeg ((gI s5 274 ((vX12_of s5 x2 (1 : Int32))).toNatClampNeg) + (vX12_valueOf s5 x2))) := ⟨_, rfl⟩
    replace h := h s8 hs8
    rw [← hs8]
    refine JT_aload_n (q := 1) dX12_fits_166 rfl rfl ?_
    refine JS_getR (x := 272) dX12_fits_167 flX12_107 BS_248 (Nat.le_of_ble_eq_true rfl) (Nat.le_of_ble_eq_true rfl) (Or.inr ⟨_, ct_12_50⟩) RF_248_50 ?_
    refine JT_iload_n (q := 4) dX12_fits_170 rfl rfl ?_
    refine JT_iconst (v := 1) dX12_fits_171 ic_1 ?_
    obtain ⟨o9, h⟩ := h
    refine JS_iast dX12_fits_172 BS_272 (Nat.le_of_ble_eq_true rfl) (Nat.le_of_ble_eq_true rfl) o9 ?_
    refine JT_iinc (q := 4) (v := (a3 + 1)) (lv' := [(3, .int (a3 + 1)), (4, .int x2), (0, .ref 248), (1, .int a1), (2, .int a2)]) dX12_fits_173 rfl (by rfl) (Nat.le_of_ble_eq_true rfl) rfl ?_
    refine JT_goto (tgt := 112) dX12_fits_176 (by decide) ?_
    exact JT_sub [2, 3, 4, 0] rfl h
set_option maxRecDepth 20000 in
theorem bX12_fits_189 (a1 : Int32) (a2 : Int32) (a3 : Int32) (a4 : Int32) {s : SM} {Q : Int32 → SM → Prop} (h : ((a4 = 0 → Q a3 s) ∧ (¬ a4 = 0 → KI MX12_isFit 5 [.ref 248, .int a2] s (fun x2 s1 => ((x2 = 0 → BI MX12_fits 6 300 [(0, .ref 248), (1, .int a1), (2, .int a2), (3, .int a3), (4, .int a4), (5, .int (a2 - (1 : Int32)))] s1 Q) ∧ (¬ x2 = 0 → BI MX12_fits 6 205 [(0, .ref 248), (1, .int a1), (2, .int a2), (3, .int a3), (4, .int a4), (5, .int (0 : Int32))] s1 Q)))))) : BI MX12_fits 6 189 [(0, .ref 248), (1, .int a1), (2, .int a2), (3, .int a3), (4, .int a4)] s Q := by
  refine JT_iload (q := 4) dX12_fits_189 rfl ?_
  refine JT_if_eq (tgt := 361) dX12_fits_191 (by decide) (fun hc4 => ?_) (fun hc4 => ?_)
  · have h := h.1 hc4
    refine JT_iload_n (q := 3) dX12_fits_361 rfl rfl ?_
    exact JS_iret dX12_fits_362 rfl rfl h
  · have h := h.2 hc4
    refine JT_aload_n (q := 0) dX12_fits_194 rfl rfl ?_
    refine JT_iload_n (q := 2) dX12_fits_195 rfl rfl ?_
    refine JS_callVI (M' := MX12_isFit) (d' := 5) (As := [.int a2]) (rest := []) dX12_fits_196 cvX12_442 okX12_isFit rfl (Nat.le_of_ble_eq_true rfl) BS_248 (Nat.le_of_ble_eq_true rfl) (Nat.le_of_ble_eq_true rfl) hci_12 (Nat.le_of_ble_eq_true rfl) (Nat.le_of_ble_eq_true rfl) h (fun x2 s1 h => ?_)
    refine JT_if_eq (tgt := 295) dX12_fits_199 (by decide) (fun hc3 => ?_) (fun hc3 => ?_)
    · have h := h.1 hc3
      refine JT_iload_n (q := 2) dX12_fits_295 rfl rfl ?_
      refine JT_iconst (v := 1) dX12_fits_296 ic_1 ?_
      refine JT_isub dX12_fits_297 ?_
      refine JT_istore (lv' := [(5, .int (a2 - (1 : Int32))), (0, .ref 248), (1, .int a1), (2, .int a2), (3, .int a3), (4, .int a4)]) dX12_fits_298 (Nat.le_of_ble_eq_true rfl) rfl ?_
      exact JT_sub [1, 2, 3, 4, 5, 0] rfl h
    · have h := h.2 hc3
      refine JT_iconst (v := 0) dX12_fits_202 ic_0 ?_
      refine JT_istore (lv' := [(5, .int (0 : Int32)), (0, .ref 248), (1, .int a1), (2, .int a2), (3, .int a3), (4, .int a4)]) dX12_fits_203 (Nat.le_of_ble_eq_true rfl) rfl ?_
      exact JT_sub [1, 2, 3, 4, 5, 0] rfl h
set_option maxRecDepth 20000 in
theorem bX12_fits_205 (a1 : Int32) (a2 : Int32) (a3 : Int32) (a4 : Int32) (a5 : Int32) {s : SM} {Q : Int32 → SM → Prop} (h : ((a2 ≤ a5 → BI MX12_fits 6 300 [(0, .ref 248), (1, .int a1), (2, .int a2), (3, .int (a3 + 1)), (4, .int a4), (5, .int (a2 - (1 : Int32)))] (pI s 248 53 a2) Q) ∧ (¬ a2 ≤ a5 → ((a3 = 0 → BI MX12_fits 6 232 [(0, .ref 248), (1, .int a1), (2, .int a2), (3, .int a3), (4, .int a4), (5, .int a5)] s Q) ∧ (¬ a3 = 0 → vp_in a5 4 ∧ vp_in a5 4 ∧ (((gI s 270 (a5).toNatClampNeg) ≤ (gI s 272 (a5).toNatClampNeg) → BI MX12_fits 6 246 [(0, .ref 248), (1, .int a1), (2, .int a2), (3, .int a3), (4, .int a4), (5, .int a5)] s Q) ∧ (¬ (gI s 270 (a5).toNatClampNeg) ≤ (gI s 272 (a5).toNatClampNeg) → BI MX12_fits 6 232 [(0, .ref 248), (1, .int a1), (2, .int a2), (3, .int a3), (4, .int a4), (5, .int a5)] s Q))))))) : BI MX12_fits 6 205 [(0, .ref 248), (1, .int a1), (2, .int a2), (3, .int a3), (4, .int a4), (5, .int a5)] s Q := by
  refine JT_iload (q := 5) dX12_fits_205 rfl ?_
  refine JT_iload_n (q := 2) dX12_fits_207 rfl rfl ?_
  refine JT_icmp_ge (tgt := 287) dX12_fits_208 (by decide) (fun hc5 => ?_) (fun hc5 => ?_)
  · have h := h.1 hc5
    refine JT_iinc (q := 3) (v := (a3 + 1)) (lv' := [(3, .int (a3 + 1)), (0, .ref 248), (1, .int a1), (2, .int a2), (4, .int a4), (5, .int a5)]) dX12_fits_287 rfl (by rfl) (Nat.le_of_ble_eq_true rfl) rfl ?_
    refine JT_aload_n (q := 1) dX12_fits_290 rfl rfl ?_
    refine JT_iload_n (q := 3) dX12_fits_291 rfl rfl ?_
    refine JS_putI dX12_fits_292 flX12_439 BS_248 (Nat.le_of_ble_eq_true rfl) (Nat.le_of_ble_eq_true rfl) ct_12_53 ?_
    refine JT_iload_n (q := 3) dX12_fits_295 rfl rfl ?_
    refine JT_iconst (v := 1) dX12_fits_296 ic_1 ?_
    refine JT_isub dX12_fits_297 ?_
    refine JT_istore (lv' := [(5, .int (a2 - (1 : Int32))), (3, .int (a3 + 1)), (0, .ref 248), (1, .int a1), (2, .int a2), (4, .int a4)]) dX12_fits_298 (Nat.le_of_ble_eq_true rfl) rfl ?_
    exact JT_sub [2, 3, 4, 1, 5, 0] rfl h
  · have h := h.2 hc5
    refine JT_iload_n (q := 3) dX12_fits_211 rfl rfl ?_
    refine JT_if_eq (tgt := 232) dX12_fits_212 (by decide) (fun hc4 => ?_) (fun hc4 => ?_)
    · have h := h.1 hc4
      exact JT_sub [0, 1, 2, 3, 4, 5] rfl h
    · have h := h.2 hc4
      refine JT_aload_n (q := 0) dX12_fits_215 rfl rfl ?_
      refine JS_getR (x := 272) dX12_fits_216 flX12_107 BS_248 (Nat.le_of_ble_eq_true rfl) (Nat.le_of_ble_eq_true rfl) (Or.inr ⟨_, ct_12_50⟩) RF_248_50 ?_
      refine JT_iload (q := 5) dX12_fits_219 rfl ?_
      obtain ⟨o1, h⟩ := h
      refine JS_iald dX12_fits_221 BS_272 (Nat.le_of_ble_eq_true rfl) (Nat.le_of_ble_eq_true rfl) o1 ?_
      refine JT_aload_n (q := 0) dX12_fits_222 rfl rfl ?_
      refine JS_getR (x := 270) dX12_fits_223 flX12_101 BS_248 (Nat.le_of_ble_eq_true rfl) (Nat.le_of_ble_eq_true rfl) (Or.inr ⟨_, ct_12_48⟩) RF_248_48 ?_
      refine JT_iload (q := 5) dX12_fits_226 rfl ?_
      obtain ⟨o2, h⟩ := h
      refine JS_iald dX12_fits_228 BS_270 (Nat.le_of_ble_eq_true rfl) (Nat.le_of_ble_eq_true rfl) o2 ?_
      refine JT_icmp_ge (tgt := 246) dX12_fits_229 (by decide) (fun hc3 => ?_) (fun hc3 => ?_)
      · have h := h.1 hc3
        exact JT_sub [0, 1, 2, 3, 4, 5] rfl h
      · have h := h.2 hc3
        exact JT_sub [0, 1, 2, 3, 4, 5] rfl h
set_option maxRecDepth 20000 in
theorem bX12_fits_232 (a1 : Int32) (a2 : Int32) (a3 : Int32) (a4 : Int32) (a5 : Int32) {s : SM} {Q : Int32 → SM → Prop} (h : vp_in a5 4 ∧ vp_in a5 4 ∧ BI MX12_fits 6 246 [(0, .ref 248), (1, .int a1), (2, .int a2), (3, .int a3), (4, .int a4), (5, .int a5)] (pI s 270 (a5).toNatClampNeg (gI s 272 (a5).toNatClampNeg)) Q) : BI MX12_fits 6 232 [(0, .ref 248), (1, .int a1), (2, .int a2), (3, .int a3), (4, .int a4), (5, .int a5)] s Q := by
  refine JT_aload_n (q := 0) dX12_fits_232 rfl rfl ?_
  refine JS_getR (x := 270) dX12_fits_233 flX12_101 BS_248 (Nat.le_of_ble_eq_true rfl) (Nat.le_of_ble_eq_true rfl) (Or.inr ⟨_, ct_12_48⟩) RF_248_48 ?_
  refine JT_iload (q := 5) dX12_fits_236 rfl ?_
  refine JT_aload_n (q := 0) dX12_fits_238 rfl rfl ?_
  refine JS_getR (x := 272) dX12_fits_239 flX12_107 BS_248 (Nat.le_of_ble_eq_true rfl) (Nat.le_of_ble_eq_true rfl) (Or.inr ⟨_, ct_12_50⟩) RF_248_50 ?_
  refine JT_iload (q := 5) dX12_fits_242 rfl ?_
  obtain ⟨o1, h⟩ := h
  refine JS_iald dX12_fits_244 BS_272 (Nat.le_of_ble_eq_true rfl) (Nat.le_of_ble_eq_true rfl) o1 ?_
  obtain ⟨o2, h⟩ := h
  refine JS_iast dX12_fits_245 BS_270 (Nat.le_of_ble_eq_true rfl) (Nat.le_of_ble_eq_true rfl) o2 ?_
  exact JT_sub [0, 1, 2, 3, 4, 5] rfl h
set_option maxRecDepth 20000 in
theorem bX12_fits_246 (a1 : Int32) (a2 : Int32) (a3 : Int32) (a4 : Int32) (a5 : Int32) {s : SM} {Q : Int32 → SM → Prop} (h : ((a3 = 0 → vp_in a5 4 ∧ vp_in a5 4 ∧ BI MX12_fits 6 205 [(0, .ref 248), (1, .int a1), (2, .int a2), (3, .int a3), (4, .int a4), (5, .int (a5 + 1))] (pI s 271 (a5).toNatClampNeg (gI s 272 (a5).toNatClampNeg)) Q) ∧ (¬ a3 = 0 → vp_in a5 4 ∧ vp_in a5 4 ∧ (((gI s 272 (a5).toNatClampNeg) ≤ (gI s 271 (a5).toNatClampNeg) → BI MX12_fits 6 205 [(0, .ref 248), (1, .int a1), (2, .int a2), (3, .int a3), (4, .int a4), (5, .int (a5 + 1))] s Q) ∧ (¬ (gI s 272 (a5).toNatClampNeg) ≤ (gI s 271 (a5).toNatClampNeg) → vp_in a5 4 ∧ vp_in a5 4 ∧ BI MX12_fits 6 205 [(0, .ref 248), (1, .int a1), (2, .int a2), (3, .int a3), (4, .int a4), (5, .int (a5 + 1))] (pI s 271 (a5).toNatClampNeg (gI s 272 (a5).toNatClampNeg)) Q))))) : BI MX12_fits 6 246 [(0, .ref 248), (1, .int a1), (2, .int a2), (3, .int a3), (4, .int a4), (5, .int a5)] s Q := by
  refine JT_iload_n (q := 3) dX12_fits_246 rfl rfl ?_
  refine JT_if_eq (tgt := 267) dX12_fits_247 (by decide) (fun hc8 => ?_) (fun hc8 => ?_)
  · have h := h.1 hc8
    refine JT_aload_n (q := 0) dX12_fits_267 rfl rfl ?_
    refine JS_getR (x := 271) dX12_fits_268 flX12_104 BS_248 (Nat.le_of_ble_eq_true rfl) (Nat.le_of_ble_eq_true rfl) (Or.inr ⟨_, ct_12_49⟩) RF_248_49 ?_
    refine JT_iload (q := 5) dX12_fits_271 rfl ?_
    refine JT_aload_n (q := 0) dX12_fits_273 rfl rfl ?_
    refine JS_getR (x := 272) dX12_fits_274 flX12_107 BS_248 (Nat.le_of_ble_eq_true rfl) (Nat.le_of_ble_eq_true rfl) (Or.inr ⟨_, ct_12_50⟩) RF_248_50 ?_
    refine JT_iload (q := 5) dX12_fits_277 rfl ?_
    obtain ⟨o1, h⟩ := h
    refine JS_iald dX12_fits_279 BS_272 (Nat.le_of_ble_eq_true rfl) (Nat.le_of_ble_eq_true rfl) o1 ?_
    obtain ⟨o2, h⟩ := h
    refine JS_iast dX12_fits_280 BS_271 (Nat.le_of_ble_eq_true rfl) (Nat.le_of_ble_eq_true rfl) o2 ?_
    refine JT_iinc (q := 5) (v := (a5 + 1)) (lv' := [(5, .int (a5 + 1)), (0, .ref 248), (1, .int a1), (2, .int a2), (3, .int a3), (4, .int a4)]) dX12_fits_281 rfl (by rfl) (Nat.le_of_ble_eq_true rfl) rfl ?_
    refine JT_goto (tgt := 205) dX12_fits_284 (by decide) ?_
    exact JT_sub [1, 2, 3, 4, 5, 0] rfl h
  · have h := h.2 hc8
    refine JT_aload_n (q := 0) dX12_fits_250 rfl rfl ?_
    refine JS_getR (x := 272) dX12_fits_251 flX12_107 BS_248 (Nat.le_of_ble_eq_true rfl) (Nat.le_of_ble_eq_true rfl) (Or.inr ⟨_, ct_12_50⟩) RF_248_50 ?_
    refine JT_iload (q := 5) dX12_fits_254 rfl ?_
    obtain ⟨o3, h⟩ := h
    refine JS_iald dX12_fits_256 BS_272 (Nat.le_of_ble_eq_true rfl) (Nat.le_of_ble_eq_true rfl) o3 ?_
    refine JT_aload_n (q := 0) dX12_fits_257 rfl rfl ?_
    refine JS_getR (x := 271) dX12_fits_258 flX12_104 BS_248 (Nat.le_of_ble_eq_true rfl) (Nat.le_of_ble_eq_true rfl) (Or.inr ⟨_, ct_12_49⟩) RF_248_49 ?_
    refine JT_iload (q := 5) dX12_fits_261 rfl ?_
    obtain ⟨o4, h⟩ := h
    refine JS_iald dX12_fits_263 BS_271 (Nat.le_of_ble_eq_true rfl) (Nat.le_of_ble_eq_true rfl) o4 ?_
    refine JT_icmp_le (tgt := 281) dX12_fits_264 (by decide) (fun hc7 => ?_) (fun hc7 => ?_)
    · have h := h.1 hc7
      refine JT_iinc (q := 5) (v := (a5 + 1)) (lv' := [(5, .int (a5 + 1)), (0, .ref 248), (1, .int a1), (2, .int a2), (3, .int a3), (4, .int a4)]) dX12_fits_281 rfl (by rfl) (Nat.le_of_ble_eq_true rfl) rfl ?_
      refine JT_goto (tgt := 205) dX12_fits_284 (by decide) ?_
      exact JT_sub [1, 2, 3, 4, 5, 0] rfl h
    · have h := h.2 hc7
      refine JT_aload_n (q := 0) dX12_fits_267 rfl rfl ?_
      refine JS_getR (x := 271) dX12_fits_268 flX12_104 BS_248 (Nat.le_of_ble_eq_true rfl) (Nat.le_of_ble_eq_true rfl) (Or.inr ⟨_, ct_12_49⟩) RF_248_49 ?_
      refine JT_iload (q := 5) dX12_fits_271 rfl ?_
      refine JT_aload_n (q := 0) dX12_fits_273 rfl rfl ?_
      refine JS_getR (x := 272) dX12_fits_274 flX12_107 BS_248 (Nat.le_of_ble_eq_true rfl) (Nat.le_of_ble_eq_true rfl) (Or.inr ⟨_, ct_12_50⟩) RF_248_50 ?_
      refine JT_iload (q := 5) dX12_fits_277 rfl ?_
      obtain ⟨o5, h⟩ := h
      refine JS_iald dX12_fits_279 BS_272 (Nat.le_of_ble_eq_true rfl) (Nat.le_of_ble_eq_true rfl) o5 ?_
      obtain ⟨o6, h⟩ := h
      refine JS_iast dX12_fits_280 BS_271 (Nat.le_of_ble_eq_true rfl) (Nat.le_of_ble_eq_true rfl) o6 ?_
      refine JT_iinc (q := 5) (v := (a5 + 1)) (lv' := [(5, .int (a5 + 1)), (0, .ref 248), (1, .int a1), (2, .int a2), (3, .int a3), (4, .int a4)]) dX12_fits_281 rfl (by rfl) (Nat.le_of_ble_eq_true rfl) rfl ?_
      refine JT_goto (tgt := 205) dX12_fits_284 (by decide) ?_
      exact JT_sub [1, 2, 3, 4, 5, 0] rfl h
set_option maxRecDepth 20000 in
theorem bX12_fits_300 (a1 : Int32) (a2 : Int32) (a3 : Int32) (a4 : Int32) (a5 : Int32) {s : SM} {Q : Int32 → SM → Prop} (h : ((a5 < 0 → BI MX12_fits 6 330 [(0, .ref 248), (1, .int a1), (2, .int a2), (3, .int a3), (4, .int a4), (5, .int a5)] s Q) ∧ (¬ a5 < 0 → vp_in a5 4 ∧ ((¬ (gI s 272 (a5).toNatClampNeg) = a1 → BI MX12_fits 6 330 [(0, .ref 248), (1, .int a1), (2, .int a2), (3, .int a3), (4, .int a4), (5, .int a5)] s Q) ∧ ((gI s 272 (a5).toNatClampNeg) = a1 → vp_in a5 4 ∧ BI MX12_fits 6 300 [(0, .ref 248), (1, .int a1), (2, .int a2), (3, .int a3), (4, .int a4), (5, .int (a5 + (-1)))] (pI s 272 (a5).toNatClampNeg (1 : Int32)) Q))))) : BI MX12_fits 6 300 [(0, .ref 248), (1, .int a1), (2, .int a2), (3, .int a3), (4, .int a4), (5, .int a5)] s Q := by
  refine JT_iload (q := 5) dX12_fits_300 rfl ?_
  refine JT_if_lt (tgt := 330) dX12_fits_302 (by decide) (fun hc4 => ?_) (fun hc4 => ?_)
  · have h := h.1 hc4
    exact JT_sub [0, 1, 2, 3, 4, 5] rfl h
  · have h := h.2 hc4
    refine JT_aload_n (q := 0) dX12_fits_305 rfl rfl ?_
    refine JS_getR (x := 272) dX12_fits_306 flX12_107 BS_248 (Nat.le_of_ble_eq_true rfl) (Nat.le_of_ble_eq_true rfl) (Or.inr ⟨_, ct_12_50⟩) RF_248_50 ?_
    refine JT_iload (q := 5) dX12_fits_309 rfl ?_
    obtain ⟨o1, h⟩ := h
    refine JS_iald dX12_fits_311 BS_272 (Nat.le_of_ble_eq_true rfl) (Nat.le_of_ble_eq_true rfl) o1 ?_
    refine JT_iload_n (q := 1) dX12_fits_312 rfl rfl ?_
    refine JT_icmp_ne (tgt := 330) dX12_fits_313 (by decide) (fun hc3 => ?_) (fun hc3 => ?_)
    · have h := h.1 hc3
      exact JT_sub [0, 1, 2, 3, 4, 5] rfl h
    · have h := h.2 hc3
      refine JT_aload_n (q := 0) dX12_fits_316 rfl rfl ?_
      refine JS_getR (x := 272) dX12_fits_317 flX12_107 BS_248 (Nat.le_of_ble_eq_true rfl) (Nat.le_of_ble_eq_true rfl) (Or.inr ⟨_, ct_12_50⟩) RF_248_50 ?_
      refine JT_iload (q := 5) dX12_fits_320 rfl ?_
      refine JT_iconst (v := 1) dX12_fits_322 ic_1 ?_
      obtain ⟨o2, h⟩ := h
      refine JS_iast dX12_fits_323 BS_272 (Nat.le_of_ble_eq_true rfl) (Nat.le_of_ble_eq_true rfl) o2 ?_
      refine JT_iinc (q := 5) (v := (a5 + (-1))) (lv' := [(5, .int (a5 + (-1))), (0, .ref 248), (1, .int a1), (2, .int a2), (3, .int a3), (4, .int a4)]) dX12_fits_324 rfl (by rfl) (Nat.le_of_ble_eq_true rfl) rfl ?_
      refine JT_goto (tgt := 300) dX12_fits_327 (by decide) ?_
      exact JT_sub [1, 2, 3, 4, 5, 0] rfl h
set_option maxRecDepth 20000 in
theorem bX12_fits_330 (a1 : Int32) (a2 : Int32) (a3 : Int32) (a4 : Int32) (a5 : Int32) {s : SM} {Q : Int32 → SM → Prop} (h : (((if a5 < 0 then (0 : Int32) else (1 : Int32)) = 0 → BI MX12_fits 6 189 [(0, .ref 248), (1, .int a1), (2, .int a2), (3, .int a3), (4, .int (if a5 < 0 then (0 : Int32) else (1 : Int32)))] s Q) ∧ (¬ (if a5 < 0 then (0 : Int32) else (1 : Int32)) = 0 → vp_in a5 4 ∧ vp_in a5 4 ∧ BI MX12_fits 6 189 [(0, .ref 248), (1, .int a1), (2, .int a2), (3, .int a3), (4, .int (if a5 < 0 then (0 : Int32) else (1 : Int32)))] (pI s 272 (a5).toNatClampNeg ((gI s 272 (a5).toNatClampNeg) + (1 : Int32))) Q))) : BI MX12_fits 6 330 [(0, .ref 248), (1, .int a1), (2, .int a2), (3, .int a3), (4, .int a4), (5, .int a5)] s Q := by
  refine JT_iload (q := 5) dX12_fits_330 rfl ?_
  have hj4 : ∀ v : Int32, v = (if a5 < 0 then (0 : Int32) else (1 : Int32)) → JT MX12_fits 6 0 0 340 [(0, .ref 248), (1, .int a1), (2, .int a2), (3, .int a3), (4, .int a4), (5, .int a5)] [.int v] (std s) (KQ Q) := by
    intro v hv
    subst hv
    refine JT_istore (lv' := [(4, .int (if a5 < 0 then (0 : Int32) else (1 : Int32))), (0, .ref 248), (1, .int a1), (2, .int a2), (3, .int a3), (5, .int a5)]) dX12_fits_340 (Nat.le_of_ble_eq_true rfl) rfl ?_
    refine JT_iload (q := 0) dX12_fits_342 rfl ?_
    refine JT_if_eq (tgt := 358) dX12_fits_344 (by decide) (fun hc3 => ?_) (fun hc3 => ?_)
    · have h := h.1 hc3
      refine JT_goto (tgt := 189) dX12_fits_358 (by decide) ?_
      exact JT_sub [1, 2, 3, 4, 0] rfl h
    · have h := h.2 hc3
      refine JT_aload_n (q := 1) dX12_fits_347 rfl rfl ?_
      refine JS_getR (x := 272) dX12_fits_348 flX12_107 BS_248 (Nat.le_of_ble_eq_true rfl) (Nat.le_of_ble_eq_true rfl) (Or.inr ⟨_, ct_12_50⟩) RF_248_50 ?_
      refine JT_iload (q := 5) dX12_fits_351 rfl ?_
      refine JT_dup2 dX12_fits_353 rfl rfl ?_
      obtain ⟨o1, h⟩ := h
      refine JS_iald dX12_fits_354 BS_272 (Nat.le_of_ble_eq_true rfl) (Nat.le_of_ble_eq_true rfl) o1 ?_
      refine JT_iconst (v := 1) dX12_fits_355 ic_1 ?_
      refine JT_iadd dX12_fits_356 ?_
      obtain ⟨o2, h⟩ := h
      refine JS_iast dX12_fits_357 BS_272 (Nat.le_of_ble_eq_true rfl) (Nat.le_of_ble_eq_true rfl) o2 ?_
      refine JT_goto (tgt := 189) dX12_fits_358 (by decide) ?_
      exact JT_sub [1, 2, 3, 4, 0] rfl h
  refine JT_if_lt (tgt := 339) dX12_fits_332 (by decide) (fun hc5 => ?_) (fun hc5 => ?_)
  · refine JT_iconst (v := 0) dX12_fits_339 ic_0 ?_
    exact hj4 _ (by rw [if_pos hc5])
  · refine JT_iconst (v := 1) dX12_fits_335 ic_1 ?_
    refine JT_goto (tgt := 340) dX12_fits_336 (by decide) ?_
    exact hj4 _ (by rw [if_neg hc5])
set_option maxRecDepth 20000 in
theorem bX12_fits (a1 : Int32) {s : SM} {Q : Int32 → SM → Prop} (h : KI MX12_lostOf 4 [.ref 248, .int (-1 : Int32)] (mX12_taken (pI s 248 0 (0 : Int32)) (640 : Int32)) (fun x2 s1 => (((vX12_isIn s1 a1 (1 : Int32) (20 : Int32)) = 0 → Q (-1 : Int32) s1) ∧ (¬ (vX12_isIn s1 a1 (1 : Int32) (20 : Int32)) = 0 → ((¬ (gI s1 248 3) = ((2 : Int32) * (gI s1 250 ((0 : Int32)).toNatClampNeg)) → Q (-1 : Int32) s1) ∧ ((gI s1 248 3) = ((2 : Int32) * (gI s1 250 ((0 : Int32)).toNatClampNeg)) → ((x2 ≤ (4 : Int32) → BI MX12_fits 6 52 [(0, .ref 248), (1, .int a1), (2, .int x2), (3, .int (0 : Int32))] s1 Q) ∧ (¬ x2 ≤ (4 : Int32) → Q (-1 : Int32) s1)))))))) : KI MX12_fits 6 [.ref 248, .int a1] s Q := by
  show BI MX12_fits 6 0 [(0, .ref 248), (1, .int a1)] s Q
  refine JT_aload_n (q := 0) dX12_fits_0 rfl rfl ?_
  refine JT_iconst (v := 0) dX12_fits_1 ic_0 ?_
  refine JS_putI dX12_fits_2 flX12_1 BS_248 (Nat.le_of_ble_eq_true rfl) (Nat.le_of_ble_eq_true rfl) ct_12_0 ?_
  refine JT_aload_n (q := 0) dX12_fits_5 rfl rfl ?_
  refine JT_sipush (v := 640) dX12_fits_6 sp_640 ?_
  refine JS_callVV (M' := MX12_taken) (d' := 0) (As := [.int (640 : Int32)]) (rest := []) (P := (fun wm9 => (mX12_taken (pI s 248 0 (0 : Int32)) (640 : Int32)) = wm9)) dX12_fits_9 cvX12_238 okX12_taken rfl (Nat.le_of_ble_eq_true rfl) BS_248 (Nat.le_of_ble_eq_true rfl) (Nat.le_of_ble_eq_true rfl) hci_12 (Nat.le_of_ble_eq_true rfl) (Nat.le_of_ble_eq_true rfl) (pX12_taken  ((640 : Int32))  rfl) (fun wm9 hq9 => ?_)
  subst hq9
  refine JT_aload_n (q := 0) dX12_fits_12 rfl rfl ?_
  refine JT_iconst (v := -1) dX12_fits_13 ic_m1 ?_
  refine JS_callVI (M' := MX12_lostOf) (d' := 4) (As := [.int (-1 : Int32)]) (rest := []) dX12_fits_14 cvX12_436 okX12_lostOf rfl (Nat.le_of_ble_eq_true rfl) BS_248 (Nat.le_of_ble_eq_true rfl) (Nat.le_of_ble_eq_true rfl) hci_12 (Nat.le_of_ble_eq_true rfl) (Nat.le_of_ble_eq_true rfl) h (fun x2 s1 h => ?_)
  refine JT_istore_n (lv' := [(2, .int x2), (0, .ref 248), (1, .int a1)]) dX12_fits_17 rfl (Nat.le_of_ble_eq_true rfl) rfl ?_
  refine JT_iload_n (q := 2) dX12_fits_18 rfl rfl ?_
  refine JT_iconst (v := 1) dX12_fits_19 ic_1 ?_
  refine JT_bipush (v := 20) dX12_fits_20 bp_20 ?_
  refine JS_callSI (M' := MX12_isIn) (d' := 0) (As := [.int a1, .int (1 : Int32), .int (20 : Int32)]) (rest := []) (P := (fun zv9 wm9 => (vX12_isIn s1 a1 (1 : Int32) (20 : Int32)) = zv9 ∧ s1 = wm9)) dX12_fits_22 cvX12_202 okX12_isIn rfl (Nat.le_of_ble_eq_true rfl) (Nat.le_of_ble_eq_true rfl) (Nat.le_of_ble_eq_true rfl) (pX12_isIn  (a1) ((1 : Int32)) ((20 : Int32))  ⟨rfl, rfl⟩) (fun zv9 wm9 hq9 => ?_)
  obtain ⟨rfl, rfl⟩ := hq9
  refine JT_if_eq (tgt := 48) dX12_fits_25 (by decide) (fun hc5 => ?_) (fun hc5 => ?_)
  · have h := h.1 hc5
    refine JT_iconst (v := -1) dX12_fits_48 ic_m1 ?_
    exact JS_iret dX12_fits_49 rfl rfl h
  · have h := h.2 hc5
    refine JT_aload_n (q := 1) dX12_fits_28 rfl rfl ?_
    refine JS_getI dX12_fits_29 flX12_18 BS_248 (Nat.le_of_ble_eq_true rfl) (Nat.le_of_ble_eq_true rfl) (Or.inl ct_12_3) ?_
    refine JT_iconst (v := 2) dX12_fits_32 ic_2 ?_
    refine JT_aload_n (q := 1) dX12_fits_33 rfl rfl ?_
    refine JS_getR (x := 250) dX12_fits_34 flX12_33 BS_248 (Nat.le_of_ble_eq_true rfl) (Nat.le_of_ble_eq_true rfl) (Or.inr ⟨_, ct_12_6⟩) RF_248_6 ?_
    refine JT_iconst (v := 0) dX12_fits_37 ic_0 ?_
    refine JS_iald dX12_fits_38 BS_250 (Nat.le_of_ble_eq_true rfl) (Nat.le_of_ble_eq_true rfl) (by unfold vp_in; decide) ?_
    refine JT_imul dX12_fits_39 ?_
    refine JT_icmp_ne (tgt := 48) dX12_fits_40 (by decide) (fun hc4 => ?_) (fun hc4 => ?_)
    · have h := h.1 hc4
      refine JT_iconst (v := -1) dX12_fits_48 ic_m1 ?_
      exact JS_iret dX12_fits_49 rfl rfl h
    · have h := h.2 hc4
      refine JT_iload_n (q := 0) dX12_fits_43 rfl rfl ?_
      refine JT_iconst (v := 4) dX12_fits_44 ic_4 ?_
      refine JT_icmp_le (tgt := 50) dX12_fits_45 (by decide) (fun hc3 => ?_) (fun hc3 => ?_)
      · have h := h.1 hc3
        refine JT_iconst (v := 0) dX12_fits_50 ic_0 ?_
        refine JT_istore_n (lv' := [(3, .int (0 : Int32)), (2, .int x2), (0, .ref 248), (1, .int a1)]) dX12_fits_51 rfl (Nat.le_of_ble_eq_true rfl) rfl ?_
        exact JT_sub [2, 3, 1, 0] rfl h
      · have h := h.2 hc3
        refine JT_iconst (v := -1) dX12_fits_48 ic_m1 ?_
        exact JS_iret dX12_fits_49 rfl rfl h
set_option maxRecDepth 20000 in
theorem bX12_lasts_60 (a1 : Int32) (a2 : Int32) (a3 : Int32) (a4 : Int32) (a5 : Int32) (a6 : Int32) {s : SM} {Q : Int32 → SM → Prop} (h : (((200 : Int32) ≤ a6 → KV MX12_backAll 0 [.ref 248] s (fun s1 => Q a4 s1)) ∧ (¬ (200 : Int32) ≤ a6 → (((10 : Int32) ≤ a5 → KV MX12_backAll 0 [.ref 248] s (fun s3 => Q a4 s3)) ∧ (¬ (10 : Int32) ≤ a5 → rX12_draw s (gI s 250 ((0 : Int32)).toNatClampNeg) ∧ rX12_draw (mX12_draw s (gI s 250 ((0 : Int32)).toNatClampNeg)) (gI (mX12_draw s (gI s 250 ((0 : Int32)).toNatClampNeg)) 250 ((0 : Int32)).toNatClampNeg) ∧ (∀ s5, s5 = (mX12_draw (mX12_draw s (gI s 250 ((0 : Int32)).toNatClampNeg)) (gI (mX12_draw s (gI s 250 ((0 : Int32)).toNatClampNeg)) 250 ((0 : Int32)).toNatClampNeg)) → rX12_draw s5 (gI s5 250 ((1 : Int32)).toNatClampNeg) ∧ rX12_draw (mX12_draw s5 (gI s5 250 ((1 : Int32)).toNatClampNeg)) (99 : Int32) ∧ ((¬ a1 = (1 : Int32) → BI MX12_lasts 6 153 [(0, .ref 248), (1, .int a1), (2, .int a2), (3, .int a3), (4, .int a4), (5, .int a5), (6, .int a6), (7, .int (vX12_draw s (gI s 250 ((0 : Int32)).toNatClampNeg))), (8, .int (vX12_draw (mX12_draw s (gI s 250 ((0 : Int32)).toNatClampNeg)) (gI (mX12_draw s (gI s 250 ((0 : Int32)).toNatClampNeg)) 250 ((0 : Int32)).toNatClampNeg))), (9, .int (vX12_draw s5 (gI s5 250 ((1 : Int32)).toNatClampNeg))), (10, .int ((1 : Int32) + (vX12_draw (mX12_draw s5 (gI s5 250 ((1 : Int32)).toNatClampNeg)) (99 : Int32))))] (mX12_draw (mX12_draw s5 (gI s5 250 ((1 : Int32)).toNatClampNeg)) (99 : Int32)) Q) ∧ (a1 = (1 : Int32) → KI MX12_latestFrom 3 [.ref 248, .int a3] (mX12_draw (mX12_draw s5 (gI s5 250 ((1 : Int32)).toNatClampNeg)) (99 : Int32)) (fun x7 s6 => ((x7 < 0 → BI MX12_lasts 6 153 [(0, .ref 248), (1, .int a1), (2, .int a2), (3, .int a3), (4, .int a4), (5, .int a5), (6, .int a6), (7, .int (vX12_draw s (gI s 250 ((0 : Int32)).toNatClampNeg))), (8, .int (vX12_draw (mX12_draw s (gI s 250 ((0 : Int32)).toNatClampNeg)) (gI (mX12_draw s (gI s 250 ((0 : Int32)).toNatClampNeg)) 250 ((0 : Int32)).toNatClampNeg))), (9, .int (vX12_draw s5 (gI s5 250 ((1 : Int32)).toNatClampNeg))), (10, .int ((1 : Int32) + (vX12_draw (mX12_draw s5 (gI s5 250 ((1 : Int32)).toNatClampNeg)) (99 : Int32))))] s6 Q) ∧ (¬ x7 < 0 → KI MX12_whyStrike 3 [.ref 248, .int x7] s6 (fun x9 s8 => ((¬ x9 = 0 → BI MX12_lasts 6 153 [(0, .ref 248), (1, .int a1), (2, .int a2), (3, .int a3), (4, .int a4), (5, .int a5), (6, .int a6), (7, .int (vX12_draw s (gI s 250 ((0 : Int32)).toNatClampNeg))), (8, .int (vX12_draw (mX12_draw s (gI s 250 ((0 : Int32)).toNatClampNeg)) (gI (mX12_draw s (gI s 250 ((0 : Int32)).toNatClampNeg)) 250 ((0 : Int32)).toNatClampNeg))), (9, .int (vX12_draw s5 (gI s5 250 ((1 : Int32)).toNatClampNeg))), (10, .int ((1 : Int32) + (vX12_draw (mX12_draw s5 (gI s5 250 ((1 : Int32)).toNatClampNeg)) (99 : Int32))))] s8 Q) ∧ (x9 = 0 → KV MX12_strikes 2 [.ref 248, .int x7] s8 (fun s10 => BI MX12_lasts 6 153 [(0, .ref 248), (1, .int a1), (2, .int a2), (3, .int a3), (4, .int a4), (5, .int a5), (6, .int a6), (7, .int (vX12_draw s (gI s 250 ((0 : Int32)).toNatClampNeg))), (8, .int (vX12_draw (mX12_draw s (gI s 250 ((0 : Int32)).toNatClampNeg)) (gI (mX12_draw s (gI s 250 ((0 : Int32)).toNatClampNeg)) 250 ((0 : Int32)).toNatClampNeg))), (9, .int (vX12_draw s5 (gI s5 250 ((1 : Int32)).toNatClampNeg))), (10, .int ((1 : Int32) + (vX12_draw (mX12_draw s5 (gI s5 250 ((1 : Int32)).toNatClampNeg)) (99 : Int32))))] s10 Q))))))))))))))) : BI MX12_lasts 6 60 [(0, .ref 248), (1, .int a1), (2, .int a2), (3, .int a3), (4, .int a4), (5, .int a5), (6, .int a6)] s Q := by
  refine JT_iload (q := 6) dX12_lasts_60 rfl ?_
  refine JT_sipush (v := 200) dX12_lasts_62 sp_200 ?_
  refine JT_icmp_ge (tgt := 228) dX12_lasts_65 (by decide) (fun hc20 => ?_) (fun hc20 => ?_)
  · have h := h.1 hc20
    refine JT_aload_n (q := 0) dX12_lasts_228 rfl rfl ?_
    refine JS_callVV (M' := MX12_backAll) (d' := 0) (As := []) (rest := []) dX12_lasts_229 cvX12_383 okX12_backAll rfl (Nat.le_of_ble_eq_true rfl) BS_248 (Nat.le_of_ble_eq_true rfl) (Nat.le_of_ble_eq_true rfl) hci_12 (Nat.le_of_ble_eq_true rfl) (Nat.le_of_ble_eq_true rfl) h (fun s1 h => ?_)
    refine JT_iload (q := 4) dX12_lasts_232 rfl ?_
    exact JS_iret dX12_lasts_234 rfl rfl h
  · have h := h.2 hc20
    refine JT_iload (q := 5) dX12_lasts_68 rfl ?_
    refine JT_bipush (v := 10) dX12_lasts_70 bp_10 ?_
    refine JT_icmp_ge (tgt := 228) dX12_lasts_72 (by decide) (fun hc19 => ?_) (fun hc19 => ?_)
    · have h := h.1 hc19
      refine JT_aload_n (q := 0) dX12_lasts_228 rfl rfl ?_
      refine JS_callVV (M' := MX12_backAll) (d' := 0) (As := []) (rest := []) dX12_lasts_229 cvX12_383 okX12_backAll rfl (Nat.le_of_ble_eq_true rfl) BS_248 (Nat.le_of_ble_eq_true rfl) (Nat.le_of_ble_eq_true rfl) hci_12 (Nat.le_of_ble_eq_true rfl) (Nat.le_of_ble_eq_true rfl) h (fun s3 h => ?_)
      refine JT_iload (q := 4) dX12_lasts_232 rfl ?_
      exact JS_iret dX12_lasts_234 rfl rfl h
    · have h := h.2 hc19
      refine JT_aload_n (q := 0) dX12_lasts_75 rfl rfl ?_
      refine JT_aload_n (q := 0) dX12_lasts_76 rfl rfl ?_
      refine JS_getR (x := 250) dX12_lasts_77 flX12_33 BS_248 (Nat.le_of_ble_eq_true rfl) (Nat.le_of_ble_eq_true rfl) (Or.inr ⟨_, ct_12_6⟩) RF_248_6 ?_
      refine JT_iconst (v := 0) dX12_lasts_80 ic_0 ?_
      refine JS_iald dX12_lasts_81 BS_250 (Nat.le_of_ble_eq_true rfl) (Nat.le_of_ble_eq_true rfl) (by unfold vp_in; decide) ?_
      obtain ⟨o18, h⟩ := h
      refine JS_callVI (M' := MX12_draw) (d' := 0) (As := [.int (gI s 250 ((0 : Int32)).toNatClampNeg)]) (rest := []) (P := (fun zv9 wm9 => (vX12_draw s (gI s 250 ((0 : Int32)).toNatClampNeg)) = zv9 ∧ (mX12_draw s (gI s 250 ((0 : Int32)).toNatClampNeg)) = wm9)) dX12_lasts_82 cvX12_459 okX12_draw rfl (Nat.le_of_ble_eq_true rfl) BS_248 (Nat.le_of_ble_eq_true rfl) (Nat.le_of_ble_eq_true rfl) hci_12 (Nat.le_of_ble_eq_true rfl) (Nat.le_of_ble_eq_true rfl) (pX12_draw  ((gI s 250 ((0 : Int32)).toNatClampNeg)) o18 ⟨rfl, rfl⟩) (fun zv9 wm9 hq9 => ?_)
      obtain ⟨rfl, rfl⟩ := hq9
      refine JT_istore (lv' := [(7, .int (vX12_draw s (gI s 250 ((0 : Int32)).toNatClampNeg))), (0, .ref 248), (1, .int a1), (2, .int a2), (3, .int a3), (4, .int a4), (5, .int a5), (6, .int a6)]) dX12_lasts_85 (Nat.le_of_ble_eq_true rfl) rfl ?_
      refine JT_aload_n (q := 1) dX12_lasts_87 rfl rfl ?_
      refine JT_aload_n (q := 1) dX12_lasts_88 rfl rfl ?_
      refine JS_getR (x := 250) dX12_lasts_89 flX12_33 BS_248 (Nat.le_of_ble_eq_true rfl) (Nat.le_of_ble_eq_true rfl) (Or.inr ⟨_, ct_12_6⟩) RF_248_6 ?_
      refine JT_iconst (v := 0) dX12_lasts_92 ic_0 ?_
      refine JS_iald dX12_lasts_93 BS_250 (Nat.le_of_ble_eq_true rfl) (Nat.le_of_ble_eq_true rfl) (by unfold vp_in; decide) ?_
      obtain ⟨o17, h⟩ := h
      refine JS_callVI (M' := MX12_draw) (d' := 0) (As := [.int (gI (mX12_draw s (gI s 250 ((0 : Int32)).toNatClampNeg)) 250 ((0 : Int32)).toNatClampNeg)]) (rest := []) (P := (fun zv9 wm9 => (vX12_draw (mX12_draw s (gI s 250 ((0 : Int32)).toNatClampNeg)) (gI (mX12_draw s (gI s 250 ((0 : Int32)).toNatClampNeg)) 250 ((0 : Int32)).toNatClampNeg)) = zv9 ∧ (mX12_draw (mX12_draw s (gI s 250 ((0 : Int32)).toNatClampNeg)) (gI (mX12_draw s (gI s 250 ((0 : Int32)).toNatClampNeg)) 250 ((0 : Int32)).toNatClampNeg)) = wm9)) dX12_lasts_94 cvX12_459 okX12_draw rfl (Nat.le_of_ble_eq_true rfl) BS_248 (Nat.le_of_ble_eq_true rfl) (Nat.le_of_ble_eq_true rfl) hci_12 (Nat.le_of_ble_eq_true rfl) (Nat.le_of_ble_eq_true rfl) (pX12_draw  ((gI (mX12_draw s (gI s 250 ((0 : Int32)).toNatClampNeg)) 250 ((0 : Int32)).toNatClampNeg)) o17 ⟨rfl, rfl⟩) (fun zv9 wm9 hq9 => ?_)
      obtain ⟨rfl, rfl⟩ := hq9
      obtain ⟨s5, hs5⟩ : ∃ z, z = (mX12_draw (mX12_draw s (gI s 250 ((0 : Int32)).toNatClampNeg)) (gI (mX12_draw s (gI s 250 ((0 : Int32)).toNatClampNeg)) 250 ((0 : Int32)).toNatClampNeg)) := ⟨_, rfl⟩
      replace h := h s5 hs5
      rw [← hs5]
      refine JT_istore (lv' := [(8, .int (vX12_draw (mX12_draw s (gI s 250 ((0 : Int32)).toNatClampNeg)) (gI (mX12_draw s (gI s 250 ((0 : Int32)).toNatClampNeg)) 250 ((0 : Int32)).toNatClampNeg))), (7, .int (vX12_draw s (gI s 250 ((0 : Int32)).toNatClampNeg))), (0, .ref 248), (1, .int a1), (2, .int a2), (3, .int a3), (4, .int a4), (5, .int a5), (6, .int a6)]) dX12_lasts_97 (Nat.le_of_ble_eq_true rfl) rfl ?_
      refine JT_aload_n (q := 2) dX12_lasts_99 rfl rfl ?_
      refine JT_aload_n (q := 2) dX12_lasts_100 rfl rfl ?_
      refine JS_getR (x := 250) dX12_lasts_101 flX12_33 BS_248 (Nat.le_of_ble_eq_true rfl) (Nat.le_of_ble_eq_true rfl) (Or.inr ⟨_, ct_12_6⟩) RF_248_6 ?_
      refine JT_iconst (v := 1) dX12_lasts_104 ic_1 ?_
      refine JS_iald dX12_lasts_105 BS_250 (Nat.le_of_ble_eq_true rfl) (Nat.le_of_ble_eq_true rfl) (by unfold vp_in; decide) ?_
      obtain ⟨o16, h⟩ := h
      refine JS_callVI (M' := MX12_draw) (d' := 0) (As := [.int (gI s5 250 ((1 : Int32)).toNatClampNeg)]) (rest := []) (P := (fun zv9 wm9 => (vX12_draw s5 (gI s5 250 ((1 : Int32)).toNatClampNeg)) = zv9 ∧ (mX12_draw s5 (gI s5 250 ((1 : Int32)).toNatClampNeg)) = wm9)) dX12_lasts_106 cvX12_459 okX12_draw rfl (Nat.le_of_ble_eq_true rfl) BS_248 (Nat.le_of_ble_eq_true rfl) (Nat.le_of_ble_eq_true rfl) hci_12 (Nat.le_of_ble_eq_true rfl) (Nat.le_of_ble_eq_true rfl) (pX12_draw  ((gI s5 250 ((1 : Int32)).toNatClampNeg)) o16 ⟨rfl, rfl⟩) (fun zv9 wm9 hq9 => ?_)
      obtain ⟨rfl, rfl⟩ := hq9
      refine JT_istore (lv' := [(9, .int (vX12_draw s5 (gI s5 250 ((1 : Int32)).toNatClampNeg))), (8, .int (vX12_draw (mX12_draw s (gI s 250 ((0 : Int32)).toNatClampNeg)) (gI (mX12_draw s (gI s 250 ((0 : Int32)).toNatClampNeg)) 250 ((0 : Int32)).toNatClampNeg))), (7, .int (vX12_draw s (gI s 250 ((0 : Int32)).toNatClampNeg))), (0, .ref 248), (1, .int a1), (2, .int a2), (3, .int a3), (4, .int a4), (5, .int a5), (6, .int a6)]) dX12_lasts_109 (Nat.le_of_ble_eq_true rfl) rfl ?_
      refine JT_iconst (v := 1) dX12_lasts_111 ic_1 ?_
      refine JT_aload_n (q := 3) dX12_lasts_112 rfl rfl ?_
      refine JT_bipush (v := 99) dX12_lasts_113 bp_99 ?_
      obtain ⟨o15, h⟩ := h
      refine JS_callVI (M' := MX12_draw) (d' := 0) (As := [.int (99 : Int32)]) (rest := [.int (1 : Int32)]) (P := (fun zv9 wm9 => (vX12_draw (mX12_draw s5 (gI s5 250 ((1 : Int32)).toNatClampNeg)) (99 : Int32)) = zv9 ∧ (mX12_draw (mX12_draw s5 (gI s5 250 ((1 : Int32)).toNatClampNeg)) (99 : Int32)) = wm9)) dX12_lasts_115 cvX12_459 okX12_draw rfl (Nat.le_of_ble_eq_true rfl) BS_248 (Nat.le_of_ble_eq_true rfl) (Nat.le_of_ble_eq_true rfl) hci_12 (Nat.le_of_ble_eq_true rfl) (Nat.le_of_ble_eq_true rfl) (pX12_draw  ((99 : Int32)) o15 ⟨rfl, rfl⟩) (fun zv9 wm9 hq9 => ?_)
      obtain ⟨rfl, rfl⟩ := hq9
      refine JT_iadd dX12_lasts_118 ?_
      refine JT_istore (lv' := [(10, .int ((1 : Int32) + (vX12_draw (mX12_draw s5 (gI s5 250 ((1 : Int32)).toNatClampNeg)) (99 : Int32)))), (9, .int (vX12_draw s5 (gI s5 250 ((1 : Int32)).toNatClampNeg))), (8, .int (vX12_draw (mX12_draw s (gI s 250 ((0 : Int32)).toNatClampNeg)) (gI (mX12_draw s (gI s 250 ((0 : Int32)).toNatClampNeg)) 250 ((0 : Int32)).toNatClampNeg))), (7, .int (vX12_draw s (gI s 250 ((0 : Int32)).toNatClampNeg))), (0, .ref 248), (1, .int a1), (2, .int a2), (3, .int a3), (4, .int a4), (5, .int a5), (6, .int a6)]) dX12_lasts_119 (Nat.le_of_ble_eq_true rfl) rfl ?_
      refine JT_iload_n (q := 5) dX12_lasts_121 rfl rfl ?_
      refine JT_iconst (v := 1) dX12_lasts_122 ic_1 ?_
      refine JT_icmp_ne (tgt := 153) dX12_lasts_123 (by decide) (fun hc14 => ?_) (fun hc14 => ?_)
      · have h := h.1 hc14
        exact JT_sub [4, 5, 6, 7, 8, 9, 10, 3, 2, 1, 0] rfl h
      · have h := h.2 hc14
        refine JT_aload_n (q := 4) dX12_lasts_126 rfl rfl ?_
        refine JT_iload_n (q := 7) dX12_lasts_127 rfl rfl ?_
        refine JS_callVI (M' := MX12_latestFrom) (d' := 3) (As := [.int a3]) (rest := []) dX12_lasts_128 cvX12_462 okX12_latestFrom rfl (Nat.le_of_ble_eq_true rfl) BS_248 (Nat.le_of_ble_eq_true rfl) (Nat.le_of_ble_eq_true rfl) hci_12 (Nat.le_of_ble_eq_true rfl) (Nat.le_of_ble_eq_true rfl) h (fun x7 s6 h => ?_)
        refine JT_istore (lv' := [(11, .int x7), (10, .int ((1 : Int32) + (vX12_draw (mX12_draw s5 (gI s5 250 ((1 : Int32)).toNatClampNeg)) (99 : Int32)))), (9, .int (vX12_draw s5 (gI s5 250 ((1 : Int32)).toNatClampNeg))), (8, .int (vX12_draw (mX12_draw s (gI s 250 ((0 : Int32)).toNatClampNeg)) (gI (mX12_draw s (gI s 250 ((0 : Int32)).toNatClampNeg)) 250 ((0 : Int32)).toNatClampNeg))), (7, .int (vX12_draw s (gI s 250 ((0 : Int32)).toNatClampNeg))), (0, .ref 248), (1, .int a1), (2, .int a2), (3, .int a3), (4, .int a4), (5, .int a5), (6, .int a6)]) dX12_lasts_131 (Nat.le_of_ble_eq_true rfl) rfl ?_
        refine JT_iload (q := 0) dX12_lasts_133 rfl ?_
        refine JT_if_lt (tgt := 153) dX12_lasts_135 (by decide) (fun hc13 => ?_) (fun hc13 => ?_)
        · have h := h.1 hc13
          exact JT_sub [5, 6, 7, 8, 9, 10, 11, 4, 3, 2, 1] rfl h
        · have h := h.2 hc13
          refine JT_aload_n (q := 5) dX12_lasts_138 rfl rfl ?_
          refine JT_iload (q := 0) dX12_lasts_139 rfl ?_
          refine JS_callVI (M' := MX12_whyStrike) (d' := 3) (As := [.int x7]) (rest := []) dX12_lasts_141 cvX12_336 okX12_whyStrike rfl (Nat.le_of_ble_eq_true rfl) BS_248 (Nat.le_of_ble_eq_true rfl) (Nat.le_of_ble_eq_true rfl) hci_12 (Nat.le_of_ble_eq_true rfl) (Nat.le_of_ble_eq_true rfl) h (fun x9 s8 h => ?_)
          refine JT_if_ne (tgt := 153) dX12_lasts_144 (by decide) (fun hc12 => ?_) (fun hc12 => ?_)
          · have h := h.1 hc12
            exact JT_sub [5, 6, 7, 8, 9, 10, 11, 4, 3, 2, 1] rfl h
          · have h := h.2 hc12
            refine JT_aload_n (q := 5) dX12_lasts_147 rfl rfl ?_
            refine JT_iload (q := 0) dX12_lasts_148 rfl ?_
            refine JS_callVV (M' := MX12_strikes) (d' := 2) (As := [.int x7]) (rest := []) dX12_lasts_150 cvX12_339 okX12_strikes rfl (Nat.le_of_ble_eq_true rfl) BS_248 (Nat.le_of_ble_eq_true rfl) (Nat.le_of_ble_eq_true rfl) hci_12 (Nat.le_of_ble_eq_true rfl) (Nat.le_of_ble_eq_true rfl) h (fun s10 h => ?_)
            exact JT_sub [5, 6, 7, 8, 9, 10, 11, 4, 3, 2, 1] rfl h
set_option maxRecDepth 20000 in
theorem bX12_lasts_153 (a1 : Int32) (a2 : Int32) (a3 : Int32) (a4 : Int32) (a5 : Int32) (a6 : Int32) (a7 : Int32) (a8 : Int32) (a9 : Int32) (a10 : Int32) {s : SM} {Q : Int32 → SM → Prop} (h : KI MX12_whyWrite 4 [.ref 248, .int a7, .int a8, .int a9] s (fun x2 s1 => ((x2 ≤ 0 → KV MX12_writes 4 [.ref 248, .int a7, .int a8, .int a10, .int a9] s1 (fun s3 => ((¬ a1 = (2 : Int32) → BI MX12_lasts 6 60 [(0, .ref 248), (1, .int a1), (2, .int a2), (3, .int a3), (4, .int (a4 + 1)), (5, .int (a5 + (if x2 ≤ (1 : Int32) then (0 : Int32) else (1 : Int32)))), (6, .int (a6 + 1))] s3 Q) ∧ (a1 = (2 : Int32) → KI MX12_bestOf 5 [.ref 248, .int (-1 : Int32)] s3 (fun x6 s5 => ((x6 < 0 → BI MX12_lasts 6 60 [(0, .ref 248), (1, .int a1), (2, .int a2), (3, .int a3), (4, .int (a4 + 1)), (5, .int (a5 + (if x2 ≤ (1 : Int32) then (0 : Int32) else (1 : Int32)))), (6, .int (a6 + 1))] s5 Q) ∧ (¬ x6 < 0 → KI MX12_cuts 3 [.ref 248] s5 (fun x8 s7 => BI MX12_lasts 6 60 [(0, .ref 248), (1, .int a1), (2, .int a2), (3, .int a3), (4, .int (a4 + 1)), (5, .int (a5 + (if x2 ≤ (1 : Int32) then (0 : Int32) else (1 : Int32)))), (6, .int (a6 + 1))] s7 Q)))))))) ∧ (¬ x2 ≤ 0 → BI MX12_lasts 6 60 [(0, .ref 248), (1, .int a1), (2, .int a2), (3, .int a3), (4, .int a4), (5, .int (a5 + (if x2 ≤ (1 : Int32) then (0 : Int32) else (1 : Int32)))), (6, .int (a6 + 1))] s1 Q)))) : BI MX12_lasts 6 153 [(0, .ref 248), (1, .int a1), (2, .int a2), (3, .int a3), (4, .int a4), (5, .int a5), (6, .int a6), (7, .int a7), (8, .int a8), (9, .int a9), (10, .int a10)] s Q := by
  refine JT_aload_n (q := 0) dX12_lasts_153 rfl rfl ?_
  refine JT_iload (q := 7) dX12_lasts_154 rfl ?_
  refine JT_iload (q := 8) dX12_lasts_156 rfl ?_
  refine JT_iload (q := 9) dX12_lasts_158 rfl ?_
  refine JS_callVI (M' := MX12_whyWrite) (d' := 4) (As := [.int a7, .int a8, .int a9]) (rest := []) dX12_lasts_160 cvX12_326 okX12_whyWrite rfl (Nat.le_of_ble_eq_true rfl) BS_248 (Nat.le_of_ble_eq_true rfl) (Nat.le_of_ble_eq_true rfl) hci_12 (Nat.le_of_ble_eq_true rfl) (Nat.le_of_ble_eq_true rfl) h (fun x2 s1 h => ?_)
  refine JT_istore (lv' := [(11, .int x2), (0, .ref 248), (1, .int a1), (2, .int a2), (3, .int a3), (4, .int a4), (5, .int a5), (6, .int a6), (7, .int a7), (8, .int a8), (9, .int a9), (10, .int a10)]) dX12_lasts_163 (Nat.le_of_ble_eq_true rfl) rfl ?_
  refine JT_iload (q := 6) dX12_lasts_165 rfl ?_
  refine JT_iload (q := 0) dX12_lasts_167 rfl ?_
  refine JT_iconst (v := 1) dX12_lasts_169 ic_1 ?_
  have hj12 : ∀ v : Int32, v = (if x2 ≤ (1 : Int32) then (0 : Int32) else (1 : Int32)) → JT MX12_lasts 6 0 0 178 [(11, .int x2), (0, .ref 248), (1, .int a1), (2, .int a2), (3, .int a3), (4, .int a4), (5, .int a5), (6, .int a6), (7, .int a7), (8, .int a8), (9, .int a9), (10, .int a10)] [.int v, .int a5] (std s1) (KQ Q) := by
    intro v hv
    subst hv
    refine JT_iadd dX12_lasts_178 ?_
    refine JT_istore (lv' := [(5, .int (a5 + (if x2 ≤ (1 : Int32) then (0 : Int32) else (1 : Int32)))), (11, .int x2), (0, .ref 248), (1, .int a1), (2, .int a2), (3, .int a3), (4, .int a4), (6, .int a6), (7, .int a7), (8, .int a8), (9, .int a9), (10, .int a10)]) dX12_lasts_179 (Nat.le_of_ble_eq_true rfl) rfl ?_
    refine JT_iload (q := 1) dX12_lasts_181 rfl ?_
    refine JT_if_le (tgt := 189) dX12_lasts_183 (by decide) (fun hc11 => ?_) (fun hc11 => ?_)
    · have h := h.1 hc11
      refine JT_aload_n (q := 2) dX12_lasts_189 rfl rfl ?_
      refine JT_iload (q := 8) dX12_lasts_190 rfl ?_
      refine JT_iload (q := 9) dX12_lasts_192 rfl ?_
      refine JT_iload (q := 11) dX12_lasts_194 rfl ?_
      refine JT_iload (q := 10) dX12_lasts_196 rfl ?_
      refine JS_callVV (M' := MX12_writes) (d' := 4) (As := [.int a7, .int a8, .int a10, .int a9]) (rest := []) dX12_lasts_198 cvX12_332 okX12_writes rfl (Nat.le_of_ble_eq_true rfl) BS_248 (Nat.le_of_ble_eq_true rfl) (Nat.le_of_ble_eq_true rfl) hci_12 (Nat.le_of_ble_eq_true rfl) (Nat.le_of_ble_eq_true rfl) h (fun s3 h => ?_)
      refine JT_iinc (q := 6) (v := (a4 + 1)) (lv' := [(4, .int (a4 + 1)), (5, .int (a5 + (if x2 ≤ (1 : Int32) then (0 : Int32) else (1 : Int32)))), (11, .int x2), (0, .ref 248), (1, .int a1), (2, .int a2), (3, .int a3), (6, .int a6), (7, .int a7), (8, .int a8), (9, .int a9), (10, .int a10)]) dX12_lasts_201 rfl (by rfl) (Nat.le_of_ble_eq_true rfl) rfl ?_
      refine JT_iload_n (q := 4) dX12_lasts_204 rfl rfl ?_
      refine JT_iconst (v := 2) dX12_lasts_205 ic_2 ?_
      refine JT_icmp_ne (tgt := 222) dX12_lasts_206 (by decide) (fun hc10 => ?_) (fun hc10 => ?_)
      · have h := h.1 hc10
        refine JT_iinc (q := 7) (v := (a6 + 1)) (lv' := [(6, .int (a6 + 1)), (4, .int (a4 + 1)), (5, .int (a5 + (if x2 ≤ (1 : Int32) then (0 : Int32) else (1 : Int32)))), (11, .int x2), (0, .ref 248), (1, .int a1), (2, .int a2), (3, .int a3), (7, .int a7), (8, .int a8), (9, .int a9), (10, .int a10)]) dX12_lasts_222 rfl (by rfl) (Nat.le_of_ble_eq_true rfl) rfl ?_
        refine JT_goto (tgt := 60) dX12_lasts_225 (by decide) ?_
        exact JT_sub [4, 5, 6, 7, 1, 2, 0] rfl h
      · have h := h.2 hc10
        refine JT_aload_n (q := 3) dX12_lasts_209 rfl rfl ?_
        refine JT_iconst (v := -1) dX12_lasts_210 ic_m1 ?_
        refine JS_callVI (M' := MX12_bestOf) (d' := 5) (As := [.int (-1 : Int32)]) (rest := []) dX12_lasts_211 cvX12_365 okX12_bestOf rfl (Nat.le_of_ble_eq_true rfl) BS_248 (Nat.le_of_ble_eq_true rfl) (Nat.le_of_ble_eq_true rfl) hci_12 (Nat.le_of_ble_eq_true rfl) (Nat.le_of_ble_eq_true rfl) h (fun x6 s5 h => ?_)
        refine JT_if_lt (tgt := 222) dX12_lasts_214 (by decide) (fun hc9 => ?_) (fun hc9 => ?_)
        · have h := h.1 hc9
          refine JT_iinc (q := 7) (v := (a6 + 1)) (lv' := [(6, .int (a6 + 1)), (4, .int (a4 + 1)), (5, .int (a5 + (if x2 ≤ (1 : Int32) then (0 : Int32) else (1 : Int32)))), (11, .int x2), (0, .ref 248), (1, .int a1), (2, .int a2), (3, .int a3), (7, .int a7), (8, .int a8), (9, .int a9), (10, .int a10)]) dX12_lasts_222 rfl (by rfl) (Nat.le_of_ble_eq_true rfl) rfl ?_
          refine JT_goto (tgt := 60) dX12_lasts_225 (by decide) ?_
          exact JT_sub [4, 5, 6, 7, 1, 2, 0] rfl h
        · have h := h.2 hc9
          refine JT_aload_n (q := 3) dX12_lasts_217 rfl rfl ?_
          refine JS_callVI (M' := MX12_cuts) (d' := 3) (As := []) (rest := []) dX12_lasts_218 cvX12_371 okX12_cuts rfl (Nat.le_of_ble_eq_true rfl) BS_248 (Nat.le_of_ble_eq_true rfl) (Nat.le_of_ble_eq_true rfl) hci_12 (Nat.le_of_ble_eq_true rfl) (Nat.le_of_ble_eq_true rfl) h (fun x8 s7 h => ?_)
          refine JT_pop dX12_lasts_221 rfl ?_
          refine JT_iinc (q := 7) (v := (a6 + 1)) (lv' := [(6, .int (a6 + 1)), (4, .int (a4 + 1)), (5, .int (a5 + (if x2 ≤ (1 : Int32) then (0 : Int32) else (1 : Int32)))), (11, .int x2), (0, .ref 248), (1, .int a1), (2, .int a2), (3, .int a3), (7, .int a7), (8, .int a8), (9, .int a9), (10, .int a10)]) dX12_lasts_222 rfl (by rfl) (Nat.le_of_ble_eq_true rfl) rfl ?_
          refine JT_goto (tgt := 60) dX12_lasts_225 (by decide) ?_
          exact JT_sub [4, 5, 6, 7, 1, 2, 0] rfl h
    · have h := h.2 hc11
      refine JT_goto (tgt := 222) dX12_lasts_186 (by decide) ?_
      refine JT_iinc (q := 7) (v := (a6 + 1)) (lv' := [(6, .int (a6 + 1)), (5, .int (a5 + (if x2 ≤ (1 : Int32) then (0 : Int32) else (1 : Int32)))), (11, .int x2), (0, .ref 248), (1, .int a1), (2, .int a2), (3, .int a3), (4, .int a4), (7, .int a7), (8, .int a8), (9, .int a9), (10, .int a10)]) dX12_lasts_222 rfl (by rfl) (Nat.le_of_ble_eq_true rfl) rfl ?_
      refine JT_goto (tgt := 60) dX12_lasts_225 (by decide) ?_
      exact JT_sub [3, 4, 5, 6, 7, 1, 0] rfl h
  refine JT_icmp_le (tgt := 177) dX12_lasts_170 (by decide) (fun hc13 => ?_) (fun hc13 => ?_)
  · refine JT_iconst (v := 0) dX12_lasts_177 ic_0 ?_
    exact hj12 _ (by rw [if_pos hc13])
  · refine JT_iconst (v := 1) dX12_lasts_173 ic_1 ?_
    refine JT_goto (tgt := 178) dX12_lasts_174 (by decide) ?_
    exact hj12 _ (by rw [if_neg hc13])
set_option maxRecDepth 20000 in
theorem bX12_lasts (a1 : Int32) (a2 : Int32) {s : SM} {Q : Int32 → SM → Prop} (h : (((vX12_isIn (pI s 248 0 (0 : Int32)) a1 (0 : Int32) (2 : Int32)) = 0 → Q (-1 : Int32) (pI s 248 0 (0 : Int32))) ∧ (¬ (vX12_isIn (pI s 248 0 (0 : Int32)) a1 (0 : Int32) (2 : Int32)) = 0 → (((gI (pI s 248 0 (0 : Int32)) 250 ((0 : Int32)).toNatClampNeg) = 0 → Q (-1 : Int32) (pI s 248 0 (0 : Int32))) ∧ (¬ (gI (pI s 248 0 (0 : Int32)) 250 ((0 : Int32)).toNatClampNeg) = 0 → ((¬ (gI (pI s 248 0 (0 : Int32)) 250 ((1 : Int32)).toNatClampNeg) = 0 → KV MX12_keepsAll 0 [.ref 248] (pI s 248 0 (0 : Int32)) (fun s1 => BI MX12_lasts 6 60 [(0, .ref 248), (1, .int a1), (2, .int a2), (3, .int (gI (pI s1 248 54 a2) 250 ((34 : Int32)).toNatClampNeg)), (4, .int (0 : Int32)), (5, .int (0 : Int32)), (6, .int (0 : Int32))] (pI s1 248 54 a2) Q)) ∧ ((gI (pI s 248 0 (0 : Int32)) 250 ((1 : Int32)).toNatClampNeg) = 0 → Q (-1 : Int32) (pI s 248 0 (0 : Int32))))))))) : KI MX12_lasts 6 [.ref 248, .int a1, .int a2] s Q := by
  show BI MX12_lasts 6 0 [(0, .ref 248), (1, .int a1), (2, .int a2)] s Q
  refine JT_aload_n (q := 0) dX12_lasts_0 rfl rfl ?_
  refine JT_iconst (v := 0) dX12_lasts_1 ic_0 ?_
  refine JS_putI dX12_lasts_2 flX12_1 BS_248 (Nat.le_of_ble_eq_true rfl) (Nat.le_of_ble_eq_true rfl) ct_12_0 ?_
  refine JT_iload_n (q := 1) dX12_lasts_5 rfl rfl ?_
  refine JT_iconst (v := 0) dX12_lasts_6 ic_0 ?_
  refine JT_iconst (v := 2) dX12_lasts_7 ic_2 ?_
  refine JS_callSI (M' := MX12_isIn) (d' := 0) (As := [.int a1, .int (0 : Int32), .int (2 : Int32)]) (rest := []) (P := (fun zv9 wm9 => (vX12_isIn (pI s 248 0 (0 : Int32)) a1 (0 : Int32) (2 : Int32)) = zv9 ∧ (pI s 248 0 (0 : Int32)) = wm9)) dX12_lasts_8 cvX12_202 okX12_isIn rfl (Nat.le_of_ble_eq_true rfl) (Nat.le_of_ble_eq_true rfl) (Nat.le_of_ble_eq_true rfl) (pX12_isIn  (a1) ((0 : Int32)) ((2 : Int32))  ⟨rfl, rfl⟩) (fun zv9 wm9 hq9 => ?_)
  obtain ⟨rfl, rfl⟩ := hq9
  refine JT_if_eq (tgt := 32) dX12_lasts_11 (by decide) (fun hc5 => ?_) (fun hc5 => ?_)
  · have h := h.1 hc5
    refine JT_iconst (v := -1) dX12_lasts_32 ic_m1 ?_
    exact JS_iret dX12_lasts_33 rfl rfl h
  · have h := h.2 hc5
    refine JT_aload_n (q := 0) dX12_lasts_14 rfl rfl ?_
    refine JS_getR (x := 250) dX12_lasts_15 flX12_33 BS_248 (Nat.le_of_ble_eq_true rfl) (Nat.le_of_ble_eq_true rfl) (Or.inr ⟨_, ct_12_6⟩) RF_248_6 ?_
    refine JT_iconst (v := 0) dX12_lasts_18 ic_0 ?_
    refine JS_iald dX12_lasts_19 BS_250 (Nat.le_of_ble_eq_true rfl) (Nat.le_of_ble_eq_true rfl) (by unfold vp_in; decide) ?_
    refine JT_if_eq (tgt := 32) dX12_lasts_20 (by decide) (fun hc4 => ?_) (fun hc4 => ?_)
    · have h := h.1 hc4
      refine JT_iconst (v := -1) dX12_lasts_32 ic_m1 ?_
      exact JS_iret dX12_lasts_33 rfl rfl h
    · have h := h.2 hc4
      refine JT_aload_n (q := 0) dX12_lasts_23 rfl rfl ?_
      refine JS_getR (x := 250) dX12_lasts_24 flX12_33 BS_248 (Nat.le_of_ble_eq_true rfl) (Nat.le_of_ble_eq_true rfl) (Or.inr ⟨_, ct_12_6⟩) RF_248_6 ?_
      refine JT_iconst (v := 1) dX12_lasts_27 ic_1 ?_
      refine JS_iald dX12_lasts_28 BS_250 (Nat.le_of_ble_eq_true rfl) (Nat.le_of_ble_eq_true rfl) (by unfold vp_in; decide) ?_
      refine JT_if_ne (tgt := 34) dX12_lasts_29 (by decide) (fun hc3 => ?_) (fun hc3 => ?_)
      · have h := h.1 hc3
        refine JT_aload_n (q := 0) dX12_lasts_34 rfl rfl ?_
        refine JS_callVV (M' := MX12_keepsAll) (d' := 0) (As := []) (rest := []) dX12_lasts_35 cvX12_380 okX12_keepsAll rfl (Nat.le_of_ble_eq_true rfl) BS_248 (Nat.le_of_ble_eq_true rfl) (Nat.le_of_ble_eq_true rfl) hci_12 (Nat.le_of_ble_eq_true rfl) (Nat.le_of_ble_eq_true rfl) h (fun s1 h => ?_)
        refine JT_aload_n (q := 0) dX12_lasts_38 rfl rfl ?_
        refine JT_iload_n (q := 2) dX12_lasts_39 rfl rfl ?_
        refine JS_putI dX12_lasts_40 flX12_455 BS_248 (Nat.le_of_ble_eq_true rfl) (Nat.le_of_ble_eq_true rfl) ct_12_54 ?_
        refine JT_aload_n (q := 0) dX12_lasts_43 rfl rfl ?_
        refine JS_getR (x := 250) dX12_lasts_44 flX12_33 BS_248 (Nat.le_of_ble_eq_true rfl) (Nat.le_of_ble_eq_true rfl) (Or.inr ⟨_, ct_12_6⟩) RF_248_6 ?_
        refine JT_bipush (v := 34) dX12_lasts_47 bp_34 ?_
        refine JS_iald dX12_lasts_49 BS_250 (Nat.le_of_ble_eq_true rfl) (Nat.le_of_ble_eq_true rfl) (by unfold vp_in; decide) ?_
        refine JT_istore_n (lv' := [(3, .int (gI (pI s1 248 54 a2) 250 ((34 : Int32)).toNatClampNeg)), (0, .ref 248), (1, .int a1), (2, .int a2)]) dX12_lasts_50 rfl (Nat.le_of_ble_eq_true rfl) rfl ?_
        refine JT_iconst (v := 0) dX12_lasts_51 ic_0 ?_
        refine JT_istore (lv' := [(4, .int (0 : Int32)), (3, .int (gI (pI s1 248 54 a2) 250 ((34 : Int32)).toNatClampNeg)), (0, .ref 248), (1, .int a1), (2, .int a2)]) dX12_lasts_52 (Nat.le_of_ble_eq_true rfl) rfl ?_
        refine JT_iconst (v := 0) dX12_lasts_54 ic_0 ?_
        refine JT_istore (lv' := [(5, .int (0 : Int32)), (4, .int (0 : Int32)), (3, .int (gI (pI s1 248 54 a2) 250 ((34 : Int32)).toNatClampNeg)), (0, .ref 248), (1, .int a1), (2, .int a2)]) dX12_lasts_55 (Nat.le_of_ble_eq_true rfl) rfl ?_
        refine JT_iconst (v := 0) dX12_lasts_57 ic_0 ?_
        refine JT_istore (lv' := [(6, .int (0 : Int32)), (5, .int (0 : Int32)), (4, .int (0 : Int32)), (3, .int (gI (pI s1 248 54 a2) 250 ((34 : Int32)).toNatClampNeg)), (0, .ref 248), (1, .int a1), (2, .int a2)]) dX12_lasts_58 (Nat.le_of_ble_eq_true rfl) rfl ?_
        exact JT_sub [4, 5, 6, 3, 2, 1, 0] rfl h
      · have h := h.2 hc3
        refine JT_iconst (v := -1) dX12_lasts_32 ic_m1 ?_
        exact JS_iret dX12_lasts_33 rfl rfl h
set_option maxRecDepth 20000 in
theorem bX12_ring_27 (a1 : Int32) (a2 : Int32) {s : SM} {Q : Int32 → SM → Prop} (h : (((gI s 248 29) ≤ a2 → Q a1 s) ∧ (¬ (gI s 248 29) ≤ a2 → vp_in a2 5 ∧ vp_in a2 5 ∧ BI MX12_ring 6 27 [(0, .ref 248), (1, .int a1), (2, .int (a2 + 1))] (pI s 258 (a2).toNatClampNeg (gI s 257 (a2).toNatClampNeg)) Q))) : BI MX12_ring 6 27 [(0, .ref 248), (1, .int a1), (2, .int a2)] s Q := by
  refine JT_iload_n (q := 2) dX12_ring_27 rfl rfl ?_
  refine JT_aload_n (q := 0) dX12_ring_28 rfl rfl ?_
  refine JS_getI dX12_ring_29 flX12_362 BS_248 (Nat.le_of_ble_eq_true rfl) (Nat.le_of_ble_eq_true rfl) (Or.inl ct_12_29) ?_
  refine JT_icmp_ge (tgt := 53) dX12_ring_32 (by decide) (fun hc3 => ?_) (fun hc3 => ?_)
  · have h := h.1 hc3
    refine JT_iload_n (q := 1) dX12_ring_53 rfl rfl ?_
    exact JS_iret dX12_ring_54 rfl rfl h
  · have h := h.2 hc3
    refine JT_aload_n (q := 0) dX12_ring_35 rfl rfl ?_
    refine JS_getR (x := 258) dX12_ring_36 flX12_59 BS_248 (Nat.le_of_ble_eq_true rfl) (Nat.le_of_ble_eq_true rfl) (Or.inr ⟨_, ct_12_28⟩) RF_248_28 ?_
    refine JT_iload_n (q := 2) dX12_ring_39 rfl rfl ?_
    refine JT_aload_n (q := 0) dX12_ring_40 rfl rfl ?_
    refine JS_getR (x := 257) dX12_ring_41 flX12_56 BS_248 (Nat.le_of_ble_eq_true rfl) (Nat.le_of_ble_eq_true rfl) (Or.inr ⟨_, ct_12_27⟩) RF_248_27 ?_
    refine JT_iload_n (q := 2) dX12_ring_44 rfl rfl ?_
    obtain ⟨o1, h⟩ := h
    refine JS_iald dX12_ring_45 BS_257 (Nat.le_of_ble_eq_true rfl) (Nat.le_of_ble_eq_true rfl) o1 ?_
    obtain ⟨o2, h⟩ := h
    refine JS_iast dX12_ring_46 BS_258 (Nat.le_of_ble_eq_true rfl) (Nat.le_of_ble_eq_true rfl) o2 ?_
    refine JT_iinc (q := 2) (v := (a2 + 1)) (lv' := [(2, .int (a2 + 1)), (0, .ref 248), (1, .int a1)]) dX12_ring_47 rfl (by rfl) (Nat.le_of_ble_eq_true rfl) rfl ?_
    refine JT_goto (tgt := 27) dX12_ring_50 (by decide) ?_
    exact JT_sub [1, 2, 0] rfl h
set_option maxRecDepth 20000 in
theorem bX12_ring  {s : SM} {Q : Int32 → SM → Prop} (h : KI MX12_bestOf 5 [.ref 248, .int (-1 : Int32)] (pI s 248 0 (0 : Int32)) (fun x2 s1 => ((0 ≤ x2 → BI MX12_ring 6 27 [(0, .ref 248), (1, .int x2), (2, .int (0 : Int32))] (pI s1 248 30 (gI s1 248 29)) Q) ∧ (¬ 0 ≤ x2 → Q (-1 : Int32) s1)))) : KI MX12_ring 6 [.ref 248] s Q := by
  show BI MX12_ring 6 0 [(0, .ref 248)] s Q
  refine JT_aload_n (q := 0) dX12_ring_0 rfl rfl ?_
  refine JT_iconst (v := 0) dX12_ring_1 ic_0 ?_
  refine JS_putI dX12_ring_2 flX12_1 BS_248 (Nat.le_of_ble_eq_true rfl) (Nat.le_of_ble_eq_true rfl) ct_12_0 ?_
  refine JT_aload_n (q := 0) dX12_ring_5 rfl rfl ?_
  refine JT_iconst (v := -1) dX12_ring_6 ic_m1 ?_
  refine JS_callVI (M' := MX12_bestOf) (d' := 5) (As := [.int (-1 : Int32)]) (rest := []) dX12_ring_7 cvX12_365 okX12_bestOf rfl (Nat.le_of_ble_eq_true rfl) BS_248 (Nat.le_of_ble_eq_true rfl) (Nat.le_of_ble_eq_true rfl) hci_12 (Nat.le_of_ble_eq_true rfl) (Nat.le_of_ble_eq_true rfl) h (fun x2 s1 h => ?_)
  refine JT_istore_n (lv' := [(1, .int x2), (0, .ref 248)]) dX12_ring_10 rfl (Nat.le_of_ble_eq_true rfl) rfl ?_
  refine JT_iload_n (q := 0) dX12_ring_11 rfl rfl ?_
  refine JT_if_ge (tgt := 17) dX12_ring_12 (by decide) (fun hc3 => ?_) (fun hc3 => ?_)
  · have h := h.1 hc3
    refine JT_aload_n (q := 1) dX12_ring_17 rfl rfl ?_
    refine JT_aload_n (q := 1) dX12_ring_18 rfl rfl ?_
    refine JS_getI dX12_ring_19 flX12_362 BS_248 (Nat.le_of_ble_eq_true rfl) (Nat.le_of_ble_eq_true rfl) (Or.inl ct_12_29) ?_
    refine JS_putI dX12_ring_22 flX12_368 BS_248 (Nat.le_of_ble_eq_true rfl) (Nat.le_of_ble_eq_true rfl) ct_12_30 ?_
    refine JT_iconst (v := 0) dX12_ring_25 ic_0 ?_
    refine JT_istore_n (lv' := [(2, .int (0 : Int32)), (1, .int x2), (0, .ref 248)]) dX12_ring_26 rfl (Nat.le_of_ble_eq_true rfl) rfl ?_
    exact JT_sub [2, 1, 0] rfl h
  · have h := h.2 hc3
    refine JT_iconst (v := -1) dX12_ring_15 ic_m1 ?_
    exact JS_iret dX12_ring_16 rfl rfl h
set_option maxRecDepth 20000 in
theorem bX12_ringOf (a1 : Int32) {s : SM} {Q : Int32 → SM → Prop} (h : (((vX12_isDeal (pI s 248 0 (0 : Int32)) a1) = 0 → Q (-1 : Int32) (pI s 248 0 (0 : Int32))) ∧ (¬ (vX12_isDeal (pI s 248 0 (0 : Int32)) a1) = 0 → KI MX12_bestOf 5 [.ref 248, .int a1] (pI s 248 0 (0 : Int32)) (fun x2 s1 => Q x2 s1)))) : KI MX12_ringOf 6 [.ref 248, .int a1] s Q := by
  show BI MX12_ringOf 6 0 [(0, .ref 248), (1, .int a1)] s Q
  refine JT_aload_n (q := 0) dX12_ringOf_0 rfl rfl ?_
  refine JT_iconst (v := 0) dX12_ringOf_1 ic_0 ?_
  refine JS_putI dX12_ringOf_2 flX12_1 BS_248 (Nat.le_of_ble_eq_true rfl) (Nat.le_of_ble_eq_true rfl) ct_12_0 ?_
  refine JT_aload_n (q := 0) dX12_ringOf_5 rfl rfl ?_
  refine JT_iload_n (q := 1) dX12_ringOf_6 rfl rfl ?_
  refine JS_callVI (M' := MX12_isDeal) (d' := 1) (As := [.int a1]) (rest := []) (P := (fun zv9 wm9 => (vX12_isDeal (pI s 248 0 (0 : Int32)) a1) = zv9 ∧ (pI s 248 0 (0 : Int32)) = wm9)) dX12_ringOf_7 cvX12_262 okX12_isDeal rfl (Nat.le_of_ble_eq_true rfl) BS_248 (Nat.le_of_ble_eq_true rfl) (Nat.le_of_ble_eq_true rfl) hci_12 (Nat.le_of_ble_eq_true rfl) (Nat.le_of_ble_eq_true rfl) (pX12_isDeal  (a1)  ⟨rfl, rfl⟩) (fun zv9 wm9 hq9 => ?_)
  obtain ⟨rfl, rfl⟩ := hq9
  refine JT_if_eq (tgt := 21) dX12_ringOf_10 (by decide) (fun hc3 => ?_) (fun hc3 => ?_)
  · have h := h.1 hc3
    refine JT_iconst (v := -1) dX12_ringOf_21 ic_m1 ?_
    exact JS_iret dX12_ringOf_22 rfl rfl h
  · have h := h.2 hc3
    refine JT_aload_n (q := 0) dX12_ringOf_13 rfl rfl ?_
    refine JT_iload_n (q := 1) dX12_ringOf_14 rfl rfl ?_
    refine JS_callVI (M' := MX12_bestOf) (d' := 5) (As := [.int a1]) (rest := []) dX12_ringOf_15 cvX12_365 okX12_bestOf rfl (Nat.le_of_ble_eq_true rfl) BS_248 (Nat.le_of_ble_eq_true rfl) (Nat.le_of_ble_eq_true rfl) hci_12 (Nat.le_of_ble_eq_true rfl) (Nat.le_of_ble_eq_true rfl) h (fun x2 s1 h => ?_)
    refine JT_goto (tgt := 22) dX12_ringOf_18 (by decide) ?_
    exact JS_iret dX12_ringOf_22 rfl rfl h
set_option maxRecDepth 20000 in
theorem bX12_ringsFor_47 (a1 : Int32) (a2 : Int32) (a3 : Int32) (a4 : Int32) (a5 : Int32) {s : SM} {Q : Int32 → SM → Prop} (h : ((a5 ≤ (1 : Int32) → BI MX12_ringsFor 6 81 [(0, .ref 248), (1, .int a1), (2, .int a2), (3, .int a3), (4, .int a4), (5, .int a5)] s Q) ∧ (¬ a5 ≤ (1 : Int32) → KI MX12_bestOf 5 [.ref 248, .int (-1 : Int32)] s (fun x2 s1 => ((x2 < 0 → BI MX12_ringsFor 6 81 [(0, .ref 248), (1, .int a1), (2, .int a2), (3, .int a3), (4, .int a4), (5, .int a5)] s1 Q) ∧ (¬ x2 < 0 → KI MX12_cuts 3 [.ref 248] s1 (fun x4 s3 => KI MX12_whyWrite 4 [.ref 248, .int a1, .int a2, .int a3] s3 (fun x6 s5 => BI MX12_ringsFor 6 47 [(0, .ref 248), (1, .int a1), (2, .int a2), (3, .int a3), (4, .int (a4 + 1)), (5, .int x6)] s5 Q)))))))) : BI MX12_ringsFor 6 47 [(0, .ref 248), (1, .int a1), (2, .int a2), (3, .int a3), (4, .int a4), (5, .int a5)] s Q := by
  refine JT_iload (q := 5) dX12_ringsFor_47 rfl ?_
  refine JT_iconst (v := 1) dX12_ringsFor_49 ic_1 ?_
  refine JT_icmp_le (tgt := 81) dX12_ringsFor_50 (by decide) (fun hc8 => ?_) (fun hc8 => ?_)
  · have h := h.1 hc8
    exact JT_sub [0, 1, 2, 3, 4, 5] rfl h
  · have h := h.2 hc8
    refine JT_aload_n (q := 0) dX12_ringsFor_53 rfl rfl ?_
    refine JT_iconst (v := -1) dX12_ringsFor_54 ic_m1 ?_
    refine JS_callVI (M' := MX12_bestOf) (d' := 5) (As := [.int (-1 : Int32)]) (rest := []) dX12_ringsFor_55 cvX12_365 okX12_bestOf rfl (Nat.le_of_ble_eq_true rfl) BS_248 (Nat.le_of_ble_eq_true rfl) (Nat.le_of_ble_eq_true rfl) hci_12 (Nat.le_of_ble_eq_true rfl) (Nat.le_of_ble_eq_true rfl) h (fun x2 s1 h => ?_)
    refine JT_if_lt (tgt := 81) dX12_ringsFor_58 (by decide) (fun hc7 => ?_) (fun hc7 => ?_)
    · have h := h.1 hc7
      exact JT_sub [0, 1, 2, 3, 4, 5] rfl h
    · have h := h.2 hc7
      refine JT_aload_n (q := 0) dX12_ringsFor_61 rfl rfl ?_
      refine JS_callVI (M' := MX12_cuts) (d' := 3) (As := []) (rest := []) dX12_ringsFor_62 cvX12_371 okX12_cuts rfl (Nat.le_of_ble_eq_true rfl) BS_248 (Nat.le_of_ble_eq_true rfl) (Nat.le_of_ble_eq_true rfl) hci_12 (Nat.le_of_ble_eq_true rfl) (Nat.le_of_ble_eq_true rfl) h (fun x4 s3 h => ?_)
      refine JT_pop dX12_ringsFor_65 rfl ?_
      refine JT_iinc (q := 4) (v := (a4 + 1)) (lv' := [(4, .int (a4 + 1)), (0, .ref 248), (1, .int a1), (2, .int a2), (3, .int a3), (5, .int a5)]) dX12_ringsFor_66 rfl (by rfl) (Nat.le_of_ble_eq_true rfl) rfl ?_
      refine JT_aload_n (q := 1) dX12_ringsFor_69 rfl rfl ?_
      refine JT_iload_n (q := 2) dX12_ringsFor_70 rfl rfl ?_
      refine JT_iload_n (q := 3) dX12_ringsFor_71 rfl rfl ?_
      refine JT_iload_n (q := 4) dX12_ringsFor_72 rfl rfl ?_
      refine JS_callVI (M' := MX12_whyWrite) (d' := 4) (As := [.int a1, .int a2, .int a3]) (rest := []) dX12_ringsFor_73 cvX12_326 okX12_whyWrite rfl (Nat.le_of_ble_eq_true rfl) BS_248 (Nat.le_of_ble_eq_true rfl) (Nat.le_of_ble_eq_true rfl) hci_12 (Nat.le_of_ble_eq_true rfl) (Nat.le_of_ble_eq_true rfl) h (fun x6 s5 h => ?_)
      refine JT_istore (lv' := [(5, .int x6), (4, .int (a4 + 1)), (0, .ref 248), (1, .int a1), (2, .int a2), (3, .int a3)]) dX12_ringsFor_76 (Nat.le_of_ble_eq_true rfl) rfl ?_
      refine JT_goto (tgt := 47) dX12_ringsFor_78 (by decide) ?_
      exact JT_sub [2, 3, 4, 5, 1, 0] rfl h
set_option maxRecDepth 20000 in
theorem bX12_ringsFor_81 (a1 : Int32) (a2 : Int32) (a3 : Int32) (a4 : Int32) (a5 : Int32) {s : SM} {Q : Int32 → SM → Prop} (h : KV MX12_backAll 0 [.ref 248] s (fun s1 => Q (if a5 = 0 then a4 else (-1 : Int32)) s1)) : BI MX12_ringsFor 6 81 [(0, .ref 248), (1, .int a1), (2, .int a2), (3, .int a3), (4, .int a4), (5, .int a5)] s Q := by
  refine JT_aload_n (q := 0) dX12_ringsFor_81 rfl rfl ?_
  refine JS_callVV (M' := MX12_backAll) (d' := 0) (As := []) (rest := []) dX12_ringsFor_82 cvX12_383 okX12_backAll rfl (Nat.le_of_ble_eq_true rfl) BS_248 (Nat.le_of_ble_eq_true rfl) (Nat.le_of_ble_eq_true rfl) hci_12 (Nat.le_of_ble_eq_true rfl) (Nat.le_of_ble_eq_true rfl) h (fun s1 h => ?_)
  refine JT_iload (q := 5) dX12_ringsFor_85 rfl ?_
  have hj3 : ∀ v : Int32, v = (if a5 = 0 then a4 else (-1 : Int32)) → JT MX12_ringsFor 6 0 0 96 [(0, .ref 248), (1, .int a1), (2, .int a2), (3, .int a3), (4, .int a4), (5, .int a5)] [.int v] (std s1) (KQ Q) := by
    intro v hv
    subst hv
    exact JS_iret dX12_ringsFor_96 rfl rfl h
  refine JT_if_ne (tgt := 95) dX12_ringsFor_87 (by decide) (fun hc4 => ?_) (fun hc4 => ?_)
  · refine JT_iconst (v := -1) dX12_ringsFor_95 ic_m1 ?_
    exact hj3 _ (by rw [if_neg hc4])
  · refine JT_iload (q := 4) dX12_ringsFor_90 rfl ?_
    refine JT_goto (tgt := 96) dX12_ringsFor_92 (by decide) ?_
    exact hj3 _ (by rw [if_pos hc4])
set_option maxRecDepth 20000 in
theorem bX12_ringsFor (a1 : Int32) (a2 : Int32) (a3 : Int32) {s : SM} {Q : Int32 → SM → Prop} (h : (((vX12_isBody (pI s 248 0 (0 : Int32)) a1) = 0 → Q (-1 : Int32) (pI s 248 0 (0 : Int32))) ∧ (¬ (vX12_isBody (pI s 248 0 (0 : Int32)) a1) = 0 → (((vX12_isBody (pI s 248 0 (0 : Int32)) a2) = 0 → Q (-1 : Int32) (pI s 248 0 (0 : Int32))) ∧ (¬ (vX12_isBody (pI s 248 0 (0 : Int32)) a2) = 0 → ((¬ (vX12_isKind (pI s 248 0 (0 : Int32)) a3) = 0 → KV MX12_keepsAll 0 [.ref 248] (pI s 248 0 (0 : Int32)) (fun s1 => KI MX12_whyWrite 4 [.ref 248, .int a1, .int a2, .int a3] s1 (fun x4 s3 => BI MX12_ringsFor 6 47 [(0, .ref 248), (1, .int a1), (2, .int a2), (3, .int a3), (4, .int (0 : Int32)), (5, .int x4)] s3 Q))) ∧ ((vX12_isKind (pI s 248 0 (0 : Int32)) a3) = 0 → Q (-1 : Int32) (pI s 248 0 (0 : Int32))))))))) : KI MX12_ringsFor 6 [.ref 248, .int a1, .int a2, .int a3] s Q := by
  show BI MX12_ringsFor 6 0 [(0, .ref 248), (1, .int a1), (2, .int a2), (3, .int a3)] s Q
  refine JT_aload_n (q := 0) dX12_ringsFor_0 rfl rfl ?_
  refine JT_iconst (v := 0) dX12_ringsFor_1 ic_0 ?_
  refine JS_putI dX12_ringsFor_2 flX12_1 BS_248 (Nat.le_of_ble_eq_true rfl) (Nat.le_of_ble_eq_true rfl) ct_12_0 ?_
  refine JT_aload_n (q := 0) dX12_ringsFor_5 rfl rfl ?_
  refine JT_iload_n (q := 1) dX12_ringsFor_6 rfl rfl ?_
  refine JS_callVI (M' := MX12_isBody) (d' := 1) (As := [.int a1]) (rest := []) (P := (fun zv9 wm9 => (vX12_isBody (pI s 248 0 (0 : Int32)) a1) = zv9 ∧ (pI s 248 0 (0 : Int32)) = wm9)) dX12_ringsFor_7 cvX12_287 okX12_isBody rfl (Nat.le_of_ble_eq_true rfl) BS_248 (Nat.le_of_ble_eq_true rfl) (Nat.le_of_ble_eq_true rfl) hci_12 (Nat.le_of_ble_eq_true rfl) (Nat.le_of_ble_eq_true rfl) (pX12_isBody  (a1)  ⟨rfl, rfl⟩) (fun zv9 wm9 hq9 => ?_)
  obtain ⟨rfl, rfl⟩ := hq9
  refine JT_if_eq (tgt := 29) dX12_ringsFor_10 (by decide) (fun hc9 => ?_) (fun hc9 => ?_)
  · have h := h.1 hc9
    refine JT_iconst (v := -1) dX12_ringsFor_29 ic_m1 ?_
    exact JS_iret dX12_ringsFor_30 rfl rfl h
  · have h := h.2 hc9
    refine JT_aload_n (q := 0) dX12_ringsFor_13 rfl rfl ?_
    refine JT_iload_n (q := 2) dX12_ringsFor_14 rfl rfl ?_
    refine JS_callVI (M' := MX12_isBody) (d' := 1) (As := [.int a2]) (rest := []) (P := (fun zv9 wm9 => (vX12_isBody (pI s 248 0 (0 : Int32)) a2) = zv9 ∧ (pI s 248 0 (0 : Int32)) = wm9)) dX12_ringsFor_15 cvX12_287 okX12_isBody rfl (Nat.le_of_ble_eq_true rfl) BS_248 (Nat.le_of_ble_eq_true rfl) (Nat.le_of_ble_eq_true rfl) hci_12 (Nat.le_of_ble_eq_true rfl) (Nat.le_of_ble_eq_true rfl) (pX12_isBody  (a2)  ⟨rfl, rfl⟩) (fun zv9 wm9 hq9 => ?_)
    obtain ⟨rfl, rfl⟩ := hq9
    refine JT_if_eq (tgt := 29) dX12_ringsFor_18 (by decide) (fun hc7 => ?_) (fun hc7 => ?_)
    · have h := h.1 hc7
      refine JT_iconst (v := -1) dX12_ringsFor_29 ic_m1 ?_
      exact JS_iret dX12_ringsFor_30 rfl rfl h
    · have h := h.2 hc7
      refine JT_aload_n (q := 0) dX12_ringsFor_21 rfl rfl ?_
      refine JT_iload_n (q := 3) dX12_ringsFor_22 rfl rfl ?_
      refine JS_callVI (M' := MX12_isKind) (d' := 1) (As := [.int a3]) (rest := []) (P := (fun zv9 wm9 => (vX12_isKind (pI s 248 0 (0 : Int32)) a3) = zv9 ∧ (pI s 248 0 (0 : Int32)) = wm9)) dX12_ringsFor_23 cvX12_306 okX12_isKind rfl (Nat.le_of_ble_eq_true rfl) BS_248 (Nat.le_of_ble_eq_true rfl) (Nat.le_of_ble_eq_true rfl) hci_12 (Nat.le_of_ble_eq_true rfl) (Nat.le_of_ble_eq_true rfl) (pX12_isKind  (a3)  ⟨rfl, rfl⟩) (fun zv9 wm9 hq9 => ?_)
      obtain ⟨rfl, rfl⟩ := hq9
      refine JT_if_ne (tgt := 31) dX12_ringsFor_26 (by decide) (fun hc5 => ?_) (fun hc5 => ?_)
      · have h := h.1 hc5
        refine JT_aload_n (q := 0) dX12_ringsFor_31 rfl rfl ?_
        refine JS_callVV (M' := MX12_keepsAll) (d' := 0) (As := []) (rest := []) dX12_ringsFor_32 cvX12_380 okX12_keepsAll rfl (Nat.le_of_ble_eq_true rfl) BS_248 (Nat.le_of_ble_eq_true rfl) (Nat.le_of_ble_eq_true rfl) hci_12 (Nat.le_of_ble_eq_true rfl) (Nat.le_of_ble_eq_true rfl) h (fun s1 h => ?_)
        refine JT_iconst (v := 0) dX12_ringsFor_35 ic_0 ?_
        refine JT_istore (lv' := [(4, .int (0 : Int32)), (0, .ref 248), (1, .int a1), (2, .int a2), (3, .int a3)]) dX12_ringsFor_36 (Nat.le_of_ble_eq_true rfl) rfl ?_
        refine JT_aload_n (q := 1) dX12_ringsFor_38 rfl rfl ?_
        refine JT_iload_n (q := 2) dX12_ringsFor_39 rfl rfl ?_
        refine JT_iload_n (q := 3) dX12_ringsFor_40 rfl rfl ?_
        refine JT_iload_n (q := 4) dX12_ringsFor_41 rfl rfl ?_
        refine JS_callVI (M' := MX12_whyWrite) (d' := 4) (As := [.int a1, .int a2, .int a3]) (rest := []) dX12_ringsFor_42 cvX12_326 okX12_whyWrite rfl (Nat.le_of_ble_eq_true rfl) BS_248 (Nat.le_of_ble_eq_true rfl) (Nat.le_of_ble_eq_true rfl) hci_12 (Nat.le_of_ble_eq_true rfl) (Nat.le_of_ble_eq_true rfl) h (fun x4 s3 h => ?_)
        refine JT_istore (lv' := [(5, .int x4), (4, .int (0 : Int32)), (0, .ref 248), (1, .int a1), (2, .int a2), (3, .int a3)]) dX12_ringsFor_45 (Nat.le_of_ble_eq_true rfl) rfl ?_
        exact JT_sub [2, 3, 4, 5, 1, 0] rfl h
      · have h := h.2 hc5
        refine JT_iconst (v := -1) dX12_ringsFor_29 ic_m1 ?_
        exact JS_iret dX12_ringsFor_30 rfl rfl h
set_option maxRecDepth 20000 in
theorem bX1_take_43 {L2 P2 : Nat} (hL2 : (L2, P2) ∈ LX) (a3 : Int32) (a4 : Int32) {s : SM} {Q : Int32 → SM → Prop} (h : ((a3 ≤ a4 → Q (1 : Int32) s) ∧ (¬ a3 ≤ a4 → rX9_byteOr s ((2 : Int32) * a4) (0 : Int32) ∧ rX9_byteOr s (((2 : Int32) * a4) + (1 : Int32)) (0 : Int32) ∧ KV MX1_findNeeded 3 [.ref 233, .int a4, .int ((((vX9_byteOr s ((2 : Int32) * a4) (0 : Int32)) * (256 : Int32)) + (vX9_byteOr s (((2 : Int32) * a4) + (1 : Int32)) (0 : Int32))) - (10000 : Int32))] s (fun s1 => BI MX1_take 6 43 [(0, .ref 233), (1, .ref 3), (2, .ref L2), (3, .int a3), (4, .int (a4 + 1))] s1 Q)))) : BI MX1_take 6 43 [(0, .ref 233), (1, .ref 3), (2, .ref L2), (3, .int a3), (4, .int a4)] s Q := by
  refine JT_iload (q := 4) dX1_take_43 rfl ?_
  refine JT_iload_n (q := 3) dX1_take_45 rfl rfl ?_
  refine JT_icmp_ge (tgt := 94) dX1_take_46 (by decide) (fun hc5 => ?_) (fun hc5 => ?_)
  · have h := h.1 hc5
    refine JT_iconst (v := 1) dX1_take_94 ic_1 ?_
    exact JS_iret dX1_take_95 rfl (n01 (Or.inr rfl)) h
  · have h := h.2 hc5
    refine JT_aload_n (q := 1) dX1_take_49 rfl rfl ?_
    refine JT_iconst (v := 2) dX1_take_50 ic_2 ?_
    refine JT_iload (q := 4) dX1_take_51 rfl ?_
    refine JT_imul dX1_take_53 ?_
    refine JT_iconst (v := 0) dX1_take_54 ic_0 ?_
    obtain ⟨o4, h⟩ := h
    refine JS_callVI (M' := MX9_byteOr) (d' := 0) (As := [.int ((2 : Int32) * a4), .int (0 : Int32)]) (rest := []) (P := (fun zv9 wm9 => (vX9_byteOr s ((2 : Int32) * a4) (0 : Int32)) = zv9 ∧ s = wm9)) dX1_take_55 cvX1_59 okX9_byteOr rfl (Nat.le_of_ble_eq_true rfl) BS_3 (Nat.le_of_ble_eq_true rfl) (Nat.le_of_ble_eq_true rfl) hci_9 (Nat.le_of_ble_eq_true rfl) (Nat.le_of_ble_eq_true rfl) (pX9_byteOr  (((2 : Int32) * a4)) ((0 : Int32)) o4 ⟨rfl, rfl⟩) (fun zv9 wm9 hq9 => ?_)
    obtain ⟨rfl, rfl⟩ := hq9
    refine JT_sipush (v := 256) dX1_take_58 sp_256 ?_
    refine JT_imul dX1_take_61 ?_
    refine JT_aload_n (q := 1) dX1_take_62 rfl rfl ?_
    refine JT_iconst (v := 2) dX1_take_63 ic_2 ?_
    refine JT_iload (q := 4) dX1_take_64 rfl ?_
    refine JT_imul dX1_take_66 ?_
    refine JT_iconst (v := 1) dX1_take_67 ic_1 ?_
    refine JT_iadd dX1_take_68 ?_
    refine JT_iconst (v := 0) dX1_take_69 ic_0 ?_
    obtain ⟨o3, h⟩ := h
    refine JS_callVI (M' := MX9_byteOr) (d' := 0) (As := [.int (((2 : Int32) * a4) + (1 : Int32)), .int (0 : Int32)]) (rest := [.int ((vX9_byteOr s ((2 : Int32) * a4) (0 : Int32)) * (256 : Int32))]) (P := (fun zv9 wm9 => (vX9_byteOr s (((2 : Int32) * a4) + (1 : Int32)) (0 : Int32)) = zv9 ∧ s = wm9)) dX1_take_70 cvX1_59 okX9_byteOr rfl (Nat.le_of_ble_eq_true rfl) BS_3 (Nat.le_of_ble_eq_true rfl) (Nat.le_of_ble_eq_true rfl) hci_9 (Nat.le_of_ble_eq_true rfl) (Nat.le_of_ble_eq_true rfl) (pX9_byteOr  ((((2 : Int32) * a4) + (1 : Int32))) ((0 : Int32)) o3 ⟨rfl, rfl⟩) (fun zv9 wm9 hq9 => ?_)
    obtain ⟨rfl, rfl⟩ := hq9
    refine JT_iadd dX1_take_73 ?_
    refine JT_sipush (v := 10000) dX1_take_74 sp_10000 ?_
    refine JT_isub dX1_take_77 ?_
    refine JT_istore (lv' := [(5, .int ((((vX9_byteOr s ((2 : Int32) * a4) (0 : Int32)) * (256 : Int32)) + (vX9_byteOr s (((2 : Int32) * a4) + (1 : Int32)) (0 : Int32))) - (10000 : Int32))), (0, .ref 233), (1, .ref 3), (2, .ref L2), (3, .int a3), (4, .int a4)]) dX1_take_78 (Nat.le_of_ble_eq_true rfl) rfl ?_
    refine JT_aload_n (q := 1) dX1_take_80 rfl rfl ?_
    refine JT_iload (q := 5) dX1_take_81 rfl ?_
    refine JT_iload (q := 0) dX1_take_83 rfl ?_
    refine JS_callVV (M' := MX1_findNeeded) (d' := 3) (As := [.int a4, .int ((((vX9_byteOr s ((2 : Int32) * a4) (0 : Int32)) * (256 : Int32)) + (vX9_byteOr s (((2 : Int32) * a4) + (1 : Int32)) (0 : Int32))) - (10000 : Int32))]) (rest := []) dX1_take_85 cvX1_63 okX1_findNeeded rfl (Nat.le_of_ble_eq_true rfl) BS_233 (Nat.le_of_ble_eq_true rfl) (Nat.le_of_ble_eq_true rfl) hci_1 (Nat.le_of_ble_eq_true rfl) (Nat.le_of_ble_eq_true rfl) h (fun s1 h => ?_)
    refine JT_iinc (q := 5) (v := (a4 + 1)) (lv' := [(4, .int (a4 + 1)), (5, .int ((((vX9_byteOr s ((2 : Int32) * a4) (0 : Int32)) * (256 : Int32)) + (vX9_byteOr s (((2 : Int32) * a4) + (1 : Int32)) (0 : Int32))) - (10000 : Int32))), (0, .ref 233), (1, .ref 3), (2, .ref L2), (3, .int a3)]) dX1_take_88 rfl (by rfl) (Nat.le_of_ble_eq_true rfl) rfl ?_
    refine JT_goto (tgt := 43) dX1_take_91 (by decide) ?_
    exact JT_sub [2, 3, 4, 5, 0] rfl h
set_option maxRecDepth 20000 in
theorem bX1_take {L2 P2 : Nat} (hL2 : (L2, P2) ∈ LX) {s : SM} {Q : Int32 → SM → Prop} (h : ∃ Lx1 Px1, gD (pD s 2 L2) 2 = some Lx1 ∧ (Lx1, Px1) ∈ LX ∧ ((¬ (gI (pD s 2 L2) 3 1) = ((2 : Int32) * (gI (pD s 2 L2) Px1 6)) → Q (0 : Int32) (pD s 2 L2)) ∧ ((gI (pD s 2 L2) 3 1) = ((2 : Int32) * (gI (pD s 2 L2) Px1 6)) → KI MX1_findLost 5 [.ref 233] (pD s 2 L2) (fun x3 s2 => ((¬ x3 = 0 → BI MX1_take 6 43 [(0, .ref 233), (1, .ref 3), (2, .ref L2), (3, .int (gI (pD s 2 L2) Px1 6)), (4, .int (0 : Int32))] (pI s2 233 10 (1 : Int32)) Q) ∧ (x3 = 0 → Q (0 : Int32) s2)))))) : KI MX1_take 6 [.ref 233, .ref 3, .ref L2] s Q := by
  show BI MX1_take 6 0 [(0, .ref 233), (1, .ref 3), (2, .ref L2)] s Q
  refine JT_aload_n (q := 0) dX1_take_0 rfl rfl ?_
  refine JT_aload_n (q := 2) dX1_take_1 rfl rfl ?_
  refine JS_putD (kk := 2) dX1_take_2 flX1_30 BS_233 (Nat.le_of_ble_eq_true rfl) (Nat.le_of_ble_eq_true rfl) (Or.inl ⟨_, ct_1_11⟩) rfl ?_
  refine JT_aload_n (q := 0) dX1_take_5 rfl rfl ?_
  obtain ⟨Lx1, Px1, hrx1, hLx1, h⟩ := h
  refine JS_getR dX1_take_6 flX1_30 BS_233 (Nat.le_of_ble_eq_true rfl) (Nat.le_of_ble_eq_true rfl) (Or.inl ⟨_, ct_1_11⟩) (RF_233_11.trans hrx1) ?_
  refine JS_getR (x := Px1) dX1_take_9 flX1_34 (lxB hLx1) (lx2 hLx1) (lxN hLx1) (Or.inl ⟨_, ct_4_8⟩) (lxR8 hLx1) ?_
  refine JS_getI dX1_take_12 flX1_40 (pxB (lxP hLx1)) (px2 (lxP hLx1)) (pxN (lxP hLx1)) (Or.inl ct_6_6) ?_
  refine JT_istore_n (lv' := [(3, .int (gI (pD s 2 L2) Px1 6)), (0, .ref 233), (1, .ref 3), (2, .ref L2)]) dX1_take_15 rfl (Nat.le_of_ble_eq_true rfl) rfl ?_
  refine JT_aload_n (q := 2) dX1_take_16 rfl rfl ?_
  refine JS_getI dX1_take_17 flX1_46 BS_3 (Nat.le_of_ble_eq_true rfl) (Nat.le_of_ble_eq_true rfl) (Or.inl ct_9_1) ?_
  refine JT_iconst (v := 2) dX1_take_20 ic_2 ?_
  refine JT_iload_n (q := 0) dX1_take_21 rfl rfl ?_
  refine JT_imul dX1_take_22 ?_
  refine JT_icmp_ne (tgt := 33) dX1_take_23 (by decide) (fun hc5 => ?_) (fun hc5 => ?_)
  · have h := h.1 hc5
    refine JT_iconst (v := 0) dX1_take_33 ic_0 ?_
    exact JS_iret dX1_take_34 rfl (n01 (Or.inl rfl)) h
  · have h := h.2 hc5
    refine JT_aload_n (q := 1) dX1_take_26 rfl rfl ?_
    refine JS_callVI (M' := MX1_findLost) (d' := 5) (As := []) (rest := []) dX1_take_27 cvX1_51 okX1_findLost rfl (Nat.le_of_ble_eq_true rfl) BS_233 (Nat.le_of_ble_eq_true rfl) (Nat.le_of_ble_eq_true rfl) hci_1 (Nat.le_of_ble_eq_true rfl) (Nat.le_of_ble_eq_true rfl) h (fun x3 s2 h => ?_)
    refine JT_if_ne (tgt := 35) dX1_take_30 (by decide) (fun hc4 => ?_) (fun hc4 => ?_)
    · have h := h.1 hc4
      refine JT_aload_n (q := 1) dX1_take_35 rfl rfl ?_
      refine JT_iconst (v := 1) dX1_take_36 ic_1 ?_
      refine JS_putZ dX1_take_37 flX1_55 BS_233 (Nat.le_of_ble_eq_true rfl) (Nat.le_of_ble_eq_true rfl) ct_1_10 (Or.inr rfl) ?_
      refine JT_iconst (v := 0) dX1_take_40 ic_0 ?_
      refine JT_istore (lv' := [(4, .int (0 : Int32)), (3, .int (gI (pD s 2 L2) Px1 6)), (0, .ref 233), (1, .ref 3), (2, .ref L2)]) dX1_take_41 (Nat.le_of_ble_eq_true rfl) rfl ?_
      exact JT_sub [2, 3, 4, 1, 0] rfl h
    · have h := h.2 hc4
      refine JT_iconst (v := 0) dX1_take_33 ic_0 ?_
      exact JS_iret dX1_take_34 rfl (n01 (Or.inl rfl)) h
set_option maxRecDepth 20000 in
theorem bX6_readFrom_10 {p0 : Nat} (hp0 : p0 ∈ PX) (a2 : Int32) {s : SM} {Q : Int32 → SM → Prop} (h : (((600 : Int32) < a2 → Q (0 : Int32) s) ∧ (¬ (600 : Int32) < a2 → KV MX9_nextToken 2 [.ref 3] s (fun s1 => (((vX9_isEnd s1 ) = 0 → KI MX6_readLine 5 [.ref p0, .ref 3] s1 (fun x4 s3 => ((¬ x4 = 0 → BI MX6_readFrom 6 10 [(0, .ref p0), (1, .ref 3), (2, .int (a2 + 1))] (pI s3 p0 10 ((gI s3 p0 10) + (1 : Int32))) Q) ∧ (x4 = 0 → Q (0 : Int32) s3)))) ∧ (¬ (vX9_isEnd s1 ) = 0 → Q (vX9_isAllRead s1 ) (mX9_isAllRead s1 ))))))) : BI MX6_readFrom 6 10 [(0, .ref p0), (1, .ref 3), (2, .int a2)] s Q := by
  refine JT_iload_n (q := 2) dX6_readFrom_10 rfl rfl ?_
  refine JT_sipush (v := 600) dX6_readFrom_11 sp_600 ?_
  refine JT_icmp_gt (tgt := 59) dX6_readFrom_14 (by decide) (fun hc9 => ?_) (fun hc9 => ?_)
  · have h := h.1 hc9
    refine JT_iconst (v := 0) dX6_readFrom_59 ic_0 ?_
    exact JS_iret dX6_readFrom_60 rfl (n01 (Or.inl rfl)) h
  · have h := h.2 hc9
    refine JT_aload_n (q := 1) dX6_readFrom_17 rfl rfl ?_
    refine JS_callVV (M' := MX9_nextToken) (d' := 2) (As := []) (rest := []) dX6_readFrom_18 cvX6_84 okX9_nextToken rfl (Nat.le_of_ble_eq_true rfl) BS_3 (Nat.le_of_ble_eq_true rfl) (Nat.le_of_ble_eq_true rfl) hci_9 (Nat.le_of_ble_eq_true rfl) (Nat.le_of_ble_eq_true rfl) h (fun s1 h => ?_)
    refine JT_aload_n (q := 1) dX6_readFrom_21 rfl rfl ?_
    refine JS_callVI (M' := MX9_isEnd) (d' := 0) (As := []) (rest := []) (P := (fun zv9 wm9 => (vX9_isEnd s1 ) = zv9 ∧ s1 = wm9)) dX6_readFrom_22 cvX6_87 okX9_isEnd rfl (Nat.le_of_ble_eq_true rfl) BS_3 (Nat.le_of_ble_eq_true rfl) (Nat.le_of_ble_eq_true rfl) hci_9 (Nat.le_of_ble_eq_true rfl) (Nat.le_of_ble_eq_true rfl) (pX9_isEnd    ⟨rfl, rfl⟩) (fun zv9 wm9 hq9 => ?_)
    obtain ⟨rfl, rfl⟩ := hq9
    refine JT_if_eq (tgt := 33) dX6_readFrom_25 (by decide) (fun hc7 => ?_) (fun hc7 => ?_)
    · have h := h.1 hc7
      refine JT_aload_n (q := 0) dX6_readFrom_33 rfl rfl ?_
      refine JT_aload_n (q := 1) dX6_readFrom_34 rfl rfl ?_
      refine JS_callVI (M' := MX6_readLine) (d' := 5) (As := [.ref 3]) (rest := []) dX6_readFrom_35 cvX6_94 okX6_readLine rfl (Nat.le_of_ble_eq_true rfl) (pxB hp0) (px2 hp0) (pxN hp0) hci_6 (Nat.le_of_ble_eq_true rfl) (Nat.le_of_ble_eq_true rfl) h (fun x4 s3 h => ?_)
      refine JT_if_ne (tgt := 43) dX6_readFrom_38 (by decide) (fun hc5 => ?_) (fun hc5 => ?_)
      · have h := h.1 hc5
        refine JT_aload_n (q := 0) dX6_readFrom_43 rfl rfl ?_
        refine JT_dup dX6_readFrom_44 rfl ?_
        refine JS_getI dX6_readFrom_45 flX6_44 (pxB hp0) (px2 hp0) (pxN hp0) (Or.inl ct_6_10) ?_
        refine JT_iconst (v := 1) dX6_readFrom_48 ic_1 ?_
        refine JT_iadd dX6_readFrom_49 ?_
        refine JS_putI dX6_readFrom_50 flX6_44 (pxB hp0) (px2 hp0) (pxN hp0) ct_6_10 ?_
        refine JT_iinc (q := 2) (v := (a2 + 1)) (lv' := [(2, .int (a2 + 1)), (0, .ref p0), (1, .ref 3)]) dX6_readFrom_53 rfl (by rfl) (Nat.le_of_ble_eq_true rfl) rfl ?_
        refine JT_goto (tgt := 10) dX6_readFrom_56 (by decide) ?_
        exact JT_sub [1, 2, 0] rfl h
      · have h := h.2 hc5
        refine JT_iconst (v := 0) dX6_readFrom_41 ic_0 ?_
        exact JS_iret dX6_readFrom_42 rfl (n01 (Or.inl rfl)) h
    · have h := h.2 hc7
      refine JT_aload_n (q := 1) dX6_readFrom_28 rfl rfl ?_
      refine JS_callVI (M' := MX9_isAllRead) (d' := 1) (As := []) (rest := []) (P := (fun zv9 wm9 => (vX9_isAllRead s1 ) = zv9 ∧ (mX9_isAllRead s1 ) = wm9)) dX6_readFrom_29 cvX6_91 okX9_isAllRead rfl (Nat.le_of_ble_eq_true rfl) BS_3 (Nat.le_of_ble_eq_true rfl) (Nat.le_of_ble_eq_true rfl) hci_9 (Nat.le_of_ble_eq_true rfl) (Nat.le_of_ble_eq_true rfl) (pX9_isAllRead    ⟨rfl, rfl⟩) (fun zv9 wm9 hq9 => ?_)
      obtain ⟨rfl, rfl⟩ := hq9
      exact JS_iret dX6_readFrom_32 rfl (n01 (zX9_isAllRead s1 )) h
set_option maxRecDepth 20000 in
theorem bX6_readFrom {p0 : Nat} (hp0 : p0 ∈ PX) {s : SM} {Q : Int32 → SM → Prop} (h : BI MX6_readFrom 6 10 [(0, .ref p0), (1, .ref 3), (2, .int (0 : Int32))] (mX9_begin (mX6_forget s p0) ) Q) : KI MX6_readFrom 6 [.ref p0, .ref 3] s Q := by
  show BI MX6_readFrom 6 0 [(0, .ref p0), (1, .ref 3)] s Q
  refine JT_aload_n (q := 0) dX6_readFrom_0 rfl rfl ?_
  refine JS_callVV (M' := MX6_forget) (d' := 0) (As := []) (rest := []) (P := (fun wm9 => (mX6_forget s p0) = wm9)) dX6_readFrom_1 cvX6_76 okX6_forget rfl (Nat.le_of_ble_eq_true rfl) (pxB hp0) (px2 hp0) (pxN hp0) hci_6 (Nat.le_of_ble_eq_true rfl) (Nat.le_of_ble_eq_true rfl) (pX6_forget hp0   rfl) (fun wm9 hq9 => ?_)
  subst hq9
  refine JT_aload_n (q := 1) dX6_readFrom_4 rfl rfl ?_
  refine JS_callVV (M' := MX9_begin) (d' := 0) (As := []) (rest := []) (P := (fun wm9 => (mX9_begin (mX6_forget s p0) ) = wm9)) dX6_readFrom_5 cvX6_79 okX9_begin rfl (Nat.le_of_ble_eq_true rfl) BS_3 (Nat.le_of_ble_eq_true rfl) (Nat.le_of_ble_eq_true rfl) hci_9 (Nat.le_of_ble_eq_true rfl) (Nat.le_of_ble_eq_true rfl) (pX9_begin    rfl) (fun wm9 hq9 => ?_)
  subst hq9
  refine JT_iconst (v := 0) dX6_readFrom_8 ic_0 ?_
  refine JT_istore_n (lv' := [(2, .int (0 : Int32)), (0, .ref p0), (1, .ref 3)]) dX6_readFrom_9 rfl (Nat.le_of_ble_eq_true rfl) rfl ?_
  exact JT_sub [1, 2, 0] rfl h
set_option maxRecDepth 20000 in
theorem bX11_book  {s : SM} {Q : Int32 → SM → Prop} (h : KI MX0_readFrom 6 [.ref 25, .ref 3, .ref 5] s (fun x2 s1 => ((¬ x2 = 0 → Q (gI (mX0_copyFrom (pI (pI s1 2 18 (gI s1 3 2)) 3 1 (0 : Int32)) 19 25) 19 0) (mX0_copyFrom (pI (pI s1 2 18 (gI s1 3 2)) 3 1 (0 : Int32)) 19 25)) ∧ (x2 = 0 → Q ((-1 : Int32) - (gI (pI (pI s1 2 18 (gI s1 3 2)) 3 1 (0 : Int32)) 3 3)) (pI (pI s1 2 18 (gI s1 3 2)) 3 1 (0 : Int32)))))) : KI MX11_book 7 [.ref 2] s Q := by
  show BI MX11_book 7 0 [(0, .ref 2)] s Q
  refine JT_aload_n (q := 0) dX11_book_0 rfl rfl ?_
  refine JS_getR (x := 25) dX11_book_1 flX11_33 BS_2 (Nat.le_of_ble_eq_true rfl) (Nat.le_of_ble_eq_true rfl) (Or.inl ⟨_, ct_11_4⟩) RF_2_4 ?_
  refine JT_aload_n (q := 0) dX11_book_4 rfl rfl ?_
  refine JS_getR (x := 3) dX11_book_5 flX11_10 BS_2 (Nat.le_of_ble_eq_true rfl) (Nat.le_of_ble_eq_true rfl) (Or.inl ⟨_, ct_11_0⟩) RF_2_0 ?_
  refine JT_aload_n (q := 0) dX11_book_8 rfl rfl ?_
  refine JS_getR (x := 5) dX11_book_9 flX11_19 BS_2 (Nat.le_of_ble_eq_true rfl) (Nat.le_of_ble_eq_true rfl) (Or.inl ⟨_, ct_11_1⟩) RF_2_1 ?_
  refine JS_callVI (M' := MX0_readFrom) (d' := 6) (As := [.ref 3, .ref 5]) (rest := []) dX11_book_12 cvX11_144 okX0_readFrom rfl (Nat.le_of_ble_eq_true rfl) BS_25 (Nat.le_of_ble_eq_true rfl) (Nat.le_of_ble_eq_true rfl) hci_0 (Nat.le_of_ble_eq_true rfl) (Nat.le_of_ble_eq_true rfl) h (fun x2 s1 h => ?_)
  refine JT_istore_n (lv' := [(1, .int x2), (0, .ref 2)]) dX11_book_15 rfl (Nat.le_of_ble_eq_true rfl) rfl ?_
  refine JT_aload_n (q := 1) dX11_book_16 rfl rfl ?_
  refine JT_aload_n (q := 1) dX11_book_17 rfl rfl ?_
  refine JS_getR (x := 3) dX11_book_18 flX11_10 BS_2 (Nat.le_of_ble_eq_true rfl) (Nat.le_of_ble_eq_true rfl) (Or.inl ⟨_, ct_11_0⟩) RF_2_0 ?_
  refine JS_getI dX11_book_21 flX11_116 BS_3 (Nat.le_of_ble_eq_true rfl) (Nat.le_of_ble_eq_true rfl) (Or.inl ct_9_2) ?_
  refine JS_putI dX11_book_24 flX11_119 BS_2 (Nat.le_of_ble_eq_true rfl) (Nat.le_of_ble_eq_true rfl) ct_11_18 ?_
  refine JT_aload_n (q := 1) dX11_book_27 rfl rfl ?_
  refine JS_getR (x := 3) dX11_book_28 flX11_10 BS_2 (Nat.le_of_ble_eq_true rfl) (Nat.le_of_ble_eq_true rfl) (Or.inl ⟨_, ct_11_0⟩) RF_2_0 ?_
  refine JT_iconst (v := 0) dX11_book_31 ic_0 ?_
  refine JS_putI dX11_book_32 flX11_104 BS_3 (Nat.le_of_ble_eq_true rfl) (Nat.le_of_ble_eq_true rfl) ct_9_1 ?_
  refine JT_iload_n (q := 0) dX11_book_35 rfl rfl ?_
  refine JT_if_ne (tgt := 49) dX11_book_36 (by decide) (fun hc4 => ?_) (fun hc4 => ?_)
  · have h := h.1 hc4
    refine JT_aload_n (q := 1) dX11_book_49 rfl rfl ?_
    refine JS_getR (x := 19) dX11_book_50 flX11_29 BS_2 (Nat.le_of_ble_eq_true rfl) (Nat.le_of_ble_eq_true rfl) (Or.inl ⟨_, ct_11_3⟩) RF_2_3 ?_
    refine JT_aload_n (q := 1) dX11_book_53 rfl rfl ?_
    refine JS_getR (x := 25) dX11_book_54 flX11_33 BS_2 (Nat.le_of_ble_eq_true rfl) (Nat.le_of_ble_eq_true rfl) (Or.inl ⟨_, ct_11_4⟩) RF_2_4 ?_
    refine JS_callVV (M' := MX0_copyFrom) (d' := 1) (As := [.ref 25]) (rest := []) (P := (fun wm9 => (mX0_copyFrom (pI (pI s1 2 18 (gI s1 3 2)) 3 1 (0 : Int32)) 19 25) = wm9)) dX11_book_57 cvX11_147 okX0_copyFrom rfl (Nat.le_of_ble_eq_true rfl) BS_19 (Nat.le_of_ble_eq_true rfl) (Nat.le_of_ble_eq_true rfl) hci_0 (Nat.le_of_ble_eq_true rfl) (Nat.le_of_ble_eq_true rfl) (pX0_copyFrom hk_19 hk_25   rfl) (fun wm9 hq9 => ?_)
    subst hq9
    refine JT_aload_n (q := 1) dX11_book_60 rfl rfl ?_
    refine JS_getR (x := 19) dX11_book_61 flX11_29 BS_2 (Nat.le_of_ble_eq_true rfl) (Nat.le_of_ble_eq_true rfl) (Or.inl ⟨_, ct_11_3⟩) RF_2_3 ?_
    refine JS_getI dX11_book_64 flX11_134 BS_19 (Nat.le_of_ble_eq_true rfl) (Nat.le_of_ble_eq_true rfl) (Or.inl ct_0_0) ?_
    exact JS_iret dX11_book_67 rfl rfl h
  · have h := h.2 hc4
    refine JT_iconst (v := -1) dX11_book_39 ic_m1 ?_
    refine JT_aload_n (q := 1) dX11_book_40 rfl rfl ?_
    refine JS_getR (x := 3) dX11_book_41 flX11_10 BS_2 (Nat.le_of_ble_eq_true rfl) (Nat.le_of_ble_eq_true rfl) (Or.inl ⟨_, ct_11_0⟩) RF_2_0 ?_
    refine JS_getI dX11_book_44 flX11_122 BS_3 (Nat.le_of_ble_eq_true rfl) (Nat.le_of_ble_eq_true rfl) (Or.inl ct_9_3) ?_
    refine JT_isub dX11_book_47 ?_
    exact JS_iret dX11_book_48 rfl rfl h
set_option maxRecDepth 20000 in
theorem bX11_port  {s : SM} {Q : Int32 → SM → Prop} (h : KI MX6_readFrom 6 [.ref 12, .ref 3] s (fun x2 s1 => ((¬ x2 = 0 → (∀ s3, s3 = (pI (pI (pI s1 2 18 (gI s1 3 2)) 3 1 (0 : Int32)) 2 19 ((gI (pI (pI s1 2 18 (gI s1 3 2)) 3 1 (0 : Int32)) 2 19) + (1 : Int32))) → KV MX4_begin 0 [.ref 31] (pI (mX6_copyFrom (pI s3 12 11 (gI s3 2 19)) 5 12) 19 0 (0 : Int32)) (fun s4 => Q (gI (mX2_forget s4 ) 5 10) (mX2_forget s4 )))) ∧ (x2 = 0 → Q ((-1 : Int32) - (gI (pI (pI s1 2 18 (gI s1 3 2)) 3 1 (0 : Int32)) 3 3)) (pI (pI s1 2 18 (gI s1 3 2)) 3 1 (0 : Int32)))))) : KI MX11_port 7 [.ref 2] s Q := by
  show BI MX11_port 7 0 [(0, .ref 2)] s Q
  refine JT_aload_n (q := 0) dX11_port_0 rfl rfl ?_
  refine JS_getR (x := 12) dX11_port_1 flX11_23 BS_2 (Nat.le_of_ble_eq_true rfl) (Nat.le_of_ble_eq_true rfl) (Or.inl ⟨_, ct_11_2⟩) RF_2_2 ?_
  refine JT_aload_n (q := 0) dX11_port_4 rfl rfl ?_
  refine JS_getR (x := 3) dX11_port_5 flX11_10 BS_2 (Nat.le_of_ble_eq_true rfl) (Nat.le_of_ble_eq_true rfl) (Or.inl ⟨_, ct_11_0⟩) RF_2_0 ?_
  refine JS_callVI (M' := MX6_readFrom) (d' := 6) (As := [.ref 3]) (rest := []) dX11_port_8 cvX11_112 okX6_readFrom rfl (Nat.le_of_ble_eq_true rfl) BS_12 (Nat.le_of_ble_eq_true rfl) (Nat.le_of_ble_eq_true rfl) hci_6 (Nat.le_of_ble_eq_true rfl) (Nat.le_of_ble_eq_true rfl) h (fun x2 s1 h => ?_)
  refine JT_istore_n (lv' := [(1, .int x2), (0, .ref 2)]) dX11_port_11 rfl (Nat.le_of_ble_eq_true rfl) rfl ?_
  refine JT_aload_n (q := 1) dX11_port_12 rfl rfl ?_
  refine JT_aload_n (q := 1) dX11_port_13 rfl rfl ?_
  refine JS_getR (x := 3) dX11_port_14 flX11_10 BS_2 (Nat.le_of_ble_eq_true rfl) (Nat.le_of_ble_eq_true rfl) (Or.inl ⟨_, ct_11_0⟩) RF_2_0 ?_
  refine JS_getI dX11_port_17 flX11_116 BS_3 (Nat.le_of_ble_eq_true rfl) (Nat.le_of_ble_eq_true rfl) (Or.inl ct_9_2) ?_
  refine JS_putI dX11_port_20 flX11_119 BS_2 (Nat.le_of_ble_eq_true rfl) (Nat.le_of_ble_eq_true rfl) ct_11_18 ?_
  refine JT_aload_n (q := 1) dX11_port_23 rfl rfl ?_
  refine JS_getR (x := 3) dX11_port_24 flX11_10 BS_2 (Nat.le_of_ble_eq_true rfl) (Nat.le_of_ble_eq_true rfl) (Or.inl ⟨_, ct_11_0⟩) RF_2_0 ?_
  refine JT_iconst (v := 0) dX11_port_27 ic_0 ?_
  refine JS_putI dX11_port_28 flX11_104 BS_3 (Nat.le_of_ble_eq_true rfl) (Nat.le_of_ble_eq_true rfl) ct_9_1 ?_
  refine JT_iload_n (q := 0) dX11_port_31 rfl rfl ?_
  refine JT_if_ne (tgt := 45) dX11_port_32 (by decide) (fun hc8 => ?_) (fun hc8 => ?_)
  · have h := h.1 hc8
    refine JT_aload_n (q := 1) dX11_port_45 rfl rfl ?_
    refine JT_dup dX11_port_46 rfl ?_
    refine JS_getI dX11_port_47 flX11_125 BS_2 (Nat.le_of_ble_eq_true rfl) (Nat.le_of_ble_eq_true rfl) (Or.inl ct_11_19) ?_
    refine JT_iconst (v := 1) dX11_port_50 ic_1 ?_
    refine JT_iadd dX11_port_51 ?_
    refine JS_putI dX11_port_52 flX11_125 BS_2 (Nat.le_of_ble_eq_true rfl) (Nat.le_of_ble_eq_true rfl) ct_11_19 ?_
    obtain ⟨s3, hs3⟩ : ∃ z, z = (pI (pI (pI s1 2 18 (gI s1 3 2)) 3 1 (0 : Int32)) 2 19 ((gI (pI (pI s1 2 18 (gI s1 3 2)) 3 1 (0 : Int32)) 2 19) + (1 : Int32))) := ⟨_, rfl⟩
    replace h := h s3 hs3
    rw [← hs3]
    refine JT_aload_n (q := 1) dX11_port_55 rfl rfl ?_
    refine JS_getR (x := 12) dX11_port_56 flX11_23 BS_2 (Nat.le_of_ble_eq_true rfl) (Nat.le_of_ble_eq_true rfl) (Or.inl ⟨_, ct_11_2⟩) RF_2_2 ?_
    refine JT_aload_n (q := 1) dX11_port_59 rfl rfl ?_
    refine JS_getI dX11_port_60 flX11_125 BS_2 (Nat.le_of_ble_eq_true rfl) (Nat.le_of_ble_eq_true rfl) (Or.inl ct_11_19) ?_
    refine JS_putI dX11_port_63 flX11_128 BS_12 (Nat.le_of_ble_eq_true rfl) (Nat.le_of_ble_eq_true rfl) ct_6_11 ?_
    refine JT_aload_n (q := 1) dX11_port_66 rfl rfl ?_
    refine JS_getR (x := 5) dX11_port_67 flX11_19 BS_2 (Nat.le_of_ble_eq_true rfl) (Nat.le_of_ble_eq_true rfl) (Or.inl ⟨_, ct_11_1⟩) RF_2_1 ?_
    refine JT_aload_n (q := 1) dX11_port_70 rfl rfl ?_
    refine JS_getR (x := 12) dX11_port_71 flX11_23 BS_2 (Nat.le_of_ble_eq_true rfl) (Nat.le_of_ble_eq_true rfl) (Or.inl ⟨_, ct_11_2⟩) RF_2_2 ?_
    refine JS_callVV (M' := MX6_copyFrom) (d' := 1) (As := [.ref 12]) (rest := []) (P := (fun wm9 => (mX6_copyFrom (pI s3 12 11 (gI s3 2 19)) 5 12) = wm9)) dX11_port_74 cvX11_131 okX6_copyFrom rfl (Nat.le_of_ble_eq_true rfl) BS_5 (Nat.le_of_ble_eq_true rfl) (Nat.le_of_ble_eq_true rfl) hci_6 (Nat.le_of_ble_eq_true rfl) (Nat.le_of_ble_eq_true rfl) (pX6_copyFrom hp_5 hp_12   rfl) (fun wm9 hq9 => ?_)
    subst hq9
    refine JT_aload_n (q := 1) dX11_port_77 rfl rfl ?_
    refine JS_getR (x := 19) dX11_port_78 flX11_29 BS_2 (Nat.le_of_ble_eq_true rfl) (Nat.le_of_ble_eq_true rfl) (Or.inl ⟨_, ct_11_3⟩) RF_2_3 ?_
    refine JT_iconst (v := 0) dX11_port_81 ic_0 ?_
    refine JS_putI dX11_port_82 flX11_134 BS_19 (Nat.le_of_ble_eq_true rfl) (Nat.le_of_ble_eq_true rfl) ct_0_0 ?_
    refine JT_aload_n (q := 1) dX11_port_85 rfl rfl ?_
    refine JS_getR (x := 31) dX11_port_86 flX11_41 BS_2 (Nat.le_of_ble_eq_true rfl) (Nat.le_of_ble_eq_true rfl) (Or.inl ⟨_, ct_11_5⟩) RF_2_5 ?_
    refine JS_callVV (M' := MX4_begin) (d' := 0) (As := []) (rest := []) dX11_port_89 cvX11_137 okX4_begin rfl (Nat.le_of_ble_eq_true rfl) BS_31 (Nat.le_of_ble_eq_true rfl) (Nat.le_of_ble_eq_true rfl) hci_4 (Nat.le_of_ble_eq_true rfl) (Nat.le_of_ble_eq_true rfl) h (fun s4 h => ?_)
    refine JT_aload_n (q := 1) dX11_port_92 rfl rfl ?_
    refine JS_getR (x := 55) dX11_port_93 flX11_51 BS_2 (Nat.le_of_ble_eq_true rfl) (Nat.le_of_ble_eq_true rfl) (Or.inl ⟨_, ct_11_7⟩) RF_2_7 ?_
    refine JS_callVV (M' := MX2_forget) (d' := 0) (As := []) (rest := []) (P := (fun wm9 => (mX2_forget s4 ) = wm9)) dX11_port_96 cvX11_140 okX2_forget rfl (Nat.le_of_ble_eq_true rfl) BS_55 (Nat.le_of_ble_eq_true rfl) (Nat.le_of_ble_eq_true rfl) hci_2 (Nat.le_of_ble_eq_true rfl) (Nat.le_of_ble_eq_true rfl) (pX2_forget    rfl) (fun wm9 hq9 => ?_)
    subst hq9
    refine JT_aload_n (q := 1) dX11_port_99 rfl rfl ?_
    refine JS_getR (x := 5) dX11_port_100 flX11_19 BS_2 (Nat.le_of_ble_eq_true rfl) (Nat.le_of_ble_eq_true rfl) (Or.inl ⟨_, ct_11_1⟩) RF_2_1 ?_
    refine JS_getI dX11_port_103 flX11_143 BS_5 (Nat.le_of_ble_eq_true rfl) (Nat.le_of_ble_eq_true rfl) (Or.inl ct_6_10) ?_
    exact JS_iret dX11_port_106 rfl rfl h
  · have h := h.2 hc8
    refine JT_iconst (v := -1) dX11_port_35 ic_m1 ?_
    refine JT_aload_n (q := 1) dX11_port_36 rfl rfl ?_
    refine JS_getR (x := 3) dX11_port_37 flX11_10 BS_2 (Nat.le_of_ble_eq_true rfl) (Nat.le_of_ble_eq_true rfl) (Or.inl ⟨_, ct_11_0⟩) RF_2_0 ?_
    refine JS_getI dX11_port_40 flX11_122 BS_3 (Nat.le_of_ble_eq_true rfl) (Nat.le_of_ble_eq_true rfl) (Or.inl ct_9_3) ?_
    refine JT_isub dX11_port_43 ?_
    exact JS_iret dX11_port_44 rfl rfl h
set_option maxRecDepth 20000 in
theorem bX12_judge_23 (a1 : Int32) (a2 : Int32) {s : SM} {Q : Int32 → SM → Prop} (h : (((5 : Int32) ≤ a2 → BI MX12_judge 7 45 [(0, .ref 248), (1, .int a1), (2, .int (-1 : Int32)), (3, .int (0 : Int32))] s Q) ∧ (¬ (5 : Int32) ≤ a2 → vp_in a2 5 ∧ BI MX12_judge 7 23 [(0, .ref 248), (1, .int a1), (2, .int (a2 + 1))] (pI s 263 (a2).toNatClampNeg (0 : Int32)) Q))) : BI MX12_judge 7 23 [(0, .ref 248), (1, .int a1), (2, .int a2)] s Q := by
  refine JT_iload_n (q := 2) dX12_judge_23 rfl rfl ?_
  refine JT_iconst (v := 5) dX12_judge_24 ic_5 ?_
  refine JT_icmp_ge (tgt := 41) dX12_judge_25 (by decide) (fun hc2 => ?_) (fun hc2 => ?_)
  · have h := h.1 hc2
    refine JT_iconst (v := -1) dX12_judge_41 ic_m1 ?_
    refine JT_istore_n (lv' := [(2, .int (-1 : Int32)), (0, .ref 248), (1, .int a1)]) dX12_judge_42 rfl (Nat.le_of_ble_eq_true rfl) rfl ?_
    refine JT_iconst (v := 0) dX12_judge_43 ic_0 ?_
    refine JT_istore_n (lv' := [(3, .int (0 : Int32)), (2, .int (-1 : Int32)), (0, .ref 248), (1, .int a1)]) dX12_judge_44 rfl (Nat.le_of_ble_eq_true rfl) rfl ?_
    exact JT_sub [2, 3, 1, 0] rfl h
  · have h := h.2 hc2
    refine JT_aload_n (q := 0) dX12_judge_28 rfl rfl ?_
    refine JS_getR (x := 263) dX12_judge_29 flX12_74 BS_248 (Nat.le_of_ble_eq_true rfl) (Nat.le_of_ble_eq_true rfl) (Or.inr ⟨_, ct_12_37⟩) RF_248_37 ?_
    refine JT_iload_n (q := 2) dX12_judge_32 rfl rfl ?_
    refine JT_iconst (v := 0) dX12_judge_33 ic_0 ?_
    obtain ⟨o1, h⟩ := h
    refine JS_iast dX12_judge_34 BS_263 (Nat.le_of_ble_eq_true rfl) (Nat.le_of_ble_eq_true rfl) o1 ?_
    refine JT_iinc (q := 2) (v := (a2 + 1)) (lv' := [(2, .int (a2 + 1)), (0, .ref 248), (1, .int a1)]) dX12_judge_35 rfl (by rfl) (Nat.le_of_ble_eq_true rfl) rfl ?_
    refine JT_goto (tgt := 23) dX12_judge_38 (by decide) ?_
    exact JT_sub [1, 2, 0] rfl h
set_option maxRecDepth 20000 in
theorem bX12_judge_45 (a1 : Int32) (a2 : Int32) (a3 : Int32) {s : SM} {Q : Int32 → SM → Prop} (h : (((gI s 250 ((586 : Int32)).toNatClampNeg) ≤ a3 → BI MX12_judge 7 108 [(0, .ref 248), (1, .int a1), (2, .int a2), (3, .int a3)] s Q) ∧ (¬ (gI s 250 ((586 : Int32)).toNatClampNeg) ≤ a3 → ((0 ≤ a2 → BI MX12_judge 7 108 [(0, .ref 248), (1, .int a1), (2, .int a2), (3, .int a3)] s Q) ∧ (¬ 0 ≤ a2 → KI MX12_does 6 [.ref 248, .int ((587 : Int32) + ((5 : Int32) * a3))] s (fun x2 s1 => (((gI (pI s1 263 ((0 : Int32)).toNatClampNeg x2) 263 ((0 : Int32)).toNatClampNeg) ≤ 0 → (∀ s3, s3 = (pI (pI s1 263 ((0 : Int32)).toNatClampNeg x2) 263 ((1 : Int32)).toNatClampNeg ((gI (pI s1 263 ((0 : Int32)).toNatClampNeg x2) 263 ((1 : Int32)).toNatClampNeg) + (1 : Int32))) → BI MX12_judge 7 45 [(0, .ref 248), (1, .int a1), (2, .int a2), (3, .int (a3 + 1))] s3 Q)) ∧ (¬ (gI (pI s1 263 ((0 : Int32)).toNatClampNeg x2) 263 ((0 : Int32)).toNatClampNeg) ≤ 0 → BI MX12_judge 7 45 [(0, .ref 248), (1, .int a1), (2, .int a3), (3, .int (a3 + 1))] (pI s1 263 ((0 : Int32)).toNatClampNeg x2) Q)))))))) : BI MX12_judge 7 45 [(0, .ref 248), (1, .int a1), (2, .int a2), (3, .int a3)] s Q := by
  refine JT_iload_n (q := 3) dX12_judge_45 rfl rfl ?_
  refine JT_aload_n (q := 0) dX12_judge_46 rfl rfl ?_
  refine JS_getR (x := 250) dX12_judge_47 flX12_33 BS_248 (Nat.le_of_ble_eq_true rfl) (Nat.le_of_ble_eq_true rfl) (Or.inr ⟨_, ct_12_6⟩) RF_248_6 ?_
  refine JT_sipush (v := 586) dX12_judge_50 sp_586 ?_
  refine JS_iald dX12_judge_53 BS_250 (Nat.le_of_ble_eq_true rfl) (Nat.le_of_ble_eq_true rfl) (by unfold vp_in; decide) ?_
  refine JT_icmp_ge (tgt := 108) dX12_judge_54 (by decide) (fun hc6 => ?_) (fun hc6 => ?_)
  · have h := h.1 hc6
    exact JT_sub [0, 1, 2, 3] rfl h
  · have h := h.2 hc6
    refine JT_iload_n (q := 2) dX12_judge_57 rfl rfl ?_
    refine JT_if_ge (tgt := 108) dX12_judge_58 (by decide) (fun hc5 => ?_) (fun hc5 => ?_)
    · have h := h.1 hc5
      exact JT_sub [0, 1, 2, 3] rfl h
    · have h := h.2 hc5
      refine JT_aload_n (q := 0) dX12_judge_61 rfl rfl ?_
      refine JS_getR (x := 263) dX12_judge_62 flX12_74 BS_248 (Nat.le_of_ble_eq_true rfl) (Nat.le_of_ble_eq_true rfl) (Or.inr ⟨_, ct_12_37⟩) RF_248_37 ?_
      refine JT_iconst (v := 0) dX12_judge_65 ic_0 ?_
      refine JT_aload_n (q := 0) dX12_judge_66 rfl rfl ?_
      refine JT_sipush (v := 587) dX12_judge_67 sp_587 ?_
      refine JT_iconst (v := 5) dX12_judge_70 ic_5 ?_
      refine JT_iload_n (q := 3) dX12_judge_71 rfl rfl ?_
      refine JT_imul dX12_judge_72 ?_
      refine JT_iadd dX12_judge_73 ?_
      refine JS_callVI (M' := MX12_does) (d' := 6) (As := [.int ((587 : Int32) + ((5 : Int32) * a3))]) (rest := [.int (0 : Int32), .ref 263]) dX12_judge_74 cvX12_407 okX12_does rfl (Nat.le_of_ble_eq_true rfl) BS_248 (Nat.le_of_ble_eq_true rfl) (Nat.le_of_ble_eq_true rfl) hci_12 (Nat.le_of_ble_eq_true rfl) (Nat.le_of_ble_eq_true rfl) h (fun x2 s1 h => ?_)
      refine JS_iast dX12_judge_77 BS_263 (Nat.le_of_ble_eq_true rfl) (Nat.le_of_ble_eq_true rfl) (by unfold vp_in; decide) ?_
      refine JT_aload_n (q := 0) dX12_judge_78 rfl rfl ?_
      refine JS_getR (x := 263) dX12_judge_79 flX12_74 BS_248 (Nat.le_of_ble_eq_true rfl) (Nat.le_of_ble_eq_true rfl) (Or.inr ⟨_, ct_12_37⟩) RF_248_37 ?_
      refine JT_iconst (v := 0) dX12_judge_82 ic_0 ?_
      refine JS_iald dX12_judge_83 BS_263 (Nat.le_of_ble_eq_true rfl) (Nat.le_of_ble_eq_true rfl) (by unfold vp_in; decide) ?_
      refine JT_if_le (tgt := 92) dX12_judge_84 (by decide) (fun hc4 => ?_) (fun hc4 => ?_)
      · have h := h.1 hc4
        refine JT_aload_n (q := 0) dX12_judge_92 rfl rfl ?_
        refine JS_getR (x := 263) dX12_judge_93 flX12_74 BS_248 (Nat.le_of_ble_eq_true rfl) (Nat.le_of_ble_eq_true rfl) (Or.inr ⟨_, ct_12_37⟩) RF_248_37 ?_
        refine JT_iconst (v := 1) dX12_judge_96 ic_1 ?_
        refine JT_dup2 dX12_judge_97 rfl rfl ?_
        refine JS_iald dX12_judge_98 BS_263 (Nat.le_of_ble_eq_true rfl) (Nat.le_of_ble_eq_true rfl) (by unfold vp_in; decide) ?_
        refine JT_iconst (v := 1) dX12_judge_99 ic_1 ?_
        refine JT_iadd dX12_judge_100 ?_
        refine JS_iast dX12_judge_101 BS_263 (Nat.le_of_ble_eq_true rfl) (Nat.le_of_ble_eq_true rfl) (by unfold vp_in; decide) ?_
        obtain ⟨s3, hs3⟩ : ∃ z, z = (pI (pI s1 263 ((0 : Int32)).toNatClampNeg x2) 263 ((1 : Int32)).toNatClampNeg ((gI (pI s1 263 ((0 : Int32)).toNatClampNeg x2) 263 ((1 : Int32)).toNatClampNeg) + (1 : Int32))) := ⟨_, rfl⟩
        replace h := h s3 hs3
        rw [← hs3]
        refine JT_iinc (q := 3) (v := (a3 + 1)) (lv' := [(3, .int (a3 + 1)), (0, .ref 248), (1, .int a1), (2, .int a2)]) dX12_judge_102 rfl (by rfl) (Nat.le_of_ble_eq_true rfl) rfl ?_
        refine JT_goto (tgt := 45) dX12_judge_105 (by decide) ?_
        exact JT_sub [1, 2, 3, 0] rfl h
      · have h := h.2 hc4
        refine JT_iload_n (q := 3) dX12_judge_87 rfl rfl ?_
        refine JT_istore_n (lv' := [(2, .int a3), (0, .ref 248), (1, .int a1), (3, .int a3)]) dX12_judge_88 rfl (Nat.le_of_ble_eq_true rfl) rfl ?_
        refine JT_goto (tgt := 102) dX12_judge_89 (by decide) ?_
        refine JT_iinc (q := 3) (v := (a3 + 1)) (lv' := [(3, .int (a3 + 1)), (2, .int a3), (0, .ref 248), (1, .int a1)]) dX12_judge_102 rfl (by rfl) (Nat.le_of_ble_eq_true rfl) rfl ?_
        refine JT_goto (tgt := 45) dX12_judge_105 (by decide) ?_
        exact JT_sub [2, 3, 1, 0] rfl h
set_option maxRecDepth 20000 in
theorem bX12_judge_108 (a1 : Int32) (a2 : Int32) (a3 : Int32) {s : SM} {Q : Int32 → SM → Prop} (h : KI MX12_openMany 3 [.ref 248] s (fun x2 s1 => BI MX12_judge 7 120 [(0, .ref 248), (1, .int a1), (2, .int a2), (3, .int (0 : Int32))] (pI s1 263 ((2 : Int32)).toNatClampNeg x2) Q)) : BI MX12_judge 7 108 [(0, .ref 248), (1, .int a1), (2, .int a2), (3, .int a3)] s Q := by
  refine JT_aload_n (q := 0) dX12_judge_108 rfl rfl ?_
  refine JS_getR (x := 263) dX12_judge_109 flX12_74 BS_248 (Nat.le_of_ble_eq_true rfl) (Nat.le_of_ble_eq_true rfl) (Or.inr ⟨_, ct_12_37⟩) RF_248_37 ?_
  refine JT_iconst (v := 2) dX12_judge_112 ic_2 ?_
  refine JT_aload_n (q := 0) dX12_judge_113 rfl rfl ?_
  refine JS_callVI (M' := MX12_openMany) (d' := 3) (As := []) (rest := [.int (2 : Int32), .ref 263]) dX12_judge_114 cvX12_410 okX12_openMany rfl (Nat.le_of_ble_eq_true rfl) BS_248 (Nat.le_of_ble_eq_true rfl) (Nat.le_of_ble_eq_true rfl) hci_12 (Nat.le_of_ble_eq_true rfl) (Nat.le_of_ble_eq_true rfl) h (fun x2 s1 h => ?_)
  refine JS_iast dX12_judge_117 BS_263 (Nat.le_of_ble_eq_true rfl) (Nat.le_of_ble_eq_true rfl) (by unfold vp_in; decide) ?_
  refine JT_iconst (v := 0) dX12_judge_118 ic_0 ?_
  refine JT_istore_n (lv' := [(3, .int (0 : Int32)), (0, .ref 248), (1, .int a1), (2, .int a2)]) dX12_judge_119 rfl (Nat.le_of_ble_eq_true rfl) rfl ?_
  exact JT_sub [1, 2, 3, 0] rfl h
set_option maxRecDepth 20000 in
theorem bX12_judge_120 (a1 : Int32) (a2 : Int32) (a3 : Int32) {s : SM} {Q : Int32 → SM → Prop} (h : (((gI s 250 ((0 : Int32)).toNatClampNeg) ≤ a3 → ((¬ a1 = 0 → (((gI (pI (pI s 263 ((4 : Int32)).toNatClampNeg (gI s 250 ((35 : Int32)).toNatClampNeg)) 248 38 (1 : Int32)) 263 ((1 : Int32)).toNatClampNeg) ≤ 0 → Q a2 (pI (pI s 263 ((4 : Int32)).toNatClampNeg (gI s 250 ((35 : Int32)).toNatClampNeg)) 248 38 (1 : Int32))) ∧ (¬ (gI (pI (pI s 263 ((4 : Int32)).toNatClampNeg (gI s 250 ((35 : Int32)).toNatClampNeg)) 248 38 (1 : Int32)) 263 ((1 : Int32)).toNatClampNeg) ≤ 0 → KV MX12_keepsBefore 1 [.ref 248] (pI (pI s 263 ((4 : Int32)).toNatClampNeg (gI s 250 ((35 : Int32)).toNatClampNeg)) 248 38 (1 : Int32)) (fun s1 => Q a2 s1)))) ∧ (a1 = 0 → KV MX12_backAll 0 [.ref 248] (pI (pI s 263 ((4 : Int32)).toNatClampNeg (gI s 250 ((35 : Int32)).toNatClampNeg)) 248 38 (1 : Int32)) (fun s4 => Q a2 s4)))) ∧ (¬ (gI s 250 ((0 : Int32)).toNatClampNeg) ≤ a3 → (((vX12_isLiving s a3) = 0 → BI MX12_judge 7 120 [(0, .ref 248), (1, .int a1), (2, .int a2), (3, .int (a3 + 1))] (pI s 263 ((3 : Int32)).toNatClampNeg ((gI s 263 ((3 : Int32)).toNatClampNeg) + (0 : Int32))) Q) ∧ (¬ (vX12_isLiving s a3) = 0 → KI MX12_leftOf 2 [.ref 248, .int a3] s (fun x8 s7 => BI MX12_judge 7 120 [(0, .ref 248), (1, .int a1), (2, .int a2), (3, .int (a3 + 1))] (pI s7 263 ((3 : Int32)).toNatClampNeg ((gI s 263 ((3 : Int32)).toNatClampNeg) + x8)) Q)))))) : BI MX12_judge 7 120 [(0, .ref 248), (1, .int a1), (2, .int a2), (3, .int a3)] s Q := by
  refine JT_iload_n (q := 3) dX12_judge_120 rfl rfl ?_
  refine JT_aload_n (q := 0) dX12_judge_121 rfl rfl ?_
  refine JS_getR (x := 250) dX12_judge_122 flX12_33 BS_248 (Nat.le_of_ble_eq_true rfl) (Nat.le_of_ble_eq_true rfl) (Or.inr ⟨_, ct_12_6⟩) RF_248_6 ?_
  refine JT_iconst (v := 0) dX12_judge_125 ic_0 ?_
  refine JS_iald dX12_judge_126 BS_250 (Nat.le_of_ble_eq_true rfl) (Nat.le_of_ble_eq_true rfl) (by unfold vp_in; decide) ?_
  refine JT_icmp_ge (tgt := 162) dX12_judge_127 (by decide) (fun hc11 => ?_) (fun hc11 => ?_)
  · have h := h.1 hc11
    refine JT_aload_n (q := 0) dX12_judge_162 rfl rfl ?_
    refine JS_getR (x := 263) dX12_judge_163 flX12_74 BS_248 (Nat.le_of_ble_eq_true rfl) (Nat.le_of_ble_eq_true rfl) (Or.inr ⟨_, ct_12_37⟩) RF_248_37 ?_
    refine JT_iconst (v := 4) dX12_judge_166 ic_4 ?_
    refine JT_aload_n (q := 0) dX12_judge_167 rfl rfl ?_
    refine JS_getR (x := 250) dX12_judge_168 flX12_33 BS_248 (Nat.le_of_ble_eq_true rfl) (Nat.le_of_ble_eq_true rfl) (Or.inr ⟨_, ct_12_6⟩) RF_248_6 ?_
    refine JT_bipush (v := 35) dX12_judge_171 bp_35 ?_
    refine JS_iald dX12_judge_173 BS_250 (Nat.le_of_ble_eq_true rfl) (Nat.le_of_ble_eq_true rfl) (by unfold vp_in; decide) ?_
    refine JS_iast dX12_judge_174 BS_263 (Nat.le_of_ble_eq_true rfl) (Nat.le_of_ble_eq_true rfl) (by unfold vp_in; decide) ?_
    refine JT_aload_n (q := 0) dX12_judge_175 rfl rfl ?_
    refine JT_iconst (v := 1) dX12_judge_176 ic_1 ?_
    refine JS_putZ dX12_judge_177 flX12_413 BS_248 (Nat.le_of_ble_eq_true rfl) (Nat.le_of_ble_eq_true rfl) ct_12_38 (Or.inr rfl) ?_
    refine JT_iload_n (q := 1) dX12_judge_180 rfl rfl ?_
    refine JT_if_ne (tgt := 191) dX12_judge_181 (by decide) (fun hc6 => ?_) (fun hc6 => ?_)
    · have h := h.1 hc6
      refine JT_aload_n (q := 0) dX12_judge_191 rfl rfl ?_
      refine JS_getR (x := 263) dX12_judge_192 flX12_74 BS_248 (Nat.le_of_ble_eq_true rfl) (Nat.le_of_ble_eq_true rfl) (Or.inr ⟨_, ct_12_37⟩) RF_248_37 ?_
      refine JT_iconst (v := 1) dX12_judge_195 ic_1 ?_
      refine JS_iald dX12_judge_196 BS_263 (Nat.le_of_ble_eq_true rfl) (Nat.le_of_ble_eq_true rfl) (by unfold vp_in; decide) ?_
      refine JT_if_le (tgt := 204) dX12_judge_197 (by decide) (fun hc3 => ?_) (fun hc3 => ?_)
      · have h := h.1 hc3
        refine JT_iload_n (q := 2) dX12_judge_204 rfl rfl ?_
        exact JS_iret dX12_judge_205 rfl rfl h
      · have h := h.2 hc3
        refine JT_aload_n (q := 0) dX12_judge_200 rfl rfl ?_
        refine JS_callVV (M' := MX12_keepsBefore) (d' := 1) (As := []) (rest := []) dX12_judge_201 cvX12_416 okX12_keepsBefore rfl (Nat.le_of_ble_eq_true rfl) BS_248 (Nat.le_of_ble_eq_true rfl) (Nat.le_of_ble_eq_true rfl) hci_12 (Nat.le_of_ble_eq_true rfl) (Nat.le_of_ble_eq_true rfl) h (fun s1 h => ?_)
        refine JT_iload_n (q := 2) dX12_judge_204 rfl rfl ?_
        exact JS_iret dX12_judge_205 rfl rfl h
    · have h := h.2 hc6
      refine JT_aload_n (q := 0) dX12_judge_184 rfl rfl ?_
      refine JS_callVV (M' := MX12_backAll) (d' := 0) (As := []) (rest := []) dX12_judge_185 cvX12_383 okX12_backAll rfl (Nat.le_of_ble_eq_true rfl) BS_248 (Nat.le_of_ble_eq_true rfl) (Nat.le_of_ble_eq_true rfl) hci_12 (Nat.le_of_ble_eq_true rfl) (Nat.le_of_ble_eq_true rfl) h (fun s4 h => ?_)
      refine JT_goto (tgt := 204) dX12_judge_188 (by decide) ?_
      refine JT_iload_n (q := 2) dX12_judge_204 rfl rfl ?_
      exact JS_iret dX12_judge_205 rfl rfl h
  · have h := h.2 hc11
    refine JT_aload_n (q := 0) dX12_judge_130 rfl rfl ?_
    refine JS_getR (x := 263) dX12_judge_131 flX12_74 BS_248 (Nat.le_of_ble_eq_true rfl) (Nat.le_of_ble_eq_true rfl) (Or.inr ⟨_, ct_12_37⟩) RF_248_37 ?_
    refine JT_iconst (v := 3) dX12_judge_134 ic_3 ?_
    refine JT_dup2 dX12_judge_135 rfl rfl ?_
    refine JS_iald dX12_judge_136 BS_263 (Nat.le_of_ble_eq_true rfl) (Nat.le_of_ble_eq_true rfl) (by unfold vp_in; decide) ?_
    refine JT_aload_n (q := 0) dX12_judge_137 rfl rfl ?_
    refine JT_iload_n (q := 3) dX12_judge_138 rfl rfl ?_
    refine JS_callVI (M' := MX12_isLiving) (d' := 1) (As := [.int a3]) (rest := [.int (gI s 263 ((3 : Int32)).toNatClampNeg), .int (3 : Int32), .ref 263]) (P := (fun zv9 wm9 => (vX12_isLiving s a3) = zv9 ∧ s = wm9)) dX12_judge_139 cvX12_294 okX12_isLiving rfl (Nat.le_of_ble_eq_true rfl) BS_248 (Nat.le_of_ble_eq_true rfl) (Nat.le_of_ble_eq_true rfl) hci_12 (Nat.le_of_ble_eq_true rfl) (Nat.le_of_ble_eq_true rfl) (pX12_isLiving  (a3)  ⟨rfl, rfl⟩) (fun zv9 wm9 hq9 => ?_)
    obtain ⟨rfl, rfl⟩ := hq9
    refine JT_if_eq (tgt := 153) dX12_judge_142 (by decide) (fun hc9 => ?_) (fun hc9 => ?_)
    · have h := h.1 hc9
      refine JT_iconst (v := 0) dX12_judge_153 ic_0 ?_
      refine JT_iadd dX12_judge_154 ?_
      refine JS_iast dX12_judge_155 BS_263 (Nat.le_of_ble_eq_true rfl) (Nat.le_of_ble_eq_true rfl) (by unfold vp_in; decide) ?_
      refine JT_iinc (q := 3) (v := (a3 + 1)) (lv' := [(3, .int (a3 + 1)), (0, .ref 248), (1, .int a1), (2, .int a2)]) dX12_judge_156 rfl (by rfl) (Nat.le_of_ble_eq_true rfl) rfl ?_
      refine JT_goto (tgt := 120) dX12_judge_159 (by decide) ?_
      exact JT_sub [1, 2, 3, 0] rfl h
    · have h := h.2 hc9
      refine JT_aload_n (q := 0) dX12_judge_145 rfl rfl ?_
      refine JT_iload_n (q := 3) dX12_judge_146 rfl rfl ?_
      refine JS_callVI (M' := MX12_leftOf) (d' := 2) (As := [.int a3]) (rest := [.int (gI s 263 ((3 : Int32)).toNatClampNeg), .int (3 : Int32), .ref 263]) dX12_judge_147 cvX12_297 okX12_leftOf rfl (Nat.le_of_ble_eq_true rfl) BS_248 (Nat.le_of_ble_eq_true rfl) (Nat.le_of_ble_eq_true rfl) hci_12 (Nat.le_of_ble_eq_true rfl) (Nat.le_of_ble_eq_true rfl) h (fun x8 s7 h => ?_)
      refine JT_goto (tgt := 154) dX12_judge_150 (by decide) ?_
      refine JT_iadd dX12_judge_154 ?_
      refine JS_iast dX12_judge_155 BS_263 (Nat.le_of_ble_eq_true rfl) (Nat.le_of_ble_eq_true rfl) (by unfold vp_in; decide) ?_
      refine JT_iinc (q := 3) (v := (a3 + 1)) (lv' := [(3, .int (a3 + 1)), (0, .ref 248), (1, .int a1), (2, .int a2)]) dX12_judge_156 rfl (by rfl) (Nat.le_of_ble_eq_true rfl) rfl ?_
      refine JT_goto (tgt := 120) dX12_judge_159 (by decide) ?_
      exact JT_sub [1, 2, 3, 0] rfl h
set_option maxRecDepth 20000 in
theorem bX12_judge (a1 : Int32) {s : SM} {Q : Int32 → SM → Prop} (h : ((¬ (vX12_isIn (pI s 248 0 (0 : Int32)) a1 (0 : Int32) (1 : Int32)) = 0 → KV MX12_keepsAll 0 [.ref 248] (pI s 248 0 (0 : Int32)) (fun s1 => BI MX12_judge 7 23 [(0, .ref 248), (1, .int a1), (2, .int (0 : Int32))] s1 Q)) ∧ ((vX12_isIn (pI s 248 0 (0 : Int32)) a1 (0 : Int32) (1 : Int32)) = 0 → Q (-2 : Int32) (pI s 248 0 (0 : Int32))))) : KI MX12_judge 7 [.ref 248, .int a1] s Q := by
  show BI MX12_judge 7 0 [(0, .ref 248), (1, .int a1)] s Q
  refine JT_aload_n (q := 0) dX12_judge_0 rfl rfl ?_
  refine JT_iconst (v := 0) dX12_judge_1 ic_0 ?_
  refine JS_putI dX12_judge_2 flX12_1 BS_248 (Nat.le_of_ble_eq_true rfl) (Nat.le_of_ble_eq_true rfl) ct_12_0 ?_
  refine JT_iload_n (q := 1) dX12_judge_5 rfl rfl ?_
  refine JT_iconst (v := 0) dX12_judge_6 ic_0 ?_
  refine JT_iconst (v := 1) dX12_judge_7 ic_1 ?_
  refine JS_callSI (M' := MX12_isIn) (d' := 0) (As := [.int a1, .int (0 : Int32), .int (1 : Int32)]) (rest := []) (P := (fun zv9 wm9 => (vX12_isIn (pI s 248 0 (0 : Int32)) a1 (0 : Int32) (1 : Int32)) = zv9 ∧ (pI s 248 0 (0 : Int32)) = wm9)) dX12_judge_8 cvX12_202 okX12_isIn rfl (Nat.le_of_ble_eq_true rfl) (Nat.le_of_ble_eq_true rfl) (Nat.le_of_ble_eq_true rfl) (pX12_isIn  (a1) ((0 : Int32)) ((1 : Int32))  ⟨rfl, rfl⟩) (fun zv9 wm9 hq9 => ?_)
  obtain ⟨rfl, rfl⟩ := hq9
  refine JT_if_ne (tgt := 17) dX12_judge_11 (by decide) (fun hc3 => ?_) (fun hc3 => ?_)
  · have h := h.1 hc3
    refine JT_aload_n (q := 0) dX12_judge_17 rfl rfl ?_
    refine JS_callVV (M' := MX12_keepsAll) (d' := 0) (As := []) (rest := []) dX12_judge_18 cvX12_380 okX12_keepsAll rfl (Nat.le_of_ble_eq_true rfl) BS_248 (Nat.le_of_ble_eq_true rfl) (Nat.le_of_ble_eq_true rfl) hci_12 (Nat.le_of_ble_eq_true rfl) (Nat.le_of_ble_eq_true rfl) h (fun s1 h => ?_)
    refine JT_iconst (v := 0) dX12_judge_21 ic_0 ?_
    refine JT_istore_n (lv' := [(2, .int (0 : Int32)), (0, .ref 248), (1, .int a1)]) dX12_judge_22 rfl (Nat.le_of_ble_eq_true rfl) rfl ?_
    exact JT_sub [1, 2, 0] rfl h
  · have h := h.2 hc3
    refine JT_bipush (v := -2) dX12_judge_14 bp_m2 ?_
    exact JS_iret dX12_judge_16 rfl rfl h
set_option maxRecDepth 20000 in
theorem bX1_tryFrom_93 {e : Nat} (a1 : Int32) (a2 : Int32) (a3 : Int32) (a4 : Int32) (a5 : Int32) (a6 : Int32) {s : SM} {Q : SM → Prop} (h : vp_in a2 9 ∧ ((¬ (gI s 239 (a2).toNatClampNeg) = a1 → vp_in a3 9 ∧ KI MX1_aboutSum 0 [.ref 233, .int a4, .int (-(gI s 238 (a3).toNatClampNeg))] s (fun x4 s3 => BV MX1_tryFrom (e + 4) 148 [(0, .ref 233), (1, .int a1), (2, .int a2), (3, .int a3), (4, .int a4), (5, .int x4), (6, .int (if (x4 + (1 : Int32)) < (gI s3 233 8) then (x4 + (1 : Int32)) else (gI s3 233 8))), (7, .int (if (1 : Int32) < x4 then x4 else (1 : Int32)))] s3 Q)) ∧ ((gI s 239 (a2).toNatClampNeg) = a1 → vp_in a2 9 ∧ KI MX1_aboutSum 0 [.ref 233, .int a4, .int (gI s 238 (a2).toNatClampNeg)] s (fun x7 s6 => BV MX1_tryFrom (e + 4) 148 [(0, .ref 233), (1, .int a1), (2, .int a2), (3, .int a3), (4, .int a4), (5, .int x7), (6, .int (if (x7 + (1 : Int32)) < (gI s6 233 8) then (x7 + (1 : Int32)) else (gI s6 233 8))), (7, .int (if (1 : Int32) < x7 then x7 else (1 : Int32)))] s6 Q)))) : BV MX1_tryFrom (e + 4) 93 [(0, .ref 233), (1, .int a1), (2, .int a2), (3, .int a3), (4, .int a4), (5, .int a5), (6, .int a6)] s Q := by
  refine JT_aload_n (q := 0) dX1_tryFrom_93 rfl rfl ?_
  refine JT_iload (q := 4) dX1_tryFrom_94 rfl ?_
  refine JT_aload_n (q := 0) dX1_tryFrom_96 rfl rfl ?_
  refine JS_getR (x := 239) dX1_tryFrom_97 flX1_27 BS_233 (Nat.le_of_ble_eq_true rfl) (Nat.le_of_ble_eq_true rfl) (Or.inr ⟨_, ct_1_5⟩) RF_233_5 ?_
  refine JT_iload_n (q := 2) dX1_tryFrom_100 rfl rfl ?_
  obtain ⟨o1, h⟩ := h
  refine JS_iald dX1_tryFrom_101 BS_239 (Nat.le_of_ble_eq_true rfl) (Nat.le_of_ble_eq_true rfl) o1 ?_
  refine JT_iload_n (q := 1) dX1_tryFrom_102 rfl rfl ?_
  refine JT_icmp_ne (tgt := 115) dX1_tryFrom_103 (by decide) (fun hc8 => ?_) (fun hc8 => ?_)
  · have h := h.1 hc8
    refine JT_aload_n (q := 0) dX1_tryFrom_115 rfl rfl ?_
    refine JS_getR (x := 238) dX1_tryFrom_116 flX1_24 BS_233 (Nat.le_of_ble_eq_true rfl) (Nat.le_of_ble_eq_true rfl) (Or.inr ⟨_, ct_1_4⟩) RF_233_4 ?_
    refine JT_iload_n (q := 3) dX1_tryFrom_119 rfl rfl ?_
    obtain ⟨o2, h⟩ := h
    refine JS_iald dX1_tryFrom_120 BS_238 (Nat.le_of_ble_eq_true rfl) (Nat.le_of_ble_eq_true rfl) o2 ?_
    refine JT_ineg dX1_tryFrom_121 ?_
    refine JS_callVI (M' := MX1_aboutSum) (d' := 0) (As := [.int a4, .int (-(gI s 238 (a3).toNatClampNeg))]) (rest := []) dX1_tryFrom_122 cvX1_112 okX1_aboutSum rfl (Nat.le_of_ble_eq_true rfl) BS_233 (Nat.le_of_ble_eq_true rfl) (Nat.le_of_ble_eq_true rfl) hci_1 (Nat.le_of_ble_eq_true rfl) (by show 0 + 1 ≤ e + 4; omega) h (fun x4 s3 h => ?_)
    refine JT_istore (lv' := [(5, .int x4), (0, .ref 233), (1, .int a1), (2, .int a2), (3, .int a3), (4, .int a4), (6, .int a6)]) dX1_tryFrom_125 (Nat.le_of_ble_eq_true rfl) rfl ?_
    refine JT_aload_n (q := 1) dX1_tryFrom_127 rfl rfl ?_
    refine JS_getI dX1_tryFrom_128 flX1_93 BS_233 (Nat.le_of_ble_eq_true rfl) (Nat.le_of_ble_eq_true rfl) (Or.inl ct_1_8) ?_
    refine JT_iload (q := 0) dX1_tryFrom_131 rfl ?_
    refine JT_iconst (v := 1) dX1_tryFrom_133 ic_1 ?_
    refine JT_iadd dX1_tryFrom_134 ?_
    refine JT_mmin (d2 := e + 3) dX1_tryFrom_135 mlX1_115 (Nat.le_of_ble_eq_true rfl) rfl ?_
    refine JT_istore (lv' := [(6, .int (if (x4 + (1 : Int32)) < (gI s3 233 8) then (x4 + (1 : Int32)) else (gI s3 233 8))), (5, .int x4), (0, .ref 233), (1, .int a1), (2, .int a2), (3, .int a3), (4, .int a4)]) dX1_tryFrom_138 (Nat.le_of_ble_eq_true rfl) rfl ?_
    refine JT_iconst (v := 1) dX1_tryFrom_140 ic_1 ?_
    refine JT_iload (q := 1) dX1_tryFrom_141 rfl ?_
    refine JT_mmax (d2 := e + 3) dX1_tryFrom_143 mlX1_120 (Nat.le_of_ble_eq_true rfl) rfl ?_
    refine JT_istore (lv' := [(7, .int (if (1 : Int32) < x4 then x4 else (1 : Int32))), (6, .int (if (x4 + (1 : Int32)) < (gI s3 233 8) then (x4 + (1 : Int32)) else (gI s3 233 8))), (5, .int x4), (0, .ref 233), (1, .int a1), (2, .int a2), (3, .int a3), (4, .int a4)]) dX1_tryFrom_146 (Nat.le_of_ble_eq_true rfl) rfl ?_
    exact JT_sub [3, 4, 5, 6, 7, 2, 1, 0] rfl h
  · have h := h.2 hc8
    refine JT_aload_n (q := 0) dX1_tryFrom_106 rfl rfl ?_
    refine JS_getR (x := 238) dX1_tryFrom_107 flX1_24 BS_233 (Nat.le_of_ble_eq_true rfl) (Nat.le_of_ble_eq_true rfl) (Or.inr ⟨_, ct_1_4⟩) RF_233_4 ?_
    refine JT_iload_n (q := 2) dX1_tryFrom_110 rfl rfl ?_
    obtain ⟨o5, h⟩ := h
    refine JS_iald dX1_tryFrom_111 BS_238 (Nat.le_of_ble_eq_true rfl) (Nat.le_of_ble_eq_true rfl) o5 ?_
    refine JT_goto (tgt := 122) dX1_tryFrom_112 (by decide) ?_
    refine JS_callVI (M' := MX1_aboutSum) (d' := 0) (As := [.int a4, .int (gI s 238 (a2).toNatClampNeg)]) (rest := []) dX1_tryFrom_122 cvX1_112 okX1_aboutSum rfl (Nat.le_of_ble_eq_true rfl) BS_233 (Nat.le_of_ble_eq_true rfl) (Nat.le_of_ble_eq_true rfl) hci_1 (Nat.le_of_ble_eq_true rfl) (by show 0 + 1 ≤ e + 4; omega) h (fun x7 s6 h => ?_)
    refine JT_istore (lv' := [(5, .int x7), (0, .ref 233), (1, .int a1), (2, .int a2), (3, .int a3), (4, .int a4), (6, .int a6)]) dX1_tryFrom_125 (Nat.le_of_ble_eq_true rfl) rfl ?_
    refine JT_aload_n (q := 1) dX1_tryFrom_127 rfl rfl ?_
    refine JS_getI dX1_tryFrom_128 flX1_93 BS_233 (Nat.le_of_ble_eq_true rfl) (Nat.le_of_ble_eq_true rfl) (Or.inl ct_1_8) ?_
    refine JT_iload (q := 0) dX1_tryFrom_131 rfl ?_
    refine JT_iconst (v := 1) dX1_tryFrom_133 ic_1 ?_
    refine JT_iadd dX1_tryFrom_134 ?_
    refine JT_mmin (d2 := e + 3) dX1_tryFrom_135 mlX1_115 (Nat.le_of_ble_eq_true rfl) rfl ?_
    refine JT_istore (lv' := [(6, .int (if (x7 + (1 : Int32)) < (gI s6 233 8) then (x7 + (1 : Int32)) else (gI s6 233 8))), (5, .int x7), (0, .ref 233), (1, .int a1), (2, .int a2), (3, .int a3), (4, .int a4)]) dX1_tryFrom_138 (Nat.le_of_ble_eq_true rfl) rfl ?_
    refine JT_iconst (v := 1) dX1_tryFrom_140 ic_1 ?_
    refine JT_iload (q := 1) dX1_tryFrom_141 rfl ?_
    refine JT_mmax (d2 := e + 3) dX1_tryFrom_143 mlX1_120 (Nat.le_of_ble_eq_true rfl) rfl ?_
    refine JT_istore (lv' := [(7, .int (if (1 : Int32) < x7 then x7 else (1 : Int32))), (6, .int (if (x7 + (1 : Int32)) < (gI s6 233 8) then (x7 + (1 : Int32)) else (gI s6 233 8))), (5, .int x7), (0, .ref 233), (1, .int a1), (2, .int a2), (3, .int a3), (4, .int a4)]) dX1_tryFrom_146 (Nat.le_of_ble_eq_true rfl) rfl ?_
    exact JT_sub [3, 4, 5, 6, 7, 2, 1, 0] rfl h
set_option maxRecDepth 20000 in
theorem bX1_tryFrom_148 {e : Nat} (a1 : Int32) (a2 : Int32) (a3 : Int32) (a4 : Int32) (a5 : Int32) (a6 : Int32) (a7 : Int32) {s : SM} {Q : SM → Prop} (h : ((a6 < a7 → Q s) ∧ (¬ a6 < a7 → ∃ Lx1 Px1, gD s 2 = some Lx1 ∧ (Lx1, Px1) ∈ LX ∧ KI MX6_valueOf 0 [.ref Px1, .int a4, .int a7] s (fun x3 s2 => vp_in a2 9 ∧ vp_in a2 9 ∧ vp_in a3 9 ∧ vp_in a3 9 ∧ (∀ s8, s8 = (pI (pI s2 238 (a2).toNatClampNeg ((gI s2 238 (a2).toNatClampNeg) - x3)) 238 (a3).toNatClampNeg ((gI (pI s2 238 (a2).toNatClampNeg ((gI s2 238 (a2).toNatClampNeg) - x3)) 238 (a3).toNatClampNeg) + x3)) → vp_in a2 9 ∧ ((¬ (gI s8 239 (a2).toNatClampNeg) = a1 → BV MX1_tryFrom (e + 4) 212 [(0, .ref 233), (1, .int a1), (2, .int a2), (3, .int a3), (4, .int a4), (5, .int a5), (6, .int a6), (7, .int a7), (8, .int x3)] s8 Q) ∧ ((gI s8 239 (a2).toNatClampNeg) = a1 → vp_in a2 9 ∧ ((¬ (gI s8 238 (a2).toNatClampNeg) = 0 → BV MX1_tryFrom (e + 4) 246 [(0, .ref 233), (1, .int a1), (2, .int a2), (3, .int a3), (4, .int a4), (5, .int a5), (6, .int a6), (7, .int a7), (8, .int x3)] s8 Q) ∧ ((gI s8 238 (a2).toNatClampNeg) = 0 → BV MX1_tryFrom (e + 4) 212 [(0, .ref 233), (1, .int a1), (2, .int a2), (3, .int a3), (4, .int a4), (5, .int a5), (6, .int a6), (7, .int a7), (8, .int x3)] s8 Q))))))))) : BV MX1_tryFrom (e + 4) 148 [(0, .ref 233), (1, .int a1), (2, .int a2), (3, .int a3), (4, .int a4), (5, .int a5), (6, .int a6), (7, .int a7)] s Q := by
  refine JT_iload (q := 7) dX1_tryFrom_148 rfl ?_
  refine JT_iload (q := 6) dX1_tryFrom_150 rfl ?_
  refine JT_icmp_gt (tgt := 274) dX1_tryFrom_152 (by decide) (fun hc13 => ?_) (fun hc13 => ?_)
  · have h := h.1 hc13
    exact JS_vret dX1_tryFrom_274 rfl h
  · have h := h.2 hc13
    refine JT_aload_n (q := 0) dX1_tryFrom_155 rfl rfl ?_
    obtain ⟨Lx1, Px1, hrx1, hLx1, h⟩ := h
    refine JS_getR dX1_tryFrom_156 flX1_30 BS_233 (Nat.le_of_ble_eq_true rfl) (Nat.le_of_ble_eq_true rfl) (Or.inl ⟨_, ct_1_11⟩) (RF_233_11.trans hrx1) ?_
    refine JS_getR (x := Px1) dX1_tryFrom_159 flX1_34 (lxB hLx1) (lx2 hLx1) (lxN hLx1) (Or.inl ⟨_, ct_4_8⟩) (lxR8 hLx1) ?_
    refine JT_iload (q := 4) dX1_tryFrom_162 rfl ?_
    refine JT_iload (q := 7) dX1_tryFrom_164 rfl ?_
    refine JS_callVI (M' := MX6_valueOf) (d' := 0) (As := [.int a4, .int a7]) (rest := []) dX1_tryFrom_166 cvX1_123 okX6_valueOf rfl (Nat.le_of_ble_eq_true rfl) (pxB (lxP hLx1)) (px2 (lxP hLx1)) (pxN (lxP hLx1)) hci_6 (Nat.le_of_ble_eq_true rfl) (by show 0 + 1 ≤ e + 4; omega) h (fun x3 s2 h => ?_)
    refine JT_istore (lv' := [(8, .int x3), (0, .ref 233), (1, .int a1), (2, .int a2), (3, .int a3), (4, .int a4), (5, .int a5), (6, .int a6), (7, .int a7)]) dX1_tryFrom_169 (Nat.le_of_ble_eq_true rfl) rfl ?_
    refine JT_aload_n (q := 1) dX1_tryFrom_171 rfl rfl ?_
    refine JS_getR (x := 238) dX1_tryFrom_172 flX1_24 BS_233 (Nat.le_of_ble_eq_true rfl) (Nat.le_of_ble_eq_true rfl) (Or.inr ⟨_, ct_1_4⟩) RF_233_4 ?_
    refine JT_iload_n (q := 3) dX1_tryFrom_175 rfl rfl ?_
    refine JT_dup2 dX1_tryFrom_176 rfl rfl ?_
    obtain ⟨o4, h⟩ := h
    refine JS_iald dX1_tryFrom_177 BS_238 (Nat.le_of_ble_eq_true rfl) (Nat.le_of_ble_eq_true rfl) o4 ?_
    refine JT_iload (q := 0) dX1_tryFrom_178 rfl ?_
    refine JT_isub dX1_tryFrom_180 ?_
    obtain ⟨o5, h⟩ := h
    refine JS_iast dX1_tryFrom_181 BS_238 (Nat.le_of_ble_eq_true rfl) (Nat.le_of_ble_eq_true rfl) o5 ?_
    refine JT_aload_n (q := 1) dX1_tryFrom_182 rfl rfl ?_
    refine JS_getR (x := 238) dX1_tryFrom_183 flX1_24 BS_233 (Nat.le_of_ble_eq_true rfl) (Nat.le_of_ble_eq_true rfl) (Or.inr ⟨_, ct_1_4⟩) RF_233_4 ?_
    refine JT_iload_n (q := 4) dX1_tryFrom_186 rfl rfl ?_
    refine JT_dup2 dX1_tryFrom_187 rfl rfl ?_
    obtain ⟨o6, h⟩ := h
    refine JS_iald dX1_tryFrom_188 BS_238 (Nat.le_of_ble_eq_true rfl) (Nat.le_of_ble_eq_true rfl) o6 ?_
    refine JT_iload (q := 0) dX1_tryFrom_189 rfl ?_
    refine JT_iadd dX1_tryFrom_191 ?_
    obtain ⟨o7, h⟩ := h
    refine JS_iast dX1_tryFrom_192 BS_238 (Nat.le_of_ble_eq_true rfl) (Nat.le_of_ble_eq_true rfl) o7 ?_
    obtain ⟨s8, hs8⟩ : ∃ z, z = (pI (pI s2 238 (a2).toNatClampNeg ((gI s2 238 (a2).toNatClampNeg) - x3)) 238 (a3).toNatClampNeg ((gI (pI s2 238 (a2).toNatClampNeg ((gI s2 238 (a2).toNatClampNeg) - x3)) 238 (a3).toNatClampNeg) + x3)) := ⟨_, rfl⟩
    replace h := h s8 hs8
    rw [← hs8]
    refine JT_aload_n (q := 1) dX1_tryFrom_193 rfl rfl ?_
    refine JS_getR (x := 239) dX1_tryFrom_194 flX1_27 BS_233 (Nat.le_of_ble_eq_true rfl) (Nat.le_of_ble_eq_true rfl) (Or.inr ⟨_, ct_1_5⟩) RF_233_5 ?_
    refine JT_iload_n (q := 3) dX1_tryFrom_197 rfl rfl ?_
    obtain ⟨o9, h⟩ := h
    refine JS_iald dX1_tryFrom_198 BS_239 (Nat.le_of_ble_eq_true rfl) (Nat.le_of_ble_eq_true rfl) o9 ?_
    refine JT_iload_n (q := 2) dX1_tryFrom_199 rfl rfl ?_
    refine JT_icmp_ne (tgt := 212) dX1_tryFrom_200 (by decide) (fun hc12 => ?_) (fun hc12 => ?_)
    · have h := h.1 hc12
      exact JT_sub [1, 2, 3, 4, 5, 6, 7, 8, 0] rfl h
    · have h := h.2 hc12
      refine JT_aload_n (q := 1) dX1_tryFrom_203 rfl rfl ?_
      refine JS_getR (x := 238) dX1_tryFrom_204 flX1_24 BS_233 (Nat.le_of_ble_eq_true rfl) (Nat.le_of_ble_eq_true rfl) (Or.inr ⟨_, ct_1_4⟩) RF_233_4 ?_
      refine JT_iload_n (q := 3) dX1_tryFrom_207 rfl rfl ?_
      obtain ⟨o10, h⟩ := h
      refine JS_iald dX1_tryFrom_208 BS_238 (Nat.le_of_ble_eq_true rfl) (Nat.le_of_ble_eq_true rfl) o10 ?_
      refine JT_if_ne (tgt := 246) dX1_tryFrom_209 (by decide) (fun hc11 => ?_) (fun hc11 => ?_)
      · have h := h.1 hc11
        exact JT_sub [1, 2, 3, 4, 5, 6, 7, 8, 0] rfl h
      · have h := h.2 hc11
        exact JT_sub [1, 2, 3, 4, 5, 6, 7, 8, 0] rfl h
set_option maxRecDepth 20000 in
theorem bX1_tryFrom_212 {e : Nat} (a1 : Int32) (a2 : Int32) (a3 : Int32) (a4 : Int32) (a5 : Int32) (a6 : Int32) (a7 : Int32) (a8 : Int32) {s : SM} {Q : SM → Prop} (h : vp_in a3 9 ∧ ((¬ (gI s 239 (a3).toNatClampNeg) = a1 → BV MX1_tryFrom (e + 4) 231 [(0, .ref 233), (1, .int a1), (2, .int a2), (3, .int a3), (4, .int a4), (5, .int a5), (6, .int a6), (7, .int a7), (8, .int a8)] s Q) ∧ ((gI s 239 (a3).toNatClampNeg) = a1 → vp_in a3 9 ∧ ((¬ (gI s 238 (a3).toNatClampNeg) = 0 → BV MX1_tryFrom (e + 4) 246 [(0, .ref 233), (1, .int a1), (2, .int a2), (3, .int a3), (4, .int a4), (5, .int a5), (6, .int a6), (7, .int a7), (8, .int a8)] s Q) ∧ ((gI s 238 (a3).toNatClampNeg) = 0 → BV MX1_tryFrom (e + 4) 231 [(0, .ref 233), (1, .int a1), (2, .int a2), (3, .int a3), (4, .int a4), (5, .int a5), (6, .int a6), (7, .int a7), (8, .int a8)] s Q))))) : BV MX1_tryFrom (e + 4) 212 [(0, .ref 233), (1, .int a1), (2, .int a2), (3, .int a3), (4, .int a4), (5, .int a5), (6, .int a6), (7, .int a7), (8, .int a8)] s Q := by
  refine JT_aload_n (q := 0) dX1_tryFrom_212 rfl rfl ?_
  refine JS_getR (x := 239) dX1_tryFrom_213 flX1_27 BS_233 (Nat.le_of_ble_eq_true rfl) (Nat.le_of_ble_eq_true rfl) (Or.inr ⟨_, ct_1_5⟩) RF_233_5 ?_
  refine JT_iload_n (q := 3) dX1_tryFrom_216 rfl rfl ?_
  obtain ⟨o1, h⟩ := h
  refine JS_iald dX1_tryFrom_217 BS_239 (Nat.le_of_ble_eq_true rfl) (Nat.le_of_ble_eq_true rfl) o1 ?_
  refine JT_iload_n (q := 1) dX1_tryFrom_218 rfl rfl ?_
  refine JT_icmp_ne (tgt := 231) dX1_tryFrom_219 (by decide) (fun hc4 => ?_) (fun hc4 => ?_)
  · have h := h.1 hc4
    exact JT_sub [0, 1, 2, 3, 4, 5, 6, 7, 8] rfl h
  · have h := h.2 hc4
    refine JT_aload_n (q := 0) dX1_tryFrom_222 rfl rfl ?_
    refine JS_getR (x := 238) dX1_tryFrom_223 flX1_24 BS_233 (Nat.le_of_ble_eq_true rfl) (Nat.le_of_ble_eq_true rfl) (Or.inr ⟨_, ct_1_4⟩) RF_233_4 ?_
    refine JT_iload_n (q := 3) dX1_tryFrom_226 rfl rfl ?_
    obtain ⟨o2, h⟩ := h
    refine JS_iald dX1_tryFrom_227 BS_238 (Nat.le_of_ble_eq_true rfl) (Nat.le_of_ble_eq_true rfl) o2 ?_
    refine JT_if_ne (tgt := 246) dX1_tryFrom_228 (by decide) (fun hc3 => ?_) (fun hc3 => ?_)
    · have h := h.1 hc3
      exact JT_sub [0, 1, 2, 3, 4, 5, 6, 7, 8] rfl h
    · have h := h.2 hc3
      exact JT_sub [0, 1, 2, 3, 4, 5, 6, 7, 8] rfl h
set_option maxRecDepth 20000 in
theorem bX1_tryFrom_231 {e : Nat} (a1 : Int32) (a2 : Int32) (a3 : Int32) (a4 : Int32) (a5 : Int32) (a6 : Int32) (a7 : Int32) (a8 : Int32) {s : SM} {Q : SM → Prop} (h : vp_in a1 4 ∧ KV MX1_tryFrom (e + 3) [.ref 233, .int (a1 + (1 : Int32))] (pI s 235 (a1).toNatClampNeg a7) (fun s2 => BV MX1_tryFrom (e + 4) 246 [(0, .ref 233), (1, .int a1), (2, .int a2), (3, .int a3), (4, .int a4), (5, .int a5), (6, .int a6), (7, .int a7), (8, .int a8)] s2 Q)) : BV MX1_tryFrom (e + 4) 231 [(0, .ref 233), (1, .int a1), (2, .int a2), (3, .int a3), (4, .int a4), (5, .int a5), (6, .int a6), (7, .int a7), (8, .int a8)] s Q := by
  refine JT_aload_n (q := 0) dX1_tryFrom_231 rfl rfl ?_
  refine JS_getR (x := 235) dX1_tryFrom_232 flX1_15 BS_233 (Nat.le_of_ble_eq_true rfl) (Nat.le_of_ble_eq_true rfl) (Or.inr ⟨_, ct_1_1⟩) RF_233_1 ?_
  refine JT_iload_n (q := 1) dX1_tryFrom_235 rfl rfl ?_
  refine JT_iload (q := 7) dX1_tryFrom_236 rfl ?_
  obtain ⟨o1, h⟩ := h
  refine JS_iast dX1_tryFrom_238 BS_235 (Nat.le_of_ble_eq_true rfl) (Nat.le_of_ble_eq_true rfl) o1 ?_
  refine JT_aload_n (q := 0) dX1_tryFrom_239 rfl rfl ?_
  refine JT_iload_n (q := 1) dX1_tryFrom_240 rfl rfl ?_
  refine JT_iconst (v := 1) dX1_tryFrom_241 ic_1 ?_
  refine JT_iadd dX1_tryFrom_242 ?_
  refine JS_callVV (M' := MX1_tryFrom) (d' := e + 3) (As := [.int (a1 + (1 : Int32))]) (rest := []) dX1_tryFrom_243 cvX1_102 okX1_tryFrom rfl (Nat.le_of_ble_eq_true rfl) BS_233 (Nat.le_of_ble_eq_true rfl) (Nat.le_of_ble_eq_true rfl) hci_1 (Nat.le_of_ble_eq_true rfl) (by show e + 3 + 1 ≤ e + 4; omega) h (fun s2 h => ?_)
  exact JT_sub [0, 1, 2, 3, 4, 5, 6, 7, 8] rfl h
set_option maxRecDepth 20000 in
theorem bX1_tryFrom_246 {e : Nat} (a1 : Int32) (a2 : Int32) (a3 : Int32) (a4 : Int32) (a5 : Int32) (a6 : Int32) (a7 : Int32) (a8 : Int32) {s : SM} {Q : SM → Prop} (h : vp_in a2 9 ∧ vp_in a2 9 ∧ vp_in a3 9 ∧ vp_in a3 9 ∧ (∀ s5, s5 = (pI (pI s 238 (a2).toNatClampNeg ((gI s 238 (a2).toNatClampNeg) + a8)) 238 (a3).toNatClampNeg ((gI (pI s 238 (a2).toNatClampNeg ((gI s 238 (a2).toNatClampNeg) + a8)) 238 (a3).toNatClampNeg) - a8)) → BV MX1_tryFrom (e + 4) 148 [(0, .ref 233), (1, .int a1), (2, .int a2), (3, .int a3), (4, .int a4), (5, .int a5), (6, .int a6), (7, .int (a7 + 1))] s5 Q)) : BV MX1_tryFrom (e + 4) 246 [(0, .ref 233), (1, .int a1), (2, .int a2), (3, .int a3), (4, .int a4), (5, .int a5), (6, .int a6), (7, .int a7), (8, .int a8)] s Q := by
  refine JT_aload_n (q := 0) dX1_tryFrom_246 rfl rfl ?_
  refine JS_getR (x := 238) dX1_tryFrom_247 flX1_24 BS_233 (Nat.le_of_ble_eq_true rfl) (Nat.le_of_ble_eq_true rfl) (Or.inr ⟨_, ct_1_4⟩) RF_233_4 ?_
  refine JT_iload_n (q := 2) dX1_tryFrom_250 rfl rfl ?_
  refine JT_dup2 dX1_tryFrom_251 rfl rfl ?_
  obtain ⟨o1, h⟩ := h
  refine JS_iald dX1_tryFrom_252 BS_238 (Nat.le_of_ble_eq_true rfl) (Nat.le_of_ble_eq_true rfl) o1 ?_
  refine JT_iload (q := 8) dX1_tryFrom_253 rfl ?_
  refine JT_iadd dX1_tryFrom_255 ?_
  obtain ⟨o2, h⟩ := h
  refine JS_iast dX1_tryFrom_256 BS_238 (Nat.le_of_ble_eq_true rfl) (Nat.le_of_ble_eq_true rfl) o2 ?_
  refine JT_aload_n (q := 0) dX1_tryFrom_257 rfl rfl ?_
  refine JS_getR (x := 238) dX1_tryFrom_258 flX1_24 BS_233 (Nat.le_of_ble_eq_true rfl) (Nat.le_of_ble_eq_true rfl) (Or.inr ⟨_, ct_1_4⟩) RF_233_4 ?_
  refine JT_iload_n (q := 3) dX1_tryFrom_261 rfl rfl ?_
  refine JT_dup2 dX1_tryFrom_262 rfl rfl ?_
  obtain ⟨o3, h⟩ := h
  refine JS_iald dX1_tryFrom_263 BS_238 (Nat.le_of_ble_eq_true rfl) (Nat.le_of_ble_eq_true rfl) o3 ?_
  refine JT_iload (q := 8) dX1_tryFrom_264 rfl ?_
  refine JT_isub dX1_tryFrom_266 ?_
  obtain ⟨o4, h⟩ := h
  refine JS_iast dX1_tryFrom_267 BS_238 (Nat.le_of_ble_eq_true rfl) (Nat.le_of_ble_eq_true rfl) o4 ?_
  obtain ⟨s5, hs5⟩ : ∃ z, z = (pI (pI s 238 (a2).toNatClampNeg ((gI s 238 (a2).toNatClampNeg) + a8)) 238 (a3).toNatClampNeg ((gI (pI s 238 (a2).toNatClampNeg ((gI s 238 (a2).toNatClampNeg) + a8)) 238 (a3).toNatClampNeg) - a8)) := ⟨_, rfl⟩
  replace h := h s5 hs5
  rw [← hs5]
  refine JT_iinc (q := 7) (v := (a7 + 1)) (lv' := [(7, .int (a7 + 1)), (0, .ref 233), (1, .int a1), (2, .int a2), (3, .int a3), (4, .int a4), (5, .int a5), (6, .int a6), (8, .int a8)]) dX1_tryFrom_268 rfl (by rfl) (Nat.le_of_ble_eq_true rfl) rfl ?_
  refine JT_goto (tgt := 148) dX1_tryFrom_271 (by decide) ?_
  exact JT_sub [1, 2, 3, 4, 5, 6, 7, 0] rfl h
set_option maxRecDepth 20000 in
theorem bX1_tryFrom {e : Nat} (a1 : Int32) {s : SM} {Q : SM → Prop} (h : (((gI s 233 6) ≤ a1 → KV MX1_noteWay 1 [.ref 233] s (fun s1 => Q s1)) ∧ (¬ (gI s 233 6) ≤ a1 → ((a1 < (4 : Int32) → ∃ Lx3 Px3, gD s 2 = some Lx3 ∧ (Lx3, Px3) ∈ LX ∧ vp_in a1 4 ∧ vp_in (gI s 234 (a1).toNatClampNeg) 60 ∧ ∃ Lx6 Px6, gD s 2 = some Lx6 ∧ (Lx6, Px6) ∈ LX ∧ vp_in a1 4 ∧ vp_in (gI s 234 (a1).toNatClampNeg) 60 ∧ ∃ Lx9 Px9, gD s 2 = some Lx9 ∧ (Lx9, Px9) ∈ LX ∧ vp_in a1 4 ∧ vp_in (gI s 234 (a1).toNatClampNeg) 60 ∧ vp_in (gI s (Lx3 + 1) ((gI s 234 (a1).toNatClampNeg)).toNatClampNeg) 9 ∧ (((gI s 239 ((gI s (Lx3 + 1) ((gI s 234 (a1).toNatClampNeg)).toNatClampNeg)).toNatClampNeg) = a1 → BV MX1_tryFrom (e + 4) 93 [(0, .ref 233), (1, .int a1), (2, .int (gI s (Lx3 + 1) ((gI s 234 (a1).toNatClampNeg)).toNatClampNeg)), (3, .int (gI s (Lx6 + 2) ((gI s 234 (a1).toNatClampNeg)).toNatClampNeg)), (4, .int (gI s (Lx9 + 4) ((gI s 234 (a1).toNatClampNeg)).toNatClampNeg)), (5, .int (1 : Int32)), (6, .int (gI s 233 8))] s Q) ∧ (¬ (gI s 239 ((gI s (Lx3 + 1) ((gI s 234 (a1).toNatClampNeg)).toNatClampNeg)).toNatClampNeg) = a1 → vp_in (gI s (Lx6 + 2) ((gI s 234 (a1).toNatClampNeg)).toNatClampNeg) 9 ∧ ((¬ (gI s 239 ((gI s (Lx6 + 2) ((gI s 234 (a1).toNatClampNeg)).toNatClampNeg)).toNatClampNeg) = a1 → BV MX1_tryFrom (e + 4) 148 [(0, .ref 233), (1, .int a1), (2, .int (gI s (Lx3 + 1) ((gI s 234 (a1).toNatClampNeg)).toNatClampNeg)), (3, .int (gI s (Lx6 + 2) ((gI s 234 (a1).toNatClampNeg)).toNatClampNeg)), (4, .int (gI s (Lx9 + 4) ((gI s 234 (a1).toNatClampNeg)).toNatClampNeg)), (5, .int (1 : Int32)), (6, .int (gI s 233 8)), (7, .int (if (1 : Int32) < (1 : Int32) then (1 : Int32) else (1 : Int32)))] s Q) ∧ ((gI s 239 ((gI s (Lx6 + 2) ((gI s 234 (a1).toNatClampNeg)).toNatClampNeg)).toNatClampNeg) = a1 → BV MX1_tryFrom (e + 4) 93 [(0, .ref 233), (1, .int a1), (2, .int (gI s (Lx3 + 1) ((gI s 234 (a1).toNatClampNeg)).toNatClampNeg)), (3, .int (gI s (Lx6 + 2) ((gI s 234 (a1).toNatClampNeg)).toNatClampNeg)), (4, .int (gI s (Lx9 + 4) ((gI s 234 (a1).toNatClampNeg)).toNatClampNeg)), (5, .int (1 : Int32)), (6, .int (gI s 233 8))] s Q))))) ∧ (¬ a1 < (4 : Int32) → KV MX1_noteWay 1 [.ref 233] s (fun s16 => Q s16)))))) : KV MX1_tryFrom (e + 4) [.ref 233, .int a1] s Q := by
  show BV MX1_tryFrom (e + 4) 0 [(0, .ref 233), (1, .int a1)] s Q
  refine JT_iload_n (q := 1) dX1_tryFrom_0 rfl rfl ?_
  refine JT_aload_n (q := 0) dX1_tryFrom_1 rfl rfl ?_
  refine JS_getI dX1_tryFrom_2 flX1_67 BS_233 (Nat.le_of_ble_eq_true rfl) (Nat.le_of_ble_eq_true rfl) (Or.inl ct_1_6) ?_
  refine JT_icmp_ge (tgt := 13) dX1_tryFrom_5 (by decide) (fun hc19 => ?_) (fun hc19 => ?_)
  · have h := h.1 hc19
    refine JT_aload_n (q := 0) dX1_tryFrom_13 rfl rfl ?_
    refine JS_callVV (M' := MX1_noteWay) (d' := 1) (As := []) (rest := []) dX1_tryFrom_14 cvX1_106 okX1_noteWay rfl (Nat.le_of_ble_eq_true rfl) BS_233 (Nat.le_of_ble_eq_true rfl) (Nat.le_of_ble_eq_true rfl) hci_1 (Nat.le_of_ble_eq_true rfl) (by show 1 + 1 ≤ e + 4; omega) h (fun s1 h => ?_)
    exact JS_vret dX1_tryFrom_17 rfl h
  · have h := h.2 hc19
    refine JT_iload_n (q := 1) dX1_tryFrom_8 rfl rfl ?_
    refine JT_iconst (v := 4) dX1_tryFrom_9 ic_4 ?_
    refine JT_icmp_lt (tgt := 18) dX1_tryFrom_10 (by decide) (fun hc18 => ?_) (fun hc18 => ?_)
    · have h := h.1 hc18
      refine JT_aload_n (q := 0) dX1_tryFrom_18 rfl rfl ?_
      obtain ⟨Lx3, Px3, hrx3, hLx3, h⟩ := h
      refine JS_getR dX1_tryFrom_19 flX1_30 BS_233 (Nat.le_of_ble_eq_true rfl) (Nat.le_of_ble_eq_true rfl) (Or.inl ⟨_, ct_1_11⟩) (RF_233_11.trans hrx3) ?_
      refine JS_getR (x := (Lx3 + 1)) dX1_tryFrom_22 flX1_81 (lxB hLx3) (lx2 hLx3) (lxN hLx3) (Or.inr ⟨_, ct_4_0⟩) (lxR0 hLx3) ?_
      refine JT_aload_n (q := 0) dX1_tryFrom_25 rfl rfl ?_
      refine JS_getR (x := 234) dX1_tryFrom_26 flX1_9 BS_233 (Nat.le_of_ble_eq_true rfl) (Nat.le_of_ble_eq_true rfl) (Or.inr ⟨_, ct_1_0⟩) RF_233_0 ?_
      refine JT_iload_n (q := 1) dX1_tryFrom_29 rfl rfl ?_
      obtain ⟨o4, h⟩ := h
      refine JS_iald dX1_tryFrom_30 BS_234 (Nat.le_of_ble_eq_true rfl) (Nat.le_of_ble_eq_true rfl) o4 ?_
      obtain ⟨o5, h⟩ := h
      refine JS_iald dX1_tryFrom_31 (lxB1 hLx3) (lx2k hLx3 _) (lxNk hLx3 (Nat.le_of_ble_eq_true rfl)) o5 ?_
      refine JT_istore_n (lv' := [(2, .int (gI s (Lx3 + 1) ((gI s 234 (a1).toNatClampNeg)).toNatClampNeg)), (0, .ref 233), (1, .int a1)]) dX1_tryFrom_32 rfl (Nat.le_of_ble_eq_true rfl) rfl ?_
      refine JT_aload_n (q := 1) dX1_tryFrom_33 rfl rfl ?_
      obtain ⟨Lx6, Px6, hrx6, hLx6, h⟩ := h
      refine JS_getR dX1_tryFrom_34 flX1_30 BS_233 (Nat.le_of_ble_eq_true rfl) (Nat.le_of_ble_eq_true rfl) (Or.inl ⟨_, ct_1_11⟩) (RF_233_11.trans hrx6) ?_
      refine JS_getR (x := (Lx6 + 2)) dX1_tryFrom_37 flX1_84 (lxB hLx6) (lx2 hLx6) (lxN hLx6) (Or.inr ⟨_, ct_4_1⟩) (lxR1 hLx6) ?_
      refine JT_aload_n (q := 1) dX1_tryFrom_40 rfl rfl ?_
      refine JS_getR (x := 234) dX1_tryFrom_41 flX1_9 BS_233 (Nat.le_of_ble_eq_true rfl) (Nat.le_of_ble_eq_true rfl) (Or.inr ⟨_, ct_1_0⟩) RF_233_0 ?_
      refine JT_iload_n (q := 2) dX1_tryFrom_44 rfl rfl ?_
      obtain ⟨o7, h⟩ := h
      refine JS_iald dX1_tryFrom_45 BS_234 (Nat.le_of_ble_eq_true rfl) (Nat.le_of_ble_eq_true rfl) o7 ?_
      obtain ⟨o8, h⟩ := h
      refine JS_iald dX1_tryFrom_46 (lxB2 hLx6) (lx2k hLx6 _) (lxNk hLx6 (Nat.le_of_ble_eq_true rfl)) o8 ?_
      refine JT_istore_n (lv' := [(3, .int (gI s (Lx6 + 2) ((gI s 234 (a1).toNatClampNeg)).toNatClampNeg)), (2, .int (gI s (Lx3 + 1) ((gI s 234 (a1).toNatClampNeg)).toNatClampNeg)), (0, .ref 233), (1, .int a1)]) dX1_tryFrom_47 rfl (Nat.le_of_ble_eq_true rfl) rfl ?_
      refine JT_aload_n (q := 2) dX1_tryFrom_48 rfl rfl ?_
      obtain ⟨Lx9, Px9, hrx9, hLx9, h⟩ := h
      refine JS_getR dX1_tryFrom_49 flX1_30 BS_233 (Nat.le_of_ble_eq_true rfl) (Nat.le_of_ble_eq_true rfl) (Or.inl ⟨_, ct_1_11⟩) (RF_233_11.trans hrx9) ?_
      refine JS_getR (x := (Lx9 + 4)) dX1_tryFrom_52 flX1_109 (lxB hLx9) (lx2 hLx9) (lxN hLx9) (Or.inr ⟨_, ct_4_3⟩) (lxR3 hLx9) ?_
      refine JT_aload_n (q := 2) dX1_tryFrom_55 rfl rfl ?_
      refine JS_getR (x := 234) dX1_tryFrom_56 flX1_9 BS_233 (Nat.le_of_ble_eq_true rfl) (Nat.le_of_ble_eq_true rfl) (Or.inr ⟨_, ct_1_0⟩) RF_233_0 ?_
      refine JT_iload_n (q := 3) dX1_tryFrom_59 rfl rfl ?_
      obtain ⟨o10, h⟩ := h
      refine JS_iald dX1_tryFrom_60 BS_234 (Nat.le_of_ble_eq_true rfl) (Nat.le_of_ble_eq_true rfl) o10 ?_
      obtain ⟨o11, h⟩ := h
      refine JS_iald dX1_tryFrom_61 (lxB4 hLx9) (lx2k hLx9 _) (lxNk hLx9 (Nat.le_of_ble_eq_true rfl)) o11 ?_
      refine JT_istore (lv' := [(4, .int (gI s (Lx9 + 4) ((gI s 234 (a1).toNatClampNeg)).toNatClampNeg)), (3, .int (gI s (Lx6 + 2) ((gI s 234 (a1).toNatClampNeg)).toNatClampNeg)), (2, .int (gI s (Lx3 + 1) ((gI s 234 (a1).toNatClampNeg)).toNatClampNeg)), (0, .ref 233), (1, .int a1)]) dX1_tryFrom_62 (Nat.le_of_ble_eq_true rfl) rfl ?_
      refine JT_iconst (v := 1) dX1_tryFrom_64 ic_1 ?_
      refine JT_istore (lv' := [(5, .int (1 : Int32)), (4, .int (gI s (Lx9 + 4) ((gI s 234 (a1).toNatClampNeg)).toNatClampNeg)), (3, .int (gI s (Lx6 + 2) ((gI s 234 (a1).toNatClampNeg)).toNatClampNeg)), (2, .int (gI s (Lx3 + 1) ((gI s 234 (a1).toNatClampNeg)).toNatClampNeg)), (0, .ref 233), (1, .int a1)]) dX1_tryFrom_65 (Nat.le_of_ble_eq_true rfl) rfl ?_
      refine JT_aload_n (q := 4) dX1_tryFrom_67 rfl rfl ?_
      refine JS_getI dX1_tryFrom_68 flX1_93 BS_233 (Nat.le_of_ble_eq_true rfl) (Nat.le_of_ble_eq_true rfl) (Or.inl ct_1_8) ?_
      refine JT_istore (lv' := [(6, .int (gI s 233 8)), (5, .int (1 : Int32)), (4, .int (gI s (Lx9 + 4) ((gI s 234 (a1).toNatClampNeg)).toNatClampNeg)), (3, .int (gI s (Lx6 + 2) ((gI s 234 (a1).toNatClampNeg)).toNatClampNeg)), (2, .int (gI s (Lx3 + 1) ((gI s 234 (a1).toNatClampNeg)).toNatClampNeg)), (0, .ref 233), (1, .int a1)]) dX1_tryFrom_71 (Nat.le_of_ble_eq_true rfl) rfl ?_
      refine JT_aload_n (q := 5) dX1_tryFrom_73 rfl rfl ?_
      refine JS_getR (x := 239) dX1_tryFrom_74 flX1_27 BS_233 (Nat.le_of_ble_eq_true rfl) (Nat.le_of_ble_eq_true rfl) (Or.inr ⟨_, ct_1_5⟩) RF_233_5 ?_
      refine JT_iload_n (q := 4) dX1_tryFrom_77 rfl rfl ?_
      obtain ⟨o12, h⟩ := h
      refine JS_iald dX1_tryFrom_78 BS_239 (Nat.le_of_ble_eq_true rfl) (Nat.le_of_ble_eq_true rfl) o12 ?_
      refine JT_iload_n (q := 6) dX1_tryFrom_79 rfl rfl ?_
      refine JT_icmp_eq (tgt := 93) dX1_tryFrom_80 (by decide) (fun hc15 => ?_) (fun hc15 => ?_)
      · have h := h.1 hc15
        exact JT_sub [5, 6, 4, 3, 2, 1, 0] rfl h
      · have h := h.2 hc15
        refine JT_aload_n (q := 5) dX1_tryFrom_83 rfl rfl ?_
        refine JS_getR (x := 239) dX1_tryFrom_84 flX1_27 BS_233 (Nat.le_of_ble_eq_true rfl) (Nat.le_of_ble_eq_true rfl) (Or.inr ⟨_, ct_1_5⟩) RF_233_5 ?_
        refine JT_iload_n (q := 3) dX1_tryFrom_87 rfl rfl ?_
        obtain ⟨o13, h⟩ := h
        refine JS_iald dX1_tryFrom_88 BS_239 (Nat.le_of_ble_eq_true rfl) (Nat.le_of_ble_eq_true rfl) o13 ?_
        refine JT_iload_n (q := 6) dX1_tryFrom_89 rfl rfl ?_
        refine JT_icmp_ne (tgt := 140) dX1_tryFrom_90 (by decide) (fun hc14 => ?_) (fun hc14 => ?_)
        · have h := h.1 hc14
          refine JT_iconst (v := 1) dX1_tryFrom_140 ic_1 ?_
          refine JT_iload (q := 1) dX1_tryFrom_141 rfl ?_
          refine JT_mmax (d2 := e + 3) dX1_tryFrom_143 mlX1_120 (Nat.le_of_ble_eq_true rfl) rfl ?_
          refine JT_istore (lv' := [(7, .int (if (1 : Int32) < (1 : Int32) then (1 : Int32) else (1 : Int32))), (6, .int (gI s 233 8)), (5, .int (1 : Int32)), (4, .int (gI s (Lx9 + 4) ((gI s 234 (a1).toNatClampNeg)).toNatClampNeg)), (3, .int (gI s (Lx6 + 2) ((gI s 234 (a1).toNatClampNeg)).toNatClampNeg)), (2, .int (gI s (Lx3 + 1) ((gI s 234 (a1).toNatClampNeg)).toNatClampNeg)), (0, .ref 233), (1, .int a1)]) dX1_tryFrom_146 (Nat.le_of_ble_eq_true rfl) rfl ?_
          exact JT_sub [6, 7, 5, 4, 3, 2, 1, 0] rfl h
        · have h := h.2 hc14
          exact JT_sub [5, 6, 4, 3, 2, 1, 0] rfl h
    · have h := h.2 hc18
      refine JT_aload_n (q := 0) dX1_tryFrom_13 rfl rfl ?_
      refine JS_callVV (M' := MX1_noteWay) (d' := 1) (As := []) (rest := []) dX1_tryFrom_14 cvX1_106 okX1_noteWay rfl (Nat.le_of_ble_eq_true rfl) BS_233 (Nat.le_of_ble_eq_true rfl) (Nat.le_of_ble_eq_true rfl) hci_1 (Nat.le_of_ble_eq_true rfl) (by show 1 + 1 ≤ e + 4; omega) h (fun s16 h => ?_)
      exact JS_vret dX1_tryFrom_17 rfl h
set_option maxRecDepth 20000 in
theorem bX7_extend_35 {e : Nat} (a1 : Int32) (a2 : Int32) (a3 : Int32) (a4 : Int32) (a5 : Int32) (a6 : Int32) {s : SM} {Q : SM → Prop} (h : vp_in a2 9 ∧ (((gI s 224 (a2).toNatClampNeg) ≤ a6 → Q s) ∧ (¬ (gI s 224 (a2).toNatClampNeg) ≤ a6 → vp_in a6 60 ∧ ∃ Lx3 Px3, gD s 0 = some Lx3 ∧ (Lx3, Px3) ∈ LX ∧ vp_in (gI s 222 (a6).toNatClampNeg) 60 ∧ ∃ Lx5 Px5, gD s 0 = some Lx5 ∧ (Lx5, Px5) ∈ LX ∧ vp_in (gI s 222 (a6).toNatClampNeg) 60 ∧ ((a3 ≤ (gI s (Lx5 + 3) ((gI s 222 (a6).toNatClampNeg)).toNatClampNeg) → ((¬ (gI s (Lx5 + 3) ((gI s 222 (a6).toNatClampNeg)).toNatClampNeg) = a3 → vp_in a1 5 ∧ ((¬ (gI s (Lx3 + 2) ((gI s 222 (a6).toNatClampNeg)).toNatClampNeg) = (gI (pI s 220 (a1).toNatClampNeg (gI s 222 (a6).toNatClampNeg)) 218 11) → KI MX11_isIn 0 [.int (gI s (Lx3 + 2) ((gI s 222 (a6).toNatClampNeg)).toNatClampNeg), .int a5] (pI s 220 (a1).toNatClampNeg (gI s 222 (a6).toNatClampNeg)) (fun x9 s8 => ((¬ x9 = 0 → BV MX7_extend (e + 4) 35 [(0, .ref 218), (1, .int a1), (2, .int a2), (3, .int a3), (4, .int a4), (5, .int a5), (6, .int (a6 + 1))] s8 Q) ∧ (x9 = 0 → KV MX7_extend (e + 3) [.ref 218, .int (a1 + (1 : Int32)), .int (gI s (Lx3 + 2) ((gI s 222 (a6).toNatClampNeg)).toNatClampNeg), .int (if a3 < (gI s (Lx5 + 3) ((gI s 222 (a6).toNatClampNeg)).toNatClampNeg) then a3 else (gI s (Lx5 + 3) ((gI s 222 (a6).toNatClampNeg)).toNatClampNeg)), .int a4, .int (a5 ||| ((1 : Int32) <<< ((gI s (Lx3 + 2) ((gI s 222 (a6).toNatClampNeg)).toNatClampNeg) &&& 31)))] s8 (fun s10 => BV MX7_extend (e + 4) 35 [(0, .ref 218), (1, .int a1), (2, .int a2), (3, .int a3), (4, .int a4), (5, .int a5), (6, .int (a6 + 1))] s10 Q))))) ∧ ((gI s (Lx3 + 2) ((gI s 222 (a6).toNatClampNeg)).toNatClampNeg) = (gI (pI s 220 (a1).toNatClampNeg (gI s 222 (a6).toNatClampNeg)) 218 11) → KV MX7_offer 1 [.ref 218, .int (a1 + (1 : Int32)), .int (if a3 < (gI s (Lx5 + 3) ((gI s 222 (a6).toNatClampNeg)).toNatClampNeg) then a3 else (gI s (Lx5 + 3) ((gI s 222 (a6).toNatClampNeg)).toNatClampNeg)), .int a4] (pI s 220 (a1).toNatClampNeg (gI s 222 (a6).toNatClampNeg)) (fun s13 => BV MX7_extend (e + 4) 35 [(0, .ref 218), (1, .int a1), (2, .int a2), (3, .int a3), (4, .int a4), (5, .int a5), (6, .int (a6 + 1))] s13 Q)))) ∧ ((gI s (Lx5 + 3) ((gI s 222 (a6).toNatClampNeg)).toNatClampNeg) = a3 → vp_in (gI s 222 (a6).toNatClampNeg) 60 ∧ vp_in a1 5 ∧ ((¬ (gI s (Lx3 + 2) ((gI s 222 (a6).toNatClampNeg)).toNatClampNeg) = (gI (pI s 220 (a1).toNatClampNeg (gI s 222 (a6).toNatClampNeg)) 218 11) → KI MX11_isIn 0 [.int (gI s (Lx3 + 2) ((gI s 222 (a6).toNatClampNeg)).toNatClampNeg), .int a5] (pI s 220 (a1).toNatClampNeg (gI s 222 (a6).toNatClampNeg)) (fun x19 s18 => ((¬ x19 = 0 → BV MX7_extend (e + 4) 35 [(0, .ref 218), (1, .int a1), (2, .int a2), (3, .int a3), (4, .int a4), (5, .int a5), (6, .int (a6 + 1))] s18 Q) ∧ (x19 = 0 → KV MX7_extend (e + 3) [.ref 218, .int (a1 + (1 : Int32)), .int (gI s (Lx3 + 2) ((gI s 222 (a6).toNatClampNeg)).toNatClampNeg), .int (if a3 < (gI s (Lx5 + 3) ((gI s 222 (a6).toNatClampNeg)).toNatClampNeg) then a3 else (gI s (Lx5 + 3) ((gI s 222 (a6).toNatClampNeg)).toNatClampNeg)), .int (a4 + (gI s 221 ((gI s 222 (a6).toNatClampNeg)).toNatClampNeg)), .int (a5 ||| ((1 : Int32) <<< ((gI s (Lx3 + 2) ((gI s 222 (a6).toNatClampNeg)).toNatClampNeg) &&& 31)))] s18 (fun s20 => BV MX7_extend (e + 4) 35 [(0, .ref 218), (1, .int a1), (2, .int a2), (3, .int a3), (4, .int a4), (5, .int a5), (6, .int (a6 + 1))] s20 Q))))) ∧ ((gI s (Lx3 + 2) ((gI s 222 (a6).toNatClampNeg)).toNatClampNeg) = (gI (pI s 220 (a1).toNatClampNeg (gI s 222 (a6).toNatClampNeg)) 218 11) → KV MX7_offer 1 [.ref 218, .int (a1 + (1 : Int32)), .int (if a3 < (gI s (Lx5 + 3) ((gI s 222 (a6).toNatClampNeg)).toNatClampNeg) then a3 else (gI s (Lx5 + 3) ((gI s 222 (a6).toNatClampNeg)).toNatClampNeg)), .int (a4 + (gI s 221 ((gI s 222 (a6).toNatClampNeg)).toNatClampNeg))] (pI s 220 (a1).toNatClampNeg (gI s 222 (a6).toNatClampNeg)) (fun s23 => BV MX7_extend (e + 4) 35 [(0, .ref 218), (1, .int a1), (2, .int a2), (3, .int a3), (4, .int a4), (5, .int a5), (6, .int (a6 + 1))] s23 Q)))))) ∧ (¬ a3 ≤ (gI s (Lx5 + 3) ((gI s 222 (a6).toNatClampNeg)).toNatClampNeg) → vp_in (gI s 222 (a6).toNatClampNeg) 60 ∧ vp_in a1 5 ∧ ((¬ (gI s (Lx3 + 2) ((gI s 222 (a6).toNatClampNeg)).toNatClampNeg) = (gI (pI s 220 (a1).toNatClampNeg (gI s 222 (a6).toNatClampNeg)) 218 11) → KI MX11_isIn 0 [.int (gI s (Lx3 + 2) ((gI s 222 (a6).toNatClampNeg)).toNatClampNeg), .int a5] (pI s 220 (a1).toNatClampNeg (gI s 222 (a6).toNatClampNeg)) (fun x30 s29 => ((¬ x30 = 0 → BV MX7_extend (e + 4) 35 [(0, .ref 218), (1, .int a1), (2, .int a2), (3, .int a3), (4, .int a4), (5, .int a5), (6, .int (a6 + 1))] s29 Q) ∧ (x30 = 0 → KV MX7_extend (e + 3) [.ref 218, .int (a1 + (1 : Int32)), .int (gI s (Lx3 + 2) ((gI s 222 (a6).toNatClampNeg)).toNatClampNeg), .int (if a3 < (gI s (Lx5 + 3) ((gI s 222 (a6).toNatClampNeg)).toNatClampNeg) then a3 else (gI s (Lx5 + 3) ((gI s 222 (a6).toNatClampNeg)).toNatClampNeg)), .int (gI s 221 ((gI s 222 (a6).toNatClampNeg)).toNatClampNeg), .int (a5 ||| ((1 : Int32) <<< ((gI s (Lx3 + 2) ((gI s 222 (a6).toNatClampNeg)).toNatClampNeg) &&& 31)))] s29 (fun s31 => BV MX7_extend (e + 4) 35 [(0, .ref 218), (1, .int a1), (2, .int a2), (3, .int a3), (4, .int a4), (5, .int a5), (6, .int (a6 + 1))] s31 Q))))) ∧ ((gI s (Lx3 + 2) ((gI s 222 (a6).toNatClampNeg)).toNatClampNeg) = (gI (pI s 220 (a1).toNatClampNeg (gI s 222 (a6).toNatClampNeg)) 218 11) → KV MX7_offer 1 [.ref 218, .int (a1 + (1 : Int32)), .int (if a3 < (gI s (Lx5 + 3) ((gI s 222 (a6).toNatClampNeg)).toNatClampNeg) then a3 else (gI s (Lx5 + 3) ((gI s 222 (a6).toNatClampNeg)).toNatClampNeg)), .int (gI s 221 ((gI s 222 (a6).toNatClampNeg)).toNatClampNeg)] (pI s 220 (a1).toNatClampNeg (gI s 222 (a6).toNatClampNeg)) (fun s34 => BV MX7_extend (e + 4) 35 [(0, .ref 218), (1, .int a1), (2, .int a2), (3, .int a3), (4, .int a4), (5, .int a5), (6, .int (a6 + 1))] s34 Q)))))))) : BV MX7_extend (e + 4) 35 [(0, .ref 218), (1, .int a1), (2, .int a2), (3, .int a3), (4, .int a4), (5, .int a5), (6, .int a6)] s Q := by
  refine JT_iload (q := 6) dX7_extend_35 rfl ?_
  refine JT_aload_n (q := 0) dX7_extend_37 rfl rfl ?_
  refine JS_getR (x := 224) dX7_extend_38 flX7_27 BS_218 (Nat.le_of_ble_eq_true rfl) (Nat.le_of_ble_eq_true rfl) (Or.inr ⟨_, ct_7_10⟩) RF_218_10 ?_
  refine JT_iload_n (q := 2) dX7_extend_41 rfl rfl ?_
  obtain ⟨o1, h⟩ := h
  refine JS_iald dX7_extend_42 BS_224 (Nat.le_of_ble_eq_true rfl) (Nat.le_of_ble_eq_true rfl) o1 ?_
  refine JT_icmp_ge (tgt := 193) dX7_extend_43 (by decide) (fun hc38 => ?_) (fun hc38 => ?_)
  · have h := h.1 hc38
    exact JS_vret dX7_extend_193 rfl h
  · have h := h.2 hc38
    refine JT_aload_n (q := 0) dX7_extend_46 rfl rfl ?_
    refine JS_getR (x := 222) dX7_extend_47 flX7_21 BS_218 (Nat.le_of_ble_eq_true rfl) (Nat.le_of_ble_eq_true rfl) (Or.inr ⟨_, ct_7_8⟩) RF_218_8 ?_
    refine JT_iload (q := 6) dX7_extend_50 rfl ?_
    obtain ⟨o2, h⟩ := h
    refine JS_iald dX7_extend_52 BS_222 (Nat.le_of_ble_eq_true rfl) (Nat.le_of_ble_eq_true rfl) o2 ?_
    refine JT_istore (lv' := [(7, .int (gI s 222 (a6).toNatClampNeg)), (0, .ref 218), (1, .int a1), (2, .int a2), (3, .int a3), (4, .int a4), (5, .int a5), (6, .int a6)]) dX7_extend_53 (Nat.le_of_ble_eq_true rfl) rfl ?_
    refine JT_aload_n (q := 1) dX7_extend_55 rfl rfl ?_
    obtain ⟨Lx3, Px3, hrx3, hLx3, h⟩ := h
    refine JS_getR dX7_extend_56 flX7_40 BS_218 (Nat.le_of_ble_eq_true rfl) (Nat.le_of_ble_eq_true rfl) (Or.inl ⟨_, ct_7_4⟩) (RF_218_4.trans hrx3) ?_
    refine JS_getR (x := (Lx3 + 2)) dX7_extend_59 flX7_101 (lxB hLx3) (lx2 hLx3) (lxN hLx3) (Or.inr ⟨_, ct_4_1⟩) (lxR1 hLx3) ?_
    refine JT_iload (q := 0) dX7_extend_62 rfl ?_
    obtain ⟨o4, h⟩ := h
    refine JS_iald dX7_extend_64 (lxB2 hLx3) (lx2k hLx3 _) (lxNk hLx3 (Nat.le_of_ble_eq_true rfl)) o4 ?_
    refine JT_istore (lv' := [(8, .int (gI s (Lx3 + 2) ((gI s 222 (a6).toNatClampNeg)).toNatClampNeg)), (7, .int (gI s 222 (a6).toNatClampNeg)), (0, .ref 218), (1, .int a1), (2, .int a2), (3, .int a3), (4, .int a4), (5, .int a5), (6, .int a6)]) dX7_extend_65 (Nat.le_of_ble_eq_true rfl) rfl ?_
    refine JT_aload_n (q := 2) dX7_extend_67 rfl rfl ?_
    obtain ⟨Lx5, Px5, hrx5, hLx5, h⟩ := h
    refine JS_getR dX7_extend_68 flX7_40 BS_218 (Nat.le_of_ble_eq_true rfl) (Nat.le_of_ble_eq_true rfl) (Or.inl ⟨_, ct_7_4⟩) (RF_218_4.trans hrx5) ?_
    refine JS_getR (x := (Lx5 + 3)) dX7_extend_71 flX7_104 (lxB hLx5) (lx2 hLx5) (lxN hLx5) (Or.inr ⟨_, ct_4_2⟩) (lxR2 hLx5) ?_
    refine JT_iload (q := 1) dX7_extend_74 rfl ?_
    obtain ⟨o6, h⟩ := h
    refine JS_iald dX7_extend_76 (lxB3 hLx5) (lx2k hLx5 _) (lxNk hLx5 (Nat.le_of_ble_eq_true rfl)) o6 ?_
    refine JT_istore (lv' := [(9, .int (gI s (Lx5 + 3) ((gI s 222 (a6).toNatClampNeg)).toNatClampNeg)), (8, .int (gI s (Lx3 + 2) ((gI s 222 (a6).toNatClampNeg)).toNatClampNeg)), (7, .int (gI s 222 (a6).toNatClampNeg)), (0, .ref 218), (1, .int a1), (2, .int a2), (3, .int a3), (4, .int a4), (5, .int a5), (6, .int a6)]) dX7_extend_77 (Nat.le_of_ble_eq_true rfl) rfl ?_
    refine JT_iload (q := 0) dX7_extend_79 rfl ?_
    refine JT_iload_n (q := 6) dX7_extend_81 rfl rfl ?_
    refine JT_icmp_ge (tgt := 95) dX7_extend_82 (by decide) (fun hc37 => ?_) (fun hc37 => ?_)
    · have h := h.1 hc37
      refine JT_iload (q := 0) dX7_extend_95 rfl ?_
      refine JT_iload_n (q := 6) dX7_extend_97 rfl rfl ?_
      refine JT_icmp_ne (tgt := 114) dX7_extend_98 (by decide) (fun hc26 => ?_) (fun hc26 => ?_)
      · have h := h.1 hc26
        refine JT_iload (q := 7) dX7_extend_114 rfl ?_
        refine JT_istore (lv' := [(10, .int a4), (9, .int (gI s (Lx5 + 3) ((gI s 222 (a6).toNatClampNeg)).toNatClampNeg)), (8, .int (gI s (Lx3 + 2) ((gI s 222 (a6).toNatClampNeg)).toNatClampNeg)), (7, .int (gI s 222 (a6).toNatClampNeg)), (0, .ref 218), (1, .int a1), (2, .int a2), (3, .int a3), (4, .int a4), (5, .int a5), (6, .int a6)]) dX7_extend_116 (Nat.le_of_ble_eq_true rfl) rfl ?_
        refine JT_aload_n (q := 4) dX7_extend_118 rfl rfl ?_
        refine JS_getR (x := 220) dX7_extend_119 flX7_15 BS_218 (Nat.le_of_ble_eq_true rfl) (Nat.le_of_ble_eq_true rfl) (Or.inr ⟨_, ct_7_5⟩) RF_218_5 ?_
        refine JT_iload_n (q := 5) dX7_extend_122 rfl rfl ?_
        refine JT_iload (q := 3) dX7_extend_123 rfl ?_
        obtain ⟨o7, h⟩ := h
        refine JS_iast dX7_extend_125 BS_220 (Nat.le_of_ble_eq_true rfl) (Nat.le_of_ble_eq_true rfl) o7 ?_
        refine JT_iload (q := 2) dX7_extend_126 rfl ?_
        refine JT_aload_n (q := 4) dX7_extend_128 rfl rfl ?_
        refine JS_getI dX7_extend_129 flX7_98 BS_218 (Nat.le_of_ble_eq_true rfl) (Nat.le_of_ble_eq_true rfl) (Or.inl ct_7_11) ?_
        refine JT_icmp_ne (tgt := 153) dX7_extend_132 (by decide) (fun hc15 => ?_) (fun hc15 => ?_)
        · have h := h.1 hc15
          refine JT_iload (q := 2) dX7_extend_153 rfl ?_
          refine JT_iload (q := 9) dX7_extend_155 rfl ?_
          refine JS_callSNI (M' := MX11_isIn) (d' := 0) (As := [.int (gI s (Lx3 + 2) ((gI s 222 (a6).toNatClampNeg)).toNatClampNeg), .int a5]) (rest := []) dX7_extend_157 cvX7_122 okX11_isIn rfl (Nat.le_of_ble_eq_true rfl) (Nat.le_of_ble_eq_true rfl) (by show 0 + 1 ≤ e + 4; omega) h (fun x9 s8 h => ?_)
          refine JT_if_ne (tgt := 187) dX7_extend_160 (by decide) (fun hc12 => ?_) (fun hc12 => ?_)
          · have h := h.1 hc12
            refine JT_iinc (q := 10) (v := (a6 + 1)) (lv' := [(6, .int (a6 + 1)), (10, .int a4), (9, .int (gI s (Lx5 + 3) ((gI s 222 (a6).toNatClampNeg)).toNatClampNeg)), (8, .int (gI s (Lx3 + 2) ((gI s 222 (a6).toNatClampNeg)).toNatClampNeg)), (7, .int (gI s 222 (a6).toNatClampNeg)), (0, .ref 218), (1, .int a1), (2, .int a2), (3, .int a3), (4, .int a4), (5, .int a5)]) dX7_extend_187 rfl (by rfl) (Nat.le_of_ble_eq_true rfl) rfl ?_
            refine JT_goto (tgt := 35) dX7_extend_190 (by decide) ?_
            exact JT_sub [5, 6, 7, 8, 9, 10, 0] rfl h
          · have h := h.2 hc12
            refine JT_aload_n (q := 4) dX7_extend_163 rfl rfl ?_
            refine JT_iload_n (q := 5) dX7_extend_164 rfl rfl ?_
            refine JT_iconst (v := 1) dX7_extend_165 ic_1 ?_
            refine JT_iadd dX7_extend_166 ?_
            refine JT_iload (q := 2) dX7_extend_167 rfl ?_
            refine JT_iload (q := 1) dX7_extend_169 rfl ?_
            refine JT_iload_n (q := 7) dX7_extend_171 rfl rfl ?_
            refine JT_mmin (d2 := e + 3) dX7_extend_172 mlX7_115 (Nat.le_of_ble_eq_true rfl) rfl ?_
            refine JT_iload (q := 0) dX7_extend_175 rfl ?_
            refine JT_iload (q := 9) dX7_extend_177 rfl ?_
            refine JT_iconst (v := 1) dX7_extend_179 ic_1 ?_
            refine JT_iload (q := 2) dX7_extend_180 rfl ?_
            refine JT_ishl dX7_extend_182 ?_
            refine JT_ior dX7_extend_183 ?_
            refine JS_callVV (M' := MX7_extend) (d' := e + 3) (As := [.int (a1 + (1 : Int32)), .int (gI s (Lx3 + 2) ((gI s 222 (a6).toNatClampNeg)).toNatClampNeg), .int (if a3 < (gI s (Lx5 + 3) ((gI s 222 (a6).toNatClampNeg)).toNatClampNeg) then a3 else (gI s (Lx5 + 3) ((gI s 222 (a6).toNatClampNeg)).toNatClampNeg)), .int a4, .int (a5 ||| ((1 : Int32) <<< ((gI s (Lx3 + 2) ((gI s 222 (a6).toNatClampNeg)).toNatClampNeg) &&& 31)))]) (rest := []) dX7_extend_184 cvX7_107 okX7_extend rfl (Nat.le_of_ble_eq_true rfl) BS_218 (Nat.le_of_ble_eq_true rfl) (Nat.le_of_ble_eq_true rfl) hci_7 (Nat.le_of_ble_eq_true rfl) (by show e + 3 + 1 ≤ e + 4; omega) h (fun s10 h => ?_)
            refine JT_iinc (q := 10) (v := (a6 + 1)) (lv' := [(6, .int (a6 + 1)), (10, .int a4), (9, .int (gI s (Lx5 + 3) ((gI s 222 (a6).toNatClampNeg)).toNatClampNeg)), (8, .int (gI s (Lx3 + 2) ((gI s 222 (a6).toNatClampNeg)).toNatClampNeg)), (7, .int (gI s 222 (a6).toNatClampNeg)), (0, .ref 218), (1, .int a1), (2, .int a2), (3, .int a3), (4, .int a4), (5, .int a5)]) dX7_extend_187 rfl (by rfl) (Nat.le_of_ble_eq_true rfl) rfl ?_
            refine JT_goto (tgt := 35) dX7_extend_190 (by decide) ?_
            exact JT_sub [5, 6, 7, 8, 9, 10, 0] rfl h
        · have h := h.2 hc15
          refine JT_aload_n (q := 4) dX7_extend_135 rfl rfl ?_
          refine JT_iload_n (q := 5) dX7_extend_136 rfl rfl ?_
          refine JT_iconst (v := 1) dX7_extend_137 ic_1 ?_
          refine JT_iadd dX7_extend_138 ?_
          refine JT_iload (q := 1) dX7_extend_139 rfl ?_
          refine JT_iload_n (q := 7) dX7_extend_141 rfl rfl ?_
          refine JT_mmin (d2 := e + 3) dX7_extend_142 mlX7_115 (Nat.le_of_ble_eq_true rfl) rfl ?_
          refine JT_iload (q := 0) dX7_extend_145 rfl ?_
          refine JS_callVV (M' := MX7_offer) (d' := 1) (As := [.int (a1 + (1 : Int32)), .int (if a3 < (gI s (Lx5 + 3) ((gI s 222 (a6).toNatClampNeg)).toNatClampNeg) then a3 else (gI s (Lx5 + 3) ((gI s 222 (a6).toNatClampNeg)).toNatClampNeg)), .int a4]) (rest := []) dX7_extend_147 cvX7_118 okX7_offer rfl (Nat.le_of_ble_eq_true rfl) BS_218 (Nat.le_of_ble_eq_true rfl) (Nat.le_of_ble_eq_true rfl) hci_7 (Nat.le_of_ble_eq_true rfl) (by show 1 + 1 ≤ e + 4; omega) h (fun s13 h => ?_)
          refine JT_goto (tgt := 187) dX7_extend_150 (by decide) ?_
          refine JT_iinc (q := 10) (v := (a6 + 1)) (lv' := [(6, .int (a6 + 1)), (10, .int a4), (9, .int (gI s (Lx5 + 3) ((gI s 222 (a6).toNatClampNeg)).toNatClampNeg)), (8, .int (gI s (Lx3 + 2) ((gI s 222 (a6).toNatClampNeg)).toNatClampNeg)), (7, .int (gI s 222 (a6).toNatClampNeg)), (0, .ref 218), (1, .int a1), (2, .int a2), (3, .int a3), (4, .int a4), (5, .int a5)]) dX7_extend_187 rfl (by rfl) (Nat.le_of_ble_eq_true rfl) rfl ?_
          refine JT_goto (tgt := 35) dX7_extend_190 (by decide) ?_
          exact JT_sub [5, 6, 7, 8, 9, 10, 0] rfl h
      · have h := h.2 hc26
        refine JT_iload (q := 7) dX7_extend_101 rfl ?_
        refine JT_aload_n (q := 3) dX7_extend_103 rfl rfl ?_
        refine JS_getR (x := 221) dX7_extend_104 flX7_18 BS_218 (Nat.le_of_ble_eq_true rfl) (Nat.le_of_ble_eq_true rfl) (Or.inr ⟨_, ct_7_6⟩) RF_218_6 ?_
        refine JT_iload (q := 2) dX7_extend_107 rfl ?_
        obtain ⟨o16, h⟩ := h
        refine JS_iald dX7_extend_109 BS_221 (Nat.le_of_ble_eq_true rfl) (Nat.le_of_ble_eq_true rfl) o16 ?_
        refine JT_iadd dX7_extend_110 ?_
        refine JT_goto (tgt := 116) dX7_extend_111 (by decide) ?_
        refine JT_istore (lv' := [(10, .int (a4 + (gI s 221 ((gI s 222 (a6).toNatClampNeg)).toNatClampNeg))), (9, .int (gI s (Lx5 + 3) ((gI s 222 (a6).toNatClampNeg)).toNatClampNeg)), (8, .int (gI s (Lx3 + 2) ((gI s 222 (a6).toNatClampNeg)).toNatClampNeg)), (7, .int (gI s 222 (a6).toNatClampNeg)), (0, .ref 218), (1, .int a1), (2, .int a2), (3, .int a3), (4, .int a4), (5, .int a5), (6, .int a6)]) dX7_extend_116 (Nat.le_of_ble_eq_true rfl) rfl ?_
        refine JT_aload_n (q := 4) dX7_extend_118 rfl rfl ?_
        refine JS_getR (x := 220) dX7_extend_119 flX7_15 BS_218 (Nat.le_of_ble_eq_true rfl) (Nat.le_of_ble_eq_true rfl) (Or.inr ⟨_, ct_7_5⟩) RF_218_5 ?_
        refine JT_iload_n (q := 5) dX7_extend_122 rfl rfl ?_
        refine JT_iload (q := 3) dX7_extend_123 rfl ?_
        obtain ⟨o17, h⟩ := h
        refine JS_iast dX7_extend_125 BS_220 (Nat.le_of_ble_eq_true rfl) (Nat.le_of_ble_eq_true rfl) o17 ?_
        refine JT_iload (q := 2) dX7_extend_126 rfl ?_
        refine JT_aload_n (q := 4) dX7_extend_128 rfl rfl ?_
        refine JS_getI dX7_extend_129 flX7_98 BS_218 (Nat.le_of_ble_eq_true rfl) (Nat.le_of_ble_eq_true rfl) (Or.inl ct_7_11) ?_
        refine JT_icmp_ne (tgt := 153) dX7_extend_132 (by decide) (fun hc25 => ?_) (fun hc25 => ?_)
        · have h := h.1 hc25
          refine JT_iload (q := 2) dX7_extend_153 rfl ?_
          refine JT_iload (q := 9) dX7_extend_155 rfl ?_
          refine JS_callSNI (M' := MX11_isIn) (d' := 0) (As := [.int (gI s (Lx3 + 2) ((gI s 222 (a6).toNatClampNeg)).toNatClampNeg), .int a5]) (rest := []) dX7_extend_157 cvX7_122 okX11_isIn rfl (Nat.le_of_ble_eq_true rfl) (Nat.le_of_ble_eq_true rfl) (by show 0 + 1 ≤ e + 4; omega) h (fun x19 s18 h => ?_)
          refine JT_if_ne (tgt := 187) dX7_extend_160 (by decide) (fun hc22 => ?_) (fun hc22 => ?_)
          · have h := h.1 hc22
            refine JT_iinc (q := 10) (v := (a6 + 1)) (lv' := [(6, .int (a6 + 1)), (10, .int (a4 + (gI s 221 ((gI s 222 (a6).toNatClampNeg)).toNatClampNeg))), (9, .int (gI s (Lx5 + 3) ((gI s 222 (a6).toNatClampNeg)).toNatClampNeg)), (8, .int (gI s (Lx3 + 2) ((gI s 222 (a6).toNatClampNeg)).toNatClampNeg)), (7, .int (gI s 222 (a6).toNatClampNeg)), (0, .ref 218), (1, .int a1), (2, .int a2), (3, .int a3), (4, .int a4), (5, .int a5)]) dX7_extend_187 rfl (by rfl) (Nat.le_of_ble_eq_true rfl) rfl ?_
            refine JT_goto (tgt := 35) dX7_extend_190 (by decide) ?_
            exact JT_sub [5, 6, 7, 8, 9, 10, 0] rfl h
          · have h := h.2 hc22
            refine JT_aload_n (q := 4) dX7_extend_163 rfl rfl ?_
            refine JT_iload_n (q := 5) dX7_extend_164 rfl rfl ?_
            refine JT_iconst (v := 1) dX7_extend_165 ic_1 ?_
            refine JT_iadd dX7_extend_166 ?_
            refine JT_iload (q := 2) dX7_extend_167 rfl ?_
            refine JT_iload (q := 1) dX7_extend_169 rfl ?_
            refine JT_iload_n (q := 7) dX7_extend_171 rfl rfl ?_
            refine JT_mmin (d2 := e + 3) dX7_extend_172 mlX7_115 (Nat.le_of_ble_eq_true rfl) rfl ?_
            refine JT_iload (q := 0) dX7_extend_175 rfl ?_
            refine JT_iload (q := 9) dX7_extend_177 rfl ?_
            refine JT_iconst (v := 1) dX7_extend_179 ic_1 ?_
            refine JT_iload (q := 2) dX7_extend_180 rfl ?_
            refine JT_ishl dX7_extend_182 ?_
            refine JT_ior dX7_extend_183 ?_
            refine JS_callVV (M' := MX7_extend) (d' := e + 3) (As := [.int (a1 + (1 : Int32)), .int (gI s (Lx3 + 2) ((gI s 222 (a6).toNatClampNeg)).toNatClampNeg), .int (if a3 < (gI s (Lx5 + 3) ((gI s 222 (a6).toNatClampNeg)).toNatClampNeg) then a3 else (gI s (Lx5 + 3) ((gI s 222 (a6).toNatClampNeg)).toNatClampNeg)), .int (a4 + (gI s 221 ((gI s 222 (a6).toNatClampNeg)).toNatClampNeg)), .int (a5 ||| ((1 : Int32) <<< ((gI s (Lx3 + 2) ((gI s 222 (a6).toNatClampNeg)).toNatClampNeg) &&& 31)))]) (rest := []) dX7_extend_184 cvX7_107 okX7_extend rfl (Nat.le_of_ble_eq_true rfl) BS_218 (Nat.le_of_ble_eq_true rfl) (Nat.le_of_ble_eq_true rfl) hci_7 (Nat.le_of_ble_eq_true rfl) (by show e + 3 + 1 ≤ e + 4; omega) h (fun s20 h => ?_)
            refine JT_iinc (q := 10) (v := (a6 + 1)) (lv' := [(6, .int (a6 + 1)), (10, .int (a4 + (gI s 221 ((gI s 222 (a6).toNatClampNeg)).toNatClampNeg))), (9, .int (gI s (Lx5 + 3) ((gI s 222 (a6).toNatClampNeg)).toNatClampNeg)), (8, .int (gI s (Lx3 + 2) ((gI s 222 (a6).toNatClampNeg)).toNatClampNeg)), (7, .int (gI s 222 (a6).toNatClampNeg)), (0, .ref 218), (1, .int a1), (2, .int a2), (3, .int a3), (4, .int a4), (5, .int a5)]) dX7_extend_187 rfl (by rfl) (Nat.le_of_ble_eq_true rfl) rfl ?_
            refine JT_goto (tgt := 35) dX7_extend_190 (by decide) ?_
            exact JT_sub [5, 6, 7, 8, 9, 10, 0] rfl h
        · have h := h.2 hc25
          refine JT_aload_n (q := 4) dX7_extend_135 rfl rfl ?_
          refine JT_iload_n (q := 5) dX7_extend_136 rfl rfl ?_
          refine JT_iconst (v := 1) dX7_extend_137 ic_1 ?_
          refine JT_iadd dX7_extend_138 ?_
          refine JT_iload (q := 1) dX7_extend_139 rfl ?_
          refine JT_iload_n (q := 7) dX7_extend_141 rfl rfl ?_
          refine JT_mmin (d2 := e + 3) dX7_extend_142 mlX7_115 (Nat.le_of_ble_eq_true rfl) rfl ?_
          refine JT_iload (q := 0) dX7_extend_145 rfl ?_
          refine JS_callVV (M' := MX7_offer) (d' := 1) (As := [.int (a1 + (1 : Int32)), .int (if a3 < (gI s (Lx5 + 3) ((gI s 222 (a6).toNatClampNeg)).toNatClampNeg) then a3 else (gI s (Lx5 + 3) ((gI s 222 (a6).toNatClampNeg)).toNatClampNeg)), .int (a4 + (gI s 221 ((gI s 222 (a6).toNatClampNeg)).toNatClampNeg))]) (rest := []) dX7_extend_147 cvX7_118 okX7_offer rfl (Nat.le_of_ble_eq_true rfl) BS_218 (Nat.le_of_ble_eq_true rfl) (Nat.le_of_ble_eq_true rfl) hci_7 (Nat.le_of_ble_eq_true rfl) (by show 1 + 1 ≤ e + 4; omega) h (fun s23 h => ?_)
          refine JT_goto (tgt := 187) dX7_extend_150 (by decide) ?_
          refine JT_iinc (q := 10) (v := (a6 + 1)) (lv' := [(6, .int (a6 + 1)), (10, .int (a4 + (gI s 221 ((gI s 222 (a6).toNatClampNeg)).toNatClampNeg))), (9, .int (gI s (Lx5 + 3) ((gI s 222 (a6).toNatClampNeg)).toNatClampNeg)), (8, .int (gI s (Lx3 + 2) ((gI s 222 (a6).toNatClampNeg)).toNatClampNeg)), (7, .int (gI s 222 (a6).toNatClampNeg)), (0, .ref 218), (1, .int a1), (2, .int a2), (3, .int a3), (4, .int a4), (5, .int a5)]) dX7_extend_187 rfl (by rfl) (Nat.le_of_ble_eq_true rfl) rfl ?_
          refine JT_goto (tgt := 35) dX7_extend_190 (by decide) ?_
          exact JT_sub [5, 6, 7, 8, 9, 10, 0] rfl h
    · have h := h.2 hc37
      refine JT_aload_n (q := 3) dX7_extend_85 rfl rfl ?_
      refine JS_getR (x := 221) dX7_extend_86 flX7_18 BS_218 (Nat.le_of_ble_eq_true rfl) (Nat.le_of_ble_eq_true rfl) (Or.inr ⟨_, ct_7_6⟩) RF_218_6 ?_
      refine JT_iload (q := 2) dX7_extend_89 rfl ?_
      obtain ⟨o27, h⟩ := h
      refine JS_iald dX7_extend_91 BS_221 (Nat.le_of_ble_eq_true rfl) (Nat.le_of_ble_eq_true rfl) o27 ?_
      refine JT_goto (tgt := 116) dX7_extend_92 (by decide) ?_
      refine JT_istore (lv' := [(10, .int (gI s 221 ((gI s 222 (a6).toNatClampNeg)).toNatClampNeg)), (9, .int (gI s (Lx5 + 3) ((gI s 222 (a6).toNatClampNeg)).toNatClampNeg)), (8, .int (gI s (Lx3 + 2) ((gI s 222 (a6).toNatClampNeg)).toNatClampNeg)), (7, .int (gI s 222 (a6).toNatClampNeg)), (0, .ref 218), (1, .int a1), (2, .int a2), (3, .int a3), (4, .int a4), (5, .int a5), (6, .int a6)]) dX7_extend_116 (Nat.le_of_ble_eq_true rfl) rfl ?_
      refine JT_aload_n (q := 4) dX7_extend_118 rfl rfl ?_
      refine JS_getR (x := 220) dX7_extend_119 flX7_15 BS_218 (Nat.le_of_ble_eq_true rfl) (Nat.le_of_ble_eq_true rfl) (Or.inr ⟨_, ct_7_5⟩) RF_218_5 ?_
      refine JT_iload_n (q := 5) dX7_extend_122 rfl rfl ?_
      refine JT_iload (q := 3) dX7_extend_123 rfl ?_
      obtain ⟨o28, h⟩ := h
      refine JS_iast dX7_extend_125 BS_220 (Nat.le_of_ble_eq_true rfl) (Nat.le_of_ble_eq_true rfl) o28 ?_
      refine JT_iload (q := 2) dX7_extend_126 rfl ?_
      refine JT_aload_n (q := 4) dX7_extend_128 rfl rfl ?_
      refine JS_getI dX7_extend_129 flX7_98 BS_218 (Nat.le_of_ble_eq_true rfl) (Nat.le_of_ble_eq_true rfl) (Or.inl ct_7_11) ?_
      refine JT_icmp_ne (tgt := 153) dX7_extend_132 (by decide) (fun hc36 => ?_) (fun hc36 => ?_)
      · have h := h.1 hc36
        refine JT_iload (q := 2) dX7_extend_153 rfl ?_
        refine JT_iload (q := 9) dX7_extend_155 rfl ?_
        refine JS_callSNI (M' := MX11_isIn) (d' := 0) (As := [.int (gI s (Lx3 + 2) ((gI s 222 (a6).toNatClampNeg)).toNatClampNeg), .int a5]) (rest := []) dX7_extend_157 cvX7_122 okX11_isIn rfl (Nat.le_of_ble_eq_true rfl) (Nat.le_of_ble_eq_true rfl) (by show 0 + 1 ≤ e + 4; omega) h (fun x30 s29 h => ?_)
        refine JT_if_ne (tgt := 187) dX7_extend_160 (by decide) (fun hc33 => ?_) (fun hc33 => ?_)
        · have h := h.1 hc33
          refine JT_iinc (q := 10) (v := (a6 + 1)) (lv' := [(6, .int (a6 + 1)), (10, .int (gI s 221 ((gI s 222 (a6).toNatClampNeg)).toNatClampNeg)), (9, .int (gI s (Lx5 + 3) ((gI s 222 (a6).toNatClampNeg)).toNatClampNeg)), (8, .int (gI s (Lx3 + 2) ((gI s 222 (a6).toNatClampNeg)).toNatClampNeg)), (7, .int (gI s 222 (a6).toNatClampNeg)), (0, .ref 218), (1, .int a1), (2, .int a2), (3, .int a3), (4, .int a4), (5, .int a5)]) dX7_extend_187 rfl (by rfl) (Nat.le_of_ble_eq_true rfl) rfl ?_
          refine JT_goto (tgt := 35) dX7_extend_190 (by decide) ?_
          exact JT_sub [5, 6, 7, 8, 9, 10, 0] rfl h
        · have h := h.2 hc33
          refine JT_aload_n (q := 4) dX7_extend_163 rfl rfl ?_
          refine JT_iload_n (q := 5) dX7_extend_164 rfl rfl ?_
          refine JT_iconst (v := 1) dX7_extend_165 ic_1 ?_
          refine JT_iadd dX7_extend_166 ?_
          refine JT_iload (q := 2) dX7_extend_167 rfl ?_
          refine JT_iload (q := 1) dX7_extend_169 rfl ?_
          refine JT_iload_n (q := 7) dX7_extend_171 rfl rfl ?_
          refine JT_mmin (d2 := e + 3) dX7_extend_172 mlX7_115 (Nat.le_of_ble_eq_true rfl) rfl ?_
          refine JT_iload (q := 0) dX7_extend_175 rfl ?_
          refine JT_iload (q := 9) dX7_extend_177 rfl ?_
          refine JT_iconst (v := 1) dX7_extend_179 ic_1 ?_
          refine JT_iload (q := 2) dX7_extend_180 rfl ?_
          refine JT_ishl dX7_extend_182 ?_
          refine JT_ior dX7_extend_183 ?_
          refine JS_callVV (M' := MX7_extend) (d' := e + 3) (As := [.int (a1 + (1 : Int32)), .int (gI s (Lx3 + 2) ((gI s 222 (a6).toNatClampNeg)).toNatClampNeg), .int (if a3 < (gI s (Lx5 + 3) ((gI s 222 (a6).toNatClampNeg)).toNatClampNeg) then a3 else (gI s (Lx5 + 3) ((gI s 222 (a6).toNatClampNeg)).toNatClampNeg)), .int (gI s 221 ((gI s 222 (a6).toNatClampNeg)).toNatClampNeg), .int (a5 ||| ((1 : Int32) <<< ((gI s (Lx3 + 2) ((gI s 222 (a6).toNatClampNeg)).toNatClampNeg) &&& 31)))]) (rest := []) dX7_extend_184 cvX7_107 okX7_extend rfl (Nat.le_of_ble_eq_true rfl) BS_218 (Nat.le_of_ble_eq_true rfl) (Nat.le_of_ble_eq_true rfl) hci_7 (Nat.le_of_ble_eq_true rfl) (by show e + 3 + 1 ≤ e + 4; omega) h (fun s31 h => ?_)
          refine JT_iinc (q := 10) (v := (a6 + 1)) (lv' := [(6, .int (a6 + 1)), (10, .int (gI s 221 ((gI s 222 (a6).toNatClampNeg)).toNatClampNeg)), (9, .int (gI s (Lx5 + 3) ((gI s 222 (a6).toNatClampNeg)).toNatClampNeg)), (8, .int (gI s (Lx3 + 2) ((gI s 222 (a6).toNatClampNeg)).toNatClampNeg)), (7, .int (gI s 222 (a6).toNatClampNeg)), (0, .ref 218), (1, .int a1), (2, .int a2), (3, .int a3), (4, .int a4), (5, .int a5)]) dX7_extend_187 rfl (by rfl) (Nat.le_of_ble_eq_true rfl) rfl ?_
          refine JT_goto (tgt := 35) dX7_extend_190 (by decide) ?_
          exact JT_sub [5, 6, 7, 8, 9, 10, 0] rfl h
      · have h := h.2 hc36
        refine JT_aload_n (q := 4) dX7_extend_135 rfl rfl ?_
        refine JT_iload_n (q := 5) dX7_extend_136 rfl rfl ?_
        refine JT_iconst (v := 1) dX7_extend_137 ic_1 ?_
        refine JT_iadd dX7_extend_138 ?_
        refine JT_iload (q := 1) dX7_extend_139 rfl ?_
        refine JT_iload_n (q := 7) dX7_extend_141 rfl rfl ?_
        refine JT_mmin (d2 := e + 3) dX7_extend_142 mlX7_115 (Nat.le_of_ble_eq_true rfl) rfl ?_
        refine JT_iload (q := 0) dX7_extend_145 rfl ?_
        refine JS_callVV (M' := MX7_offer) (d' := 1) (As := [.int (a1 + (1 : Int32)), .int (if a3 < (gI s (Lx5 + 3) ((gI s 222 (a6).toNatClampNeg)).toNatClampNeg) then a3 else (gI s (Lx5 + 3) ((gI s 222 (a6).toNatClampNeg)).toNatClampNeg)), .int (gI s 221 ((gI s 222 (a6).toNatClampNeg)).toNatClampNeg)]) (rest := []) dX7_extend_147 cvX7_118 okX7_offer rfl (Nat.le_of_ble_eq_true rfl) BS_218 (Nat.le_of_ble_eq_true rfl) (Nat.le_of_ble_eq_true rfl) hci_7 (Nat.le_of_ble_eq_true rfl) (by show 1 + 1 ≤ e + 4; omega) h (fun s34 h => ?_)
        refine JT_goto (tgt := 187) dX7_extend_150 (by decide) ?_
        refine JT_iinc (q := 10) (v := (a6 + 1)) (lv' := [(6, .int (a6 + 1)), (10, .int (gI s 221 ((gI s 222 (a6).toNatClampNeg)).toNatClampNeg)), (9, .int (gI s (Lx5 + 3) ((gI s 222 (a6).toNatClampNeg)).toNatClampNeg)), (8, .int (gI s (Lx3 + 2) ((gI s 222 (a6).toNatClampNeg)).toNatClampNeg)), (7, .int (gI s 222 (a6).toNatClampNeg)), (0, .ref 218), (1, .int a1), (2, .int a2), (3, .int a3), (4, .int a4), (5, .int a5)]) dX7_extend_187 rfl (by rfl) (Nat.le_of_ble_eq_true rfl) rfl ?_
        refine JT_goto (tgt := 35) dX7_extend_190 (by decide) ?_
        exact JT_sub [5, 6, 7, 8, 9, 10, 0] rfl h
set_option maxRecDepth 20000 in
theorem bX7_extend {e : Nat} (a1 : Int32) (a2 : Int32) (a3 : Int32) (a4 : Int32) (a5 : Int32) {s : SM} {Q : SM → Prop} (h : (((5 : Int32) ≤ a1 → Q s) ∧ (¬ (5 : Int32) ≤ a1 → KI MX7_isBetter 0 [.ref 218, .int (a1 + (1 : Int32)), .int (a4 + (((5 : Int32) - a1) * (gI s 218 7)))] s (fun x2 s1 => ((¬ x2 = 0 → vp_in a2 9 ∧ BV MX7_extend (e + 4) 35 [(0, .ref 218), (1, .int a1), (2, .int a2), (3, .int a3), (4, .int a4), (5, .int a5), (6, .int (gI s1 223 (a2).toNatClampNeg))] s1 Q) ∧ (x2 = 0 → Q s1)))))) : KV MX7_extend (e + 4) [.ref 218, .int a1, .int a2, .int a3, .int a4, .int a5] s Q := by
  show BV MX7_extend (e + 4) 0 [(0, .ref 218), (1, .int a1), (2, .int a2), (3, .int a3), (4, .int a4), (5, .int a5)] s Q
  refine JT_iload_n (q := 1) dX7_extend_0 rfl rfl ?_
  refine JT_iconst (v := 5) dX7_extend_1 ic_5 ?_
  refine JT_icmp_ge (tgt := 26) dX7_extend_2 (by decide) (fun hc5 => ?_) (fun hc5 => ?_)
  · have h := h.1 hc5
    exact JS_vret dX7_extend_26 rfl h
  · have h := h.2 hc5
    refine JT_aload_n (q := 0) dX7_extend_5 rfl rfl ?_
    refine JT_iload_n (q := 1) dX7_extend_6 rfl rfl ?_
    refine JT_iconst (v := 1) dX7_extend_7 ic_1 ?_
    refine JT_iadd dX7_extend_8 ?_
    refine JT_iload (q := 4) dX7_extend_9 rfl ?_
    refine JT_iconst (v := 5) dX7_extend_11 ic_5 ?_
    refine JT_iload_n (q := 1) dX7_extend_12 rfl rfl ?_
    refine JT_isub dX7_extend_13 ?_
    refine JT_aload_n (q := 0) dX7_extend_14 rfl rfl ?_
    refine JS_getI dX7_extend_15 flX7_85 BS_218 (Nat.le_of_ble_eq_true rfl) (Nat.le_of_ble_eq_true rfl) (Or.inl ct_7_7) ?_
    refine JT_imul dX7_extend_18 ?_
    refine JT_iadd dX7_extend_19 ?_
    refine JS_callVI (M' := MX7_isBetter) (d' := 0) (As := [.int (a1 + (1 : Int32)), .int (a4 + (((5 : Int32) - a1) * (gI s 218 7)))]) (rest := []) dX7_extend_20 cvX7_111 okX7_isBetter rfl (Nat.le_of_ble_eq_true rfl) BS_218 (Nat.le_of_ble_eq_true rfl) (Nat.le_of_ble_eq_true rfl) hci_7 (Nat.le_of_ble_eq_true rfl) (by show 0 + 1 ≤ e + 4; omega) h (fun x2 s1 h => ?_)
    refine JT_if_ne (tgt := 27) dX7_extend_23 (by decide) (fun hc4 => ?_) (fun hc4 => ?_)
    · have h := h.1 hc4
      refine JT_aload_n (q := 0) dX7_extend_27 rfl rfl ?_
      refine JS_getR (x := 223) dX7_extend_28 flX7_24 BS_218 (Nat.le_of_ble_eq_true rfl) (Nat.le_of_ble_eq_true rfl) (Or.inr ⟨_, ct_7_9⟩) RF_218_9 ?_
      refine JT_iload_n (q := 2) dX7_extend_31 rfl rfl ?_
      obtain ⟨o3, h⟩ := h
      refine JS_iald dX7_extend_32 BS_223 (Nat.le_of_ble_eq_true rfl) (Nat.le_of_ble_eq_true rfl) o3 ?_
      refine JT_istore (lv' := [(6, .int (gI s1 223 (a2).toNatClampNeg)), (0, .ref 218), (1, .int a1), (2, .int a2), (3, .int a3), (4, .int a4), (5, .int a5)]) dX7_extend_33 (Nat.le_of_ble_eq_true rfl) rfl ?_
      exact JT_sub [1, 2, 3, 4, 5, 6, 0] rfl h
    · have h := h.2 hc4
      exact JS_vret dX7_extend_26 rfl h
set_option maxRecDepth 20000 in
theorem bX1_search (a1 : Int32) {s : SM} {Q : Int32 → SM → Prop} (h : (((gI (pI (pI (pI s 233 8 a1) 233 9 (0 : Int32)) 233 7 (gI (pI (pI s 233 8 a1) 233 9 (0 : Int32)) 233 6)) 233 10) = 0 → Q (gI (pI (pI (pI s 233 8 a1) 233 9 (0 : Int32)) 233 7 (gI (pI (pI s 233 8 a1) 233 9 (0 : Int32)) 233 6)) 233 9) (pI (pI (pI s 233 8 a1) 233 9 (0 : Int32)) 233 7 (gI (pI (pI s 233 8 a1) 233 9 (0 : Int32)) 233 6))) ∧ (¬ (gI (pI (pI (pI s 233 8 a1) 233 9 (0 : Int32)) 233 7 (gI (pI (pI s 233 8 a1) 233 9 (0 : Int32)) 233 6)) 233 10) = 0 → KV MX1_tryFrom 10 [.ref 233, .int (0 : Int32)] (pI (pI (pI s 233 8 a1) 233 9 (0 : Int32)) 233 7 (gI (pI (pI s 233 8 a1) 233 9 (0 : Int32)) 233 6)) (fun s1 => Q (gI s1 233 9) s1)))) : KI MX1_search 11 [.ref 233, .int a1] s Q := by
  show BI MX1_search 11 0 [(0, .ref 233), (1, .int a1)] s Q
  refine JT_aload_n (q := 0) dX1_search_0 rfl rfl ?_
  refine JT_iload_n (q := 1) dX1_search_1 rfl rfl ?_
  refine JS_putI dX1_search_2 flX1_93 BS_233 (Nat.le_of_ble_eq_true rfl) (Nat.le_of_ble_eq_true rfl) ct_1_8 ?_
  refine JT_aload_n (q := 0) dX1_search_5 rfl rfl ?_
  refine JT_iconst (v := 0) dX1_search_6 ic_0 ?_
  refine JS_putI dX1_search_7 flX1_96 BS_233 (Nat.le_of_ble_eq_true rfl) (Nat.le_of_ble_eq_true rfl) ct_1_9 ?_
  refine JT_aload_n (q := 0) dX1_search_10 rfl rfl ?_
  refine JT_aload_n (q := 0) dX1_search_11 rfl rfl ?_
  refine JS_getI dX1_search_12 flX1_67 BS_233 (Nat.le_of_ble_eq_true rfl) (Nat.le_of_ble_eq_true rfl) (Or.inl ct_1_6) ?_
  refine JS_putI dX1_search_15 flX1_99 BS_233 (Nat.le_of_ble_eq_true rfl) (Nat.le_of_ble_eq_true rfl) ct_1_7 ?_
  refine JT_aload_n (q := 0) dX1_search_18 rfl rfl ?_
  refine JS_getI dX1_search_19 flX1_55 BS_233 (Nat.le_of_ble_eq_true rfl) (Nat.le_of_ble_eq_true rfl) (Or.inr ct_1_10) ?_
  refine JT_if_eq (tgt := 30) dX1_search_22 (by decide) (fun hc3 => ?_) (fun hc3 => ?_)
  · have h := h.1 hc3
    refine JT_aload_n (q := 0) dX1_search_30 rfl rfl ?_
    refine JS_getI dX1_search_31 flX1_96 BS_233 (Nat.le_of_ble_eq_true rfl) (Nat.le_of_ble_eq_true rfl) (Or.inl ct_1_9) ?_
    exact JS_iret dX1_search_34 rfl rfl h
  · have h := h.2 hc3
    refine JT_aload_n (q := 0) dX1_search_25 rfl rfl ?_
    refine JT_iconst (v := 0) dX1_search_26 ic_0 ?_
    refine JS_callVV (M' := MX1_tryFrom) (d' := 10) (As := [.int (0 : Int32)]) (rest := []) dX1_search_27 cvX1_102 okX1_tryFrom rfl (Nat.le_of_ble_eq_true rfl) BS_233 (Nat.le_of_ble_eq_true rfl) (Nat.le_of_ble_eq_true rfl) hci_1 (Nat.le_of_ble_eq_true rfl) (Nat.le_of_ble_eq_true rfl) h (fun s1 h => ?_)
    refine JT_aload_n (q := 0) dX1_search_30 rfl rfl ?_
    refine JS_getI dX1_search_31 flX1_96 BS_233 (Nat.le_of_ble_eq_true rfl) (Nat.le_of_ble_eq_true rfl) (Or.inl ct_1_9) ?_
    exact JS_iret dX1_search_34 rfl rfl h
set_option maxRecDepth 20000 in
theorem bX7_start (a1 : Int32) {s : SM} {Q : SM → Prop} (h : ∃ Lx1 Px1, gD s 0 = some Lx1 ∧ (Lx1, Px1) ∈ LX ∧ vp_in a1 60 ∧ ∃ Lx3 Px3, gD (pI (pI s 218 11 (gI s (Lx1 + 1) (a1).toNatClampNeg)) 220 ((0 : Int32)).toNatClampNeg a1) 0 = some Lx3 ∧ (Lx3, Px3) ∈ LX ∧ vp_in a1 60 ∧ ∃ Lx5 Px5, gD (pI (pI s 218 11 (gI s (Lx1 + 1) (a1).toNatClampNeg)) 220 ((0 : Int32)).toNatClampNeg a1) 0 = some Lx5 ∧ (Lx5, Px5) ∈ LX ∧ vp_in a1 60 ∧ vp_in a1 60 ∧ KV MX7_extend 10 [.ref 218, .int (1 : Int32), .int (gI (pI (pI s 218 11 (gI s (Lx1 + 1) (a1).toNatClampNeg)) 220 ((0 : Int32)).toNatClampNeg a1) (Lx3 + 2) (a1).toNatClampNeg), .int (gI (pI (pI s 218 11 (gI s (Lx1 + 1) (a1).toNatClampNeg)) 220 ((0 : Int32)).toNatClampNeg a1) (Lx5 + 3) (a1).toNatClampNeg), .int (gI (pI (pI s 218 11 (gI s (Lx1 + 1) (a1).toNatClampNeg)) 220 ((0 : Int32)).toNatClampNeg a1) 221 (a1).toNatClampNeg), .int (((1 : Int32) <<< ((gI (pI (pI s 218 11 (gI s (Lx1 + 1) (a1).toNatClampNeg)) 220 ((0 : Int32)).toNatClampNeg a1) 218 11) &&& 31)) ||| ((1 : Int32) <<< ((gI (pI (pI s 218 11 (gI s (Lx1 + 1) (a1).toNatClampNeg)) 220 ((0 : Int32)).toNatClampNeg a1) (Lx3 + 2) (a1).toNatClampNeg) &&& 31)))] (pI (pI s 218 11 (gI s (Lx1 + 1) (a1).toNatClampNeg)) 220 ((0 : Int32)).toNatClampNeg a1) (fun s8 => Q s8)) : KV MX7_start 11 [.ref 218, .int a1] s Q := by
  show BV MX7_start 11 0 [(0, .ref 218), (1, .int a1)] s Q
  refine JT_aload_n (q := 0) dX7_start_0 rfl rfl ?_
  refine JT_aload_n (q := 0) dX7_start_1 rfl rfl ?_
  obtain ⟨Lx1, Px1, hrx1, hLx1, h⟩ := h
  refine JS_getR dX7_start_2 flX7_40 BS_218 (Nat.le_of_ble_eq_true rfl) (Nat.le_of_ble_eq_true rfl) (Or.inl ⟨_, ct_7_4⟩) (RF_218_4.trans hrx1) ?_
  refine JS_getR (x := (Lx1 + 1)) dX7_start_5 flX7_58 (lxB hLx1) (lx2 hLx1) (lxN hLx1) (Or.inr ⟨_, ct_4_0⟩) (lxR0 hLx1) ?_
  refine JT_iload_n (q := 1) dX7_start_8 rfl rfl ?_
  obtain ⟨o2, h⟩ := h
  refine JS_iald dX7_start_9 (lxB1 hLx1) (lx2k hLx1 _) (lxNk hLx1 (Nat.le_of_ble_eq_true rfl)) o2 ?_
  refine JS_putI dX7_start_10 flX7_98 BS_218 (Nat.le_of_ble_eq_true rfl) (Nat.le_of_ble_eq_true rfl) ct_7_11 ?_
  refine JT_aload_n (q := 0) dX7_start_13 rfl rfl ?_
  refine JS_getR (x := 220) dX7_start_14 flX7_15 BS_218 (Nat.le_of_ble_eq_true rfl) (Nat.le_of_ble_eq_true rfl) (Or.inr ⟨_, ct_7_5⟩) RF_218_5 ?_
  refine JT_iconst (v := 0) dX7_start_17 ic_0 ?_
  refine JT_iload_n (q := 1) dX7_start_18 rfl rfl ?_
  refine JS_iast dX7_start_19 BS_220 (Nat.le_of_ble_eq_true rfl) (Nat.le_of_ble_eq_true rfl) (by unfold vp_in; decide) ?_
  refine JT_aload_n (q := 0) dX7_start_20 rfl rfl ?_
  obtain ⟨Lx3, Px3, hrx3, hLx3, h⟩ := h
  refine JS_getR dX7_start_21 flX7_40 BS_218 (Nat.le_of_ble_eq_true rfl) (Nat.le_of_ble_eq_true rfl) (Or.inl ⟨_, ct_7_4⟩) (RF_218_4.trans hrx3) ?_
  refine JS_getR (x := (Lx3 + 2)) dX7_start_24 flX7_101 (lxB hLx3) (lx2 hLx3) (lxN hLx3) (Or.inr ⟨_, ct_4_1⟩) (lxR1 hLx3) ?_
  refine JT_iload_n (q := 1) dX7_start_27 rfl rfl ?_
  obtain ⟨o4, h⟩ := h
  refine JS_iald dX7_start_28 (lxB2 hLx3) (lx2k hLx3 _) (lxNk hLx3 (Nat.le_of_ble_eq_true rfl)) o4 ?_
  refine JT_istore_n (lv' := [(2, .int (gI (pI (pI s 218 11 (gI s (Lx1 + 1) (a1).toNatClampNeg)) 220 ((0 : Int32)).toNatClampNeg a1) (Lx3 + 2) (a1).toNatClampNeg)), (0, .ref 218), (1, .int a1)]) dX7_start_29 rfl (Nat.le_of_ble_eq_true rfl) rfl ?_
  refine JT_aload_n (q := 1) dX7_start_30 rfl rfl ?_
  refine JT_iconst (v := 1) dX7_start_31 ic_1 ?_
  refine JT_iload_n (q := 0) dX7_start_32 rfl rfl ?_
  refine JT_aload_n (q := 1) dX7_start_33 rfl rfl ?_
  obtain ⟨Lx5, Px5, hrx5, hLx5, h⟩ := h
  refine JS_getR dX7_start_34 flX7_40 BS_218 (Nat.le_of_ble_eq_true rfl) (Nat.le_of_ble_eq_true rfl) (Or.inl ⟨_, ct_7_4⟩) (RF_218_4.trans hrx5) ?_
  refine JS_getR (x := (Lx5 + 3)) dX7_start_37 flX7_104 (lxB hLx5) (lx2 hLx5) (lxN hLx5) (Or.inr ⟨_, ct_4_2⟩) (lxR2 hLx5) ?_
  refine JT_iload_n (q := 2) dX7_start_40 rfl rfl ?_
  obtain ⟨o6, h⟩ := h
  refine JS_iald dX7_start_41 (lxB3 hLx5) (lx2k hLx5 _) (lxNk hLx5 (Nat.le_of_ble_eq_true rfl)) o6 ?_
  refine JT_aload_n (q := 1) dX7_start_42 rfl rfl ?_
  refine JS_getR (x := 221) dX7_start_43 flX7_18 BS_218 (Nat.le_of_ble_eq_true rfl) (Nat.le_of_ble_eq_true rfl) (Or.inr ⟨_, ct_7_6⟩) RF_218_6 ?_
  refine JT_iload_n (q := 2) dX7_start_46 rfl rfl ?_
  obtain ⟨o7, h⟩ := h
  refine JS_iald dX7_start_47 BS_221 (Nat.le_of_ble_eq_true rfl) (Nat.le_of_ble_eq_true rfl) o7 ?_
  refine JT_iconst (v := 1) dX7_start_48 ic_1 ?_
  refine JT_aload_n (q := 1) dX7_start_49 rfl rfl ?_
  refine JS_getI dX7_start_50 flX7_98 BS_218 (Nat.le_of_ble_eq_true rfl) (Nat.le_of_ble_eq_true rfl) (Or.inl ct_7_11) ?_
  refine JT_ishl dX7_start_53 ?_
  refine JT_iconst (v := 1) dX7_start_54 ic_1 ?_
  refine JT_iload_n (q := 0) dX7_start_55 rfl rfl ?_
  refine JT_ishl dX7_start_56 ?_
  refine JT_ior dX7_start_57 ?_
  refine JS_callVV (M' := MX7_extend) (d' := 10) (As := [.int (1 : Int32), .int (gI (pI (pI s 218 11 (gI s (Lx1 + 1) (a1).toNatClampNeg)) 220 ((0 : Int32)).toNatClampNeg a1) (Lx3 + 2) (a1).toNatClampNeg), .int (gI (pI (pI s 218 11 (gI s (Lx1 + 1) (a1).toNatClampNeg)) 220 ((0 : Int32)).toNatClampNeg a1) (Lx5 + 3) (a1).toNatClampNeg), .int (gI (pI (pI s 218 11 (gI s (Lx1 + 1) (a1).toNatClampNeg)) 220 ((0 : Int32)).toNatClampNeg a1) 221 (a1).toNatClampNeg), .int (((1 : Int32) <<< ((gI (pI (pI s 218 11 (gI s (Lx1 + 1) (a1).toNatClampNeg)) 220 ((0 : Int32)).toNatClampNeg a1) 218 11) &&& 31)) ||| ((1 : Int32) <<< ((gI (pI (pI s 218 11 (gI s (Lx1 + 1) (a1).toNatClampNeg)) 220 ((0 : Int32)).toNatClampNeg a1) (Lx3 + 2) (a1).toNatClampNeg) &&& 31)))]) (rest := []) dX7_start_58 cvX7_107 okX7_extend rfl (Nat.le_of_ble_eq_true rfl) BS_218 (Nat.le_of_ble_eq_true rfl) (Nat.le_of_ble_eq_true rfl) hci_7 (Nat.le_of_ble_eq_true rfl) (Nat.le_of_ble_eq_true rfl) h (fun s8 h => ?_)
  exact JS_vret dX7_start_61 rfl h
set_option maxRecDepth 20000 in
theorem bX11_fits_33 (a1 : Int32) {s : SM} {Q : Int32 → SM → Prop} (h : (((0 : Int32) = 0 → Q (-1 : Int32) (pI s 3 1 (0 : Int32))) ∧ (¬ (0 : Int32) = 0 → KI MX1_search 11 [.ref 233, .int a1] (pI s 3 1 (0 : Int32)) (fun x2 s1 => Q x2 s1)))) : BI MX11_fits 12 33 [(0, .ref 2), (1, .int a1)] s Q := by
  refine JT_iconst (v := 0) dX11_fits_33 ic_0 ?_
  refine JT_istore_n (lv' := [(2, .int (0 : Int32)), (0, .ref 2), (1, .int a1)]) dX11_fits_34 rfl (Nat.le_of_ble_eq_true rfl) rfl ?_
  refine JT_aload_n (q := 1) dX11_fits_35 rfl rfl ?_
  refine JS_getR (x := 3) dX11_fits_36 flX11_10 BS_2 (Nat.le_of_ble_eq_true rfl) (Nat.le_of_ble_eq_true rfl) (Or.inl ⟨_, ct_11_0⟩) RF_2_0 ?_
  refine JT_iconst (v := 0) dX11_fits_39 ic_0 ?_
  refine JS_putI dX11_fits_40 flX11_104 BS_3 (Nat.le_of_ble_eq_true rfl) (Nat.le_of_ble_eq_true rfl) ct_9_1 ?_
  refine JT_iload_n (q := 0) dX11_fits_43 rfl rfl ?_
  refine JT_if_eq (tgt := 58) dX11_fits_44 (by decide) (fun hc3 => ?_) (fun hc3 => ?_)
  · have h := h.1 hc3
    refine JT_iconst (v := -1) dX11_fits_58 ic_m1 ?_
    exact JS_iret dX11_fits_59 rfl rfl h
  · have h := h.2 hc3
    refine JT_aload_n (q := 1) dX11_fits_47 rfl rfl ?_
    refine JS_getR (x := 233) dX11_fits_48 flX11_79 BS_2 (Nat.le_of_ble_eq_true rfl) (Nat.le_of_ble_eq_true rfl) (Or.inl ⟨_, ct_11_11⟩) RF_2_11 ?_
    refine JT_iload_n (q := 2) dX11_fits_51 rfl rfl ?_
    refine JS_callVI (M' := MX1_search) (d' := 11) (As := [.int a1]) (rest := []) dX11_fits_52 cvX11_404 okX1_search rfl (Nat.le_of_ble_eq_true rfl) BS_233 (Nat.le_of_ble_eq_true rfl) (Nat.le_of_ble_eq_true rfl) hci_1 (Nat.le_of_ble_eq_true rfl) (Nat.le_of_ble_eq_true rfl) h (fun x2 s1 h => ?_)
    refine JT_goto (tgt := 59) dX11_fits_55 (by decide) ?_
    exact JS_iret dX11_fits_59 rfl rfl h
set_option maxRecDepth 20000 in
theorem bX11_fits (a1 : Int32) {s : SM} {Q : Int32 → SM → Prop} (h : ((a1 < (1 : Int32) → BI MX11_fits 12 33 [(0, .ref 2), (1, .int a1)] s Q) ∧ (¬ a1 < (1 : Int32) → (((20 : Int32) < a1 → BI MX11_fits 12 33 [(0, .ref 2), (1, .int a1)] s Q) ∧ (¬ (20 : Int32) < a1 → KI MX1_take 6 [.ref 233, .ref 3, .ref 31] s (fun x2 s1 => ((x2 = 0 → BI MX11_fits 12 33 [(0, .ref 2), (1, .int a1)] s1 Q) ∧ (¬ x2 = 0 → (((1 : Int32) = 0 → Q (-1 : Int32) (pI s1 3 1 (0 : Int32))) ∧ (¬ (1 : Int32) = 0 → KI MX1_search 11 [.ref 233, .int a1] (pI s1 3 1 (0 : Int32)) (fun x4 s3 => Q x4 s3))))))))))) : KI MX11_fits 12 [.ref 2, .int a1] s Q := by
  show BI MX11_fits 12 0 [(0, .ref 2), (1, .int a1)] s Q
  refine JT_iload_n (q := 1) dX11_fits_0 rfl rfl ?_
  refine JT_iconst (v := 1) dX11_fits_1 ic_1 ?_
  refine JT_icmp_lt (tgt := 33) dX11_fits_2 (by decide) (fun hc8 => ?_) (fun hc8 => ?_)
  · have h := h.1 hc8
    exact JT_sub [0, 1] rfl h
  · have h := h.2 hc8
    refine JT_iload_n (q := 1) dX11_fits_5 rfl rfl ?_
    refine JT_bipush (v := 20) dX11_fits_6 bp_20 ?_
    refine JT_icmp_gt (tgt := 33) dX11_fits_8 (by decide) (fun hc7 => ?_) (fun hc7 => ?_)
    · have h := h.1 hc7
      exact JT_sub [0, 1] rfl h
    · have h := h.2 hc7
      refine JT_aload_n (q := 0) dX11_fits_11 rfl rfl ?_
      refine JS_getR (x := 233) dX11_fits_12 flX11_79 BS_2 (Nat.le_of_ble_eq_true rfl) (Nat.le_of_ble_eq_true rfl) (Or.inl ⟨_, ct_11_11⟩) RF_2_11 ?_
      refine JT_aload_n (q := 0) dX11_fits_15 rfl rfl ?_
      refine JS_getR (x := 3) dX11_fits_16 flX11_10 BS_2 (Nat.le_of_ble_eq_true rfl) (Nat.le_of_ble_eq_true rfl) (Or.inl ⟨_, ct_11_0⟩) RF_2_0 ?_
      refine JT_aload_n (q := 0) dX11_fits_19 rfl rfl ?_
      refine JS_getR (x := 31) dX11_fits_20 flX11_41 BS_2 (Nat.le_of_ble_eq_true rfl) (Nat.le_of_ble_eq_true rfl) (Or.inl ⟨_, ct_11_5⟩) RF_2_5 ?_
      refine JS_callVI (M' := MX1_take) (d' := 6) (As := [.ref 3, .ref 31]) (rest := []) dX11_fits_23 cvX11_401 okX1_take rfl (Nat.le_of_ble_eq_true rfl) BS_233 (Nat.le_of_ble_eq_true rfl) (Nat.le_of_ble_eq_true rfl) hci_1 (Nat.le_of_ble_eq_true rfl) (Nat.le_of_ble_eq_true rfl) h (fun x2 s1 h => ?_)
      refine JT_if_eq (tgt := 33) dX11_fits_26 (by decide) (fun hc6 => ?_) (fun hc6 => ?_)
      · have h := h.1 hc6
        exact JT_sub [0, 1] rfl h
      · have h := h.2 hc6
        refine JT_iconst (v := 1) dX11_fits_29 ic_1 ?_
        refine JT_goto (tgt := 34) dX11_fits_30 (by decide) ?_
        refine JT_istore_n (lv' := [(2, .int (1 : Int32)), (0, .ref 2), (1, .int a1)]) dX11_fits_34 rfl (Nat.le_of_ble_eq_true rfl) rfl ?_
        refine JT_aload_n (q := 1) dX11_fits_35 rfl rfl ?_
        refine JS_getR (x := 3) dX11_fits_36 flX11_10 BS_2 (Nat.le_of_ble_eq_true rfl) (Nat.le_of_ble_eq_true rfl) (Or.inl ⟨_, ct_11_0⟩) RF_2_0 ?_
        refine JT_iconst (v := 0) dX11_fits_39 ic_0 ?_
        refine JS_putI dX11_fits_40 flX11_104 BS_3 (Nat.le_of_ble_eq_true rfl) (Nat.le_of_ble_eq_true rfl) ct_9_1 ?_
        refine JT_iload_n (q := 0) dX11_fits_43 rfl rfl ?_
        refine JT_if_eq (tgt := 58) dX11_fits_44 (by decide) (fun hc5 => ?_) (fun hc5 => ?_)
        · have h := h.1 hc5
          refine JT_iconst (v := -1) dX11_fits_58 ic_m1 ?_
          exact JS_iret dX11_fits_59 rfl rfl h
        · have h := h.2 hc5
          refine JT_aload_n (q := 1) dX11_fits_47 rfl rfl ?_
          refine JS_getR (x := 233) dX11_fits_48 flX11_79 BS_2 (Nat.le_of_ble_eq_true rfl) (Nat.le_of_ble_eq_true rfl) (Or.inl ⟨_, ct_11_11⟩) RF_2_11 ?_
          refine JT_iload_n (q := 2) dX11_fits_51 rfl rfl ?_
          refine JS_callVI (M' := MX1_search) (d' := 11) (As := [.int a1]) (rest := []) dX11_fits_52 cvX11_404 okX1_search rfl (Nat.le_of_ble_eq_true rfl) BS_233 (Nat.le_of_ble_eq_true rfl) (Nat.le_of_ble_eq_true rfl) hci_1 (Nat.le_of_ble_eq_true rfl) (Nat.le_of_ble_eq_true rfl) h (fun x4 s3 h => ?_)
          refine JT_goto (tgt := 59) dX11_fits_55 (by decide) ?_
          exact JS_iret dX11_fits_59 rfl rfl h
set_option maxRecDepth 20000 in
theorem bX7_findBest_30 {L1 P1 : Nat} (hL1 : (L1, P1) ∈ LX) (a2 : Int32) {s : SM} {Q : Int32 → SM → Prop} (h : ((a2 < 0 → Q (if (gI s 218 1) ≤ 0 then (0 : Int32) else (1 : Int32)) s) ∧ (¬ a2 < 0 → KI MX7_mayBeIn 2 [.ref 218, .int a2] s (fun x4 s3 => ((x4 = 0 → BI MX7_findBest 12 30 [(0, .ref 218), (1, .ref L1), (2, .int (a2 + (-1)))] s3 Q) ∧ (¬ x4 = 0 → KV MX7_start 11 [.ref 218, .int a2] s3 (fun s5 => ∃ Lx7 Px7, gD s5 0 = some Lx7 ∧ (Lx7, Px7) ∈ LX ∧ vp_in a2 60 ∧ vp_in (gI s5 (Lx7 + 1) (a2).toNatClampNeg) 9 ∧ vp_in (gI s5 (Lx7 + 1) (a2).toNatClampNeg) 9 ∧ (∀ s11, s11 = (pI s5 223 ((gI s5 (Lx7 + 1) (a2).toNatClampNeg)).toNatClampNeg ((gI s5 223 ((gI s5 (Lx7 + 1) (a2).toNatClampNeg)).toNatClampNeg) - (1 : Int32))) → BI MX7_findBest 12 30 [(0, .ref 218), (1, .ref L1), (2, .int (a2 + (-1)))] s11 Q)))))))) : BI MX7_findBest 12 30 [(0, .ref 218), (1, .ref L1), (2, .int a2)] s Q := by
  refine JT_iload_n (q := 2) dX7_findBest_30 rfl rfl ?_
  refine JT_if_lt (tgt := 71) dX7_findBest_31 (by decide) (fun hc13 => ?_) (fun hc13 => ?_)
  · have h := h.1 hc13
    refine JT_aload_n (q := 0) dX7_findBest_71 rfl rfl ?_
    refine JS_getI dX7_findBest_72 flX7_61 BS_218 (Nat.le_of_ble_eq_true rfl) (Nat.le_of_ble_eq_true rfl) (Or.inl ct_7_1) ?_
    have hj1 : ∀ v : Int32, v = (if (gI s 218 1) ≤ 0 then (0 : Int32) else (1 : Int32)) → JT MX7_findBest 12 0 0 83 [(0, .ref 218), (1, .ref L1), (2, .int a2)] [.int v] (std s) (KQ Q) := by
      intro v hv
      subst hv
      exact JS_iret dX7_findBest_83 rfl (n01 (i01 (Or.inl rfl) (Or.inr rfl))) h
    refine JT_if_le (tgt := 82) dX7_findBest_75 (by decide) (fun hc2 => ?_) (fun hc2 => ?_)
    · refine JT_iconst (v := 0) dX7_findBest_82 ic_0 ?_
      exact hj1 _ (by rw [if_pos hc2])
    · refine JT_iconst (v := 1) dX7_findBest_78 ic_1 ?_
      refine JT_goto (tgt := 83) dX7_findBest_79 (by decide) ?_
      exact hj1 _ (by rw [if_neg hc2])
  · have h := h.2 hc13
    refine JT_aload_n (q := 0) dX7_findBest_34 rfl rfl ?_
    refine JT_iload_n (q := 2) dX7_findBest_35 rfl rfl ?_
    refine JS_callVI (M' := MX7_mayBeIn) (d' := 2) (As := [.int a2]) (rest := []) dX7_findBest_36 cvX7_50 okX7_mayBeIn rfl (Nat.le_of_ble_eq_true rfl) BS_218 (Nat.le_of_ble_eq_true rfl) (Nat.le_of_ble_eq_true rfl) hci_7 (Nat.le_of_ble_eq_true rfl) (Nat.le_of_ble_eq_true rfl) h (fun x4 s3 h => ?_)
    refine JT_if_eq (tgt := 65) dX7_findBest_39 (by decide) (fun hc12 => ?_) (fun hc12 => ?_)
    · have h := h.1 hc12
      refine JT_iinc (q := 2) (v := (a2 + (-1))) (lv' := [(2, .int (a2 + (-1))), (0, .ref 218), (1, .ref L1)]) dX7_findBest_65 rfl (by rfl) (Nat.le_of_ble_eq_true rfl) rfl ?_
      refine JT_goto (tgt := 30) dX7_findBest_68 (by decide) ?_
      exact JT_sub [1, 2, 0] rfl h
    · have h := h.2 hc12
      refine JT_aload_n (q := 0) dX7_findBest_42 rfl rfl ?_
      refine JT_iload_n (q := 2) dX7_findBest_43 rfl rfl ?_
      refine JS_callVV (M' := MX7_start) (d' := 11) (As := [.int a2]) (rest := []) dX7_findBest_44 cvX7_54 okX7_start rfl (Nat.le_of_ble_eq_true rfl) BS_218 (Nat.le_of_ble_eq_true rfl) (Nat.le_of_ble_eq_true rfl) hci_7 (Nat.le_of_ble_eq_true rfl) (Nat.le_of_ble_eq_true rfl) h (fun s5 h => ?_)
      refine JT_aload_n (q := 0) dX7_findBest_47 rfl rfl ?_
      refine JS_getR (x := 223) dX7_findBest_48 flX7_24 BS_218 (Nat.le_of_ble_eq_true rfl) (Nat.le_of_ble_eq_true rfl) (Or.inr ⟨_, ct_7_9⟩) RF_218_9 ?_
      refine JT_aload_n (q := 0) dX7_findBest_51 rfl rfl ?_
      obtain ⟨Lx7, Px7, hrx7, hLx7, h⟩ := h
      refine JS_getR dX7_findBest_52 flX7_40 BS_218 (Nat.le_of_ble_eq_true rfl) (Nat.le_of_ble_eq_true rfl) (Or.inl ⟨_, ct_7_4⟩) (RF_218_4.trans hrx7) ?_
      refine JS_getR (x := (Lx7 + 1)) dX7_findBest_55 flX7_58 (lxB hLx7) (lx2 hLx7) (lxN hLx7) (Or.inr ⟨_, ct_4_0⟩) (lxR0 hLx7) ?_
      refine JT_iload_n (q := 2) dX7_findBest_58 rfl rfl ?_
      obtain ⟨o8, h⟩ := h
      refine JS_iald dX7_findBest_59 (lxB1 hLx7) (lx2k hLx7 _) (lxNk hLx7 (Nat.le_of_ble_eq_true rfl)) o8 ?_
      refine JT_dup2 dX7_findBest_60 rfl rfl ?_
      obtain ⟨o9, h⟩ := h
      refine JS_iald dX7_findBest_61 BS_223 (Nat.le_of_ble_eq_true rfl) (Nat.le_of_ble_eq_true rfl) o9 ?_
      refine JT_iconst (v := 1) dX7_findBest_62 ic_1 ?_
      refine JT_isub dX7_findBest_63 ?_
      obtain ⟨o10, h⟩ := h
      refine JS_iast dX7_findBest_64 BS_223 (Nat.le_of_ble_eq_true rfl) (Nat.le_of_ble_eq_true rfl) o10 ?_
      obtain ⟨s11, hs11⟩ : ∃ z, z = (pI s5 223 ((gI s5 (Lx7 + 1) (a2).toNatClampNeg)).toNatClampNeg ((gI s5 223 ((gI s5 (Lx7 + 1) (a2).toNatClampNeg)).toNatClampNeg) - (1 : Int32))) := ⟨_, rfl⟩
      replace h := h s11 hs11
      rw [← hs11]
      refine JT_iinc (q := 2) (v := (a2 + (-1))) (lv' := [(2, .int (a2 + (-1))), (0, .ref 218), (1, .ref L1)]) dX7_findBest_65 rfl (by rfl) (Nat.le_of_ble_eq_true rfl) rfl ?_
      refine JT_goto (tgt := 30) dX7_findBest_68 (by decide) ?_
      exact JT_sub [1, 2, 0] rfl h
set_option maxRecDepth 20000 in
theorem bX7_findBest {L1 P1 : Nat} (hL1 : (L1, P1) ∈ LX) {s : SM} {Q : Int32 → SM → Prop} (h : KV MX7_prepare 3 [.ref 218, .ref L1] s (fun s1 => (∀ s3, s3 = (cI s1 223 (va_cpy (gI s1 224) (gI s1 223) ((0 : Int32)).toNatClampNeg ((0 : Int32)).toNatClampNeg ((9 : Int32)).toNatClampNeg)) → ∃ Lx4 Px4, gD s3 0 = some Lx4 ∧ (Lx4, Px4) ∈ LX ∧ BI MX7_findBest 12 30 [(0, .ref 218), (1, .ref L1), (2, .int ((gI s3 Lx4 9) - (1 : Int32)))] s3 Q))) : KI MX7_findBest 12 [.ref 218, .ref L1] s Q := by
  show BI MX7_findBest 12 0 [(0, .ref 218), (1, .ref L1)] s Q
  refine JT_aload_n (q := 0) dX7_findBest_0 rfl rfl ?_
  refine JT_aload_n (q := 1) dX7_findBest_1 rfl rfl ?_
  refine JS_callVV (M' := MX7_prepare) (d' := 3) (As := [.ref L1]) (rest := []) dX7_findBest_2 cvX7_30 okX7_prepare rfl (Nat.le_of_ble_eq_true rfl) BS_218 (Nat.le_of_ble_eq_true rfl) (Nat.le_of_ble_eq_true rfl) hci_7 (Nat.le_of_ble_eq_true rfl) (Nat.le_of_ble_eq_true rfl) h (fun s1 h => ?_)
  refine JT_aload_n (q := 0) dX7_findBest_5 rfl rfl ?_
  refine JS_getR (x := 224) dX7_findBest_6 flX7_27 BS_218 (Nat.le_of_ble_eq_true rfl) (Nat.le_of_ble_eq_true rfl) (Or.inr ⟨_, ct_7_10⟩) RF_218_10 ?_
  refine JT_iconst (v := 0) dX7_findBest_9 ic_0 ?_
  refine JT_aload_n (q := 0) dX7_findBest_10 rfl rfl ?_
  refine JS_getR (x := 223) dX7_findBest_11 flX7_24 BS_218 (Nat.le_of_ble_eq_true rfl) (Nat.le_of_ble_eq_true rfl) (Or.inr ⟨_, ct_7_9⟩) RF_218_9 ?_
  refine JT_iconst (v := 0) dX7_findBest_14 ic_0 ?_
  refine JT_bipush (v := 9) dX7_findBest_15 bp_9 ?_
  refine JS_copyI (d2 := 11) (na := 9) (nb := 9) dX7_findBest_17 mlX7_34 BS_223 (Nat.le_of_ble_eq_true rfl) (Nat.le_of_ble_eq_true rfl) BS_224 (Nat.le_of_ble_eq_true rfl) (Nat.le_of_ble_eq_true rfl) (by decide) (by decide) (by decide) (by decide) (by decide) (Nat.le_of_ble_eq_true rfl) rfl ?_
  obtain ⟨s3, hs3⟩ : ∃ z, z = (cI s1 223 (va_cpy (gI s1 224) (gI s1 223) ((0 : Int32)).toNatClampNeg ((0 : Int32)).toNatClampNeg ((9 : Int32)).toNatClampNeg)) := ⟨_, rfl⟩
  replace h := h s3 hs3
  rw [← hs3]
  refine JT_aload_n (q := 0) dX7_findBest_20 rfl rfl ?_
  obtain ⟨Lx4, Px4, hrx4, hLx4, h⟩ := h
  refine JS_getR dX7_findBest_21 flX7_40 BS_218 (Nat.le_of_ble_eq_true rfl) (Nat.le_of_ble_eq_true rfl) (Or.inl ⟨_, ct_7_4⟩) (RF_218_4.trans hrx4) ?_
  refine JS_getI dX7_findBest_24 flX7_44 (lxB hLx4) (lx2 hLx4) (lxN hLx4) (Or.inl ct_4_9) ?_
  refine JT_iconst (v := 1) dX7_findBest_27 ic_1 ?_
  refine JT_isub dX7_findBest_28 ?_
  refine JT_istore_n (lv' := [(2, .int ((gI s3 Lx4 9) - (1 : Int32))), (0, .ref 218), (1, .ref L1)]) dX7_findBest_29 rfl (Nat.le_of_ble_eq_true rfl) rfl ?_
  exact JT_sub [1, 2, 0] rfl h
set_option maxRecDepth 20000 in
theorem bX7_findBestWith_18 {L1 P1 : Nat} (hL1 : (L1, P1) ∈ LX) (a2 : Int32) {s : SM} {Q : Int32 → SM → Prop} (h : Q (if (gI s 218 1) ≤ 0 then (0 : Int32) else (1 : Int32)) s) : BI MX7_findBestWith 12 18 [(0, .ref 218), (1, .ref L1), (2, .int a2)] s Q := by
  refine JT_aload_n (q := 0) dX7_findBestWith_18 rfl rfl ?_
  refine JS_getI dX7_findBestWith_19 flX7_61 BS_218 (Nat.le_of_ble_eq_true rfl) (Nat.le_of_ble_eq_true rfl) (Or.inl ct_7_1) ?_
  have hj1 : ∀ v : Int32, v = (if (gI s 218 1) ≤ 0 then (0 : Int32) else (1 : Int32)) → JT MX7_findBestWith 12 0 0 30 [(0, .ref 218), (1, .ref L1), (2, .int a2)] [.int v] (std s) (KQ Q) := by
    intro v hv
    subst hv
    exact JS_iret dX7_findBestWith_30 rfl (n01 (i01 (Or.inl rfl) (Or.inr rfl))) h
  refine JT_if_le (tgt := 29) dX7_findBestWith_22 (by decide) (fun hc2 => ?_) (fun hc2 => ?_)
  · refine JT_iconst (v := 0) dX7_findBestWith_29 ic_0 ?_
    exact hj1 _ (by rw [if_pos hc2])
  · refine JT_iconst (v := 1) dX7_findBestWith_25 ic_1 ?_
    refine JT_goto (tgt := 30) dX7_findBestWith_26 (by decide) ?_
    exact hj1 _ (by rw [if_neg hc2])
set_option maxRecDepth 20000 in
theorem bX7_findBestWith {L1 P1 : Nat} (hL1 : (L1, P1) ∈ LX) (a2 : Int32) {s : SM} {Q : Int32 → SM → Prop} (h : KV MX7_prepare 3 [.ref 218, .ref L1] s (fun s1 => KI MX7_mayBeIn 2 [.ref 218, .int a2] s1 (fun x4 s3 => ((x4 = 0 → BI MX7_findBestWith 12 18 [(0, .ref 218), (1, .ref L1), (2, .int a2)] s3 Q) ∧ (¬ x4 = 0 → KV MX7_start 11 [.ref 218, .int a2] s3 (fun s5 => BI MX7_findBestWith 12 18 [(0, .ref 218), (1, .ref L1), (2, .int a2)] s5 Q)))))) : KI MX7_findBestWith 12 [.ref 218, .ref L1, .int a2] s Q := by
  show BI MX7_findBestWith 12 0 [(0, .ref 218), (1, .ref L1), (2, .int a2)] s Q
  refine JT_aload_n (q := 0) dX7_findBestWith_0 rfl rfl ?_
  refine JT_aload_n (q := 1) dX7_findBestWith_1 rfl rfl ?_
  refine JS_callVV (M' := MX7_prepare) (d' := 3) (As := [.ref L1]) (rest := []) dX7_findBestWith_2 cvX7_30 okX7_prepare rfl (Nat.le_of_ble_eq_true rfl) BS_218 (Nat.le_of_ble_eq_true rfl) (Nat.le_of_ble_eq_true rfl) hci_7 (Nat.le_of_ble_eq_true rfl) (Nat.le_of_ble_eq_true rfl) h (fun s1 h => ?_)
  refine JT_aload_n (q := 0) dX7_findBestWith_5 rfl rfl ?_
  refine JT_iload_n (q := 2) dX7_findBestWith_6 rfl rfl ?_
  refine JS_callVI (M' := MX7_mayBeIn) (d' := 2) (As := [.int a2]) (rest := []) dX7_findBestWith_7 cvX7_50 okX7_mayBeIn rfl (Nat.le_of_ble_eq_true rfl) BS_218 (Nat.le_of_ble_eq_true rfl) (Nat.le_of_ble_eq_true rfl) hci_7 (Nat.le_of_ble_eq_true rfl) (Nat.le_of_ble_eq_true rfl) h (fun x4 s3 h => ?_)
  refine JT_if_eq (tgt := 18) dX7_findBestWith_10 (by decide) (fun hc7 => ?_) (fun hc7 => ?_)
  · have h := h.1 hc7
    exact JT_sub [0, 1, 2] rfl h
  · have h := h.2 hc7
    refine JT_aload_n (q := 0) dX7_findBestWith_13 rfl rfl ?_
    refine JT_iload_n (q := 2) dX7_findBestWith_14 rfl rfl ?_
    refine JS_callVV (M' := MX7_start) (d' := 11) (As := [.int a2]) (rest := []) dX7_findBestWith_15 cvX7_54 okX7_start rfl (Nat.le_of_ble_eq_true rfl) BS_218 (Nat.le_of_ble_eq_true rfl) (Nat.le_of_ble_eq_true rfl) hci_7 (Nat.le_of_ble_eq_true rfl) (Nat.le_of_ble_eq_true rfl) h (fun s5 h => ?_)
    exact JT_sub [0, 1, 2] rfl h
set_option maxRecDepth 20000 in
theorem bX11_ring_29 (a1 : Int32) {s : SM} {Q : Int32 → SM → Prop} (h : (((5 : Int32) ≤ a1 → Q (gI s 218 2) s) ∧ (¬ (5 : Int32) ≤ a1 → vp_in a1 5 ∧ vp_in a1 5 ∧ BI MX11_ring 13 29 [(0, .ref 2), (1, .int (a1 + 1))] (pI s 246 (a1).toNatClampNeg (gI s 219 (a1).toNatClampNeg)) Q))) : BI MX11_ring 13 29 [(0, .ref 2), (1, .int a1)] s Q := by
  refine JT_iload_n (q := 1) dX11_ring_29 rfl rfl ?_
  refine JT_iconst (v := 5) dX11_ring_30 ic_5 ?_
  refine JT_icmp_ge (tgt := 55) dX11_ring_31 (by decide) (fun hc3 => ?_) (fun hc3 => ?_)
  · have h := h.1 hc3
    refine JT_aload_n (q := 0) dX11_ring_55 rfl rfl ?_
    refine JS_getR (x := 218) dX11_ring_56 flX11_65 BS_2 (Nat.le_of_ble_eq_true rfl) (Nat.le_of_ble_eq_true rfl) (Or.inl ⟨_, ct_11_9⟩) RF_2_9 ?_
    refine JS_getI dX11_ring_59 flX11_347 BS_218 (Nat.le_of_ble_eq_true rfl) (Nat.le_of_ble_eq_true rfl) (Or.inl ct_7_2) ?_
    exact JS_iret dX11_ring_62 rfl rfl h
  · have h := h.2 hc3
    refine JT_aload_n (q := 0) dX11_ring_34 rfl rfl ?_
    refine JS_getR (x := 246) dX11_ring_35 flX11_97 BS_2 (Nat.le_of_ble_eq_true rfl) (Nat.le_of_ble_eq_true rfl) (Or.inr ⟨_, ct_11_14⟩) RF_2_14 ?_
    refine JT_iload_n (q := 1) dX11_ring_38 rfl rfl ?_
    refine JT_aload_n (q := 0) dX11_ring_39 rfl rfl ?_
    refine JS_getR (x := 218) dX11_ring_40 flX11_65 BS_2 (Nat.le_of_ble_eq_true rfl) (Nat.le_of_ble_eq_true rfl) (Or.inl ⟨_, ct_11_9⟩) RF_2_9 ?_
    refine JS_getR (x := 219) dX11_ring_43 flX11_344 BS_218 (Nat.le_of_ble_eq_true rfl) (Nat.le_of_ble_eq_true rfl) (Or.inr ⟨_, ct_7_0⟩) RF_218_0 ?_
    refine JT_iload_n (q := 1) dX11_ring_46 rfl rfl ?_
    obtain ⟨o1, h⟩ := h
    refine JS_iald dX11_ring_47 BS_219 (Nat.le_of_ble_eq_true rfl) (Nat.le_of_ble_eq_true rfl) o1 ?_
    obtain ⟨o2, h⟩ := h
    refine JS_iast dX11_ring_48 BS_246 (Nat.le_of_ble_eq_true rfl) (Nat.le_of_ble_eq_true rfl) o2 ?_
    refine JT_iinc (q := 1) (v := (a1 + 1)) (lv' := [(1, .int (a1 + 1)), (0, .ref 2)]) dX11_ring_49 rfl (by rfl) (Nat.le_of_ble_eq_true rfl) rfl ?_
    refine JT_goto (tgt := 29) dX11_ring_52 (by decide) ?_
    exact JT_sub [1, 0] rfl h
set_option maxRecDepth 20000 in
theorem bX11_ring  {s : SM} {Q : Int32 → SM → Prop} (h : KI MX7_findBest 12 [.ref 218, .ref 31] s (fun x2 s1 => ((¬ x2 = 0 → BI MX11_ring 13 29 [(0, .ref 2), (1, .int (0 : Int32))] (pI s1 2 15 (gI s1 218 1)) Q) ∧ (x2 = 0 → Q (-1 : Int32) s1)))) : KI MX11_ring 13 [.ref 2] s Q := by
  show BI MX11_ring 13 0 [(0, .ref 2)] s Q
  refine JT_aload_n (q := 0) dX11_ring_0 rfl rfl ?_
  refine JS_getR (x := 218) dX11_ring_1 flX11_65 BS_2 (Nat.le_of_ble_eq_true rfl) (Nat.le_of_ble_eq_true rfl) (Or.inl ⟨_, ct_11_9⟩) RF_2_9 ?_
  refine JT_aload_n (q := 0) dX11_ring_4 rfl rfl ?_
  refine JS_getR (x := 31) dX11_ring_5 flX11_41 BS_2 (Nat.le_of_ble_eq_true rfl) (Nat.le_of_ble_eq_true rfl) (Or.inl ⟨_, ct_11_5⟩) RF_2_5 ?_
  refine JS_callVI (M' := MX7_findBest) (d' := 12) (As := [.ref 31]) (rest := []) dX11_ring_8 cvX11_336 okX7_findBest rfl (Nat.le_of_ble_eq_true rfl) BS_218 (Nat.le_of_ble_eq_true rfl) (Nat.le_of_ble_eq_true rfl) hci_7 (Nat.le_of_ble_eq_true rfl) (Nat.le_of_ble_eq_true rfl) h (fun x2 s1 h => ?_)
  refine JT_if_ne (tgt := 16) dX11_ring_11 (by decide) (fun hc3 => ?_) (fun hc3 => ?_)
  · have h := h.1 hc3
    refine JT_aload_n (q := 0) dX11_ring_16 rfl rfl ?_
    refine JT_aload_n (q := 0) dX11_ring_17 rfl rfl ?_
    refine JS_getR (x := 218) dX11_ring_18 flX11_65 BS_2 (Nat.le_of_ble_eq_true rfl) (Nat.le_of_ble_eq_true rfl) (Or.inl ⟨_, ct_11_9⟩) RF_2_9 ?_
    refine JS_getI dX11_ring_21 flX11_340 BS_218 (Nat.le_of_ble_eq_true rfl) (Nat.le_of_ble_eq_true rfl) (Or.inl ct_7_1) ?_
    refine JS_putI dX11_ring_24 flX11_341 BS_2 (Nat.le_of_ble_eq_true rfl) (Nat.le_of_ble_eq_true rfl) ct_11_15 ?_
    refine JT_iconst (v := 0) dX11_ring_27 ic_0 ?_
    refine JT_istore_n (lv' := [(1, .int (0 : Int32)), (0, .ref 2)]) dX11_ring_28 rfl (Nat.le_of_ble_eq_true rfl) rfl ?_
    exact JT_sub [1, 0] rfl h
  · have h := h.2 hc3
    refine JT_iconst (v := -1) dX11_ring_14 ic_m1 ?_
    exact JS_iret dX11_ring_15 rfl rfl h
set_option maxRecDepth 20000 in
theorem bX11_ringOf (a1 : Int32) {s : SM} {Q : Int32 → SM → Prop} (h : (((vX4_hasDeal s 31 5 a1) = 0 → Q (-1 : Int32) s) ∧ (¬ (vX4_hasDeal s 31 5 a1) = 0 → KI MX7_findBestWith 12 [.ref 218, .ref 31, .int a1] s (fun x2 s1 => ((x2 = 0 → Q (-1 : Int32) s1) ∧ (¬ x2 = 0 → Q (gI s1 218 2) s1)))))) : KI MX11_ringOf 13 [.ref 2, .int a1] s Q := by
  show BI MX11_ringOf 13 0 [(0, .ref 2), (1, .int a1)] s Q
  refine JT_aload_n (q := 0) dX11_ringOf_0 rfl rfl ?_
  refine JS_getR (x := 31) dX11_ringOf_1 flX11_41 BS_2 (Nat.le_of_ble_eq_true rfl) (Nat.le_of_ble_eq_true rfl) (Or.inl ⟨_, ct_11_5⟩) RF_2_5 ?_
  refine JT_iload_n (q := 1) dX11_ringOf_4 rfl rfl ?_
  refine JS_callVI (M' := MX4_hasDeal) (d' := 0) (As := [.int a1]) (rest := []) (P := (fun zv9 wm9 => (vX4_hasDeal s 31 5 a1) = zv9 ∧ s = wm9)) dX11_ringOf_5 cvX11_211 okX4_hasDeal rfl (Nat.le_of_ble_eq_true rfl) BS_31 (Nat.le_of_ble_eq_true rfl) (Nat.le_of_ble_eq_true rfl) hci_4 (Nat.le_of_ble_eq_true rfl) (Nat.le_of_ble_eq_true rfl) (pX4_hasDeal hL_31 (a1)  ⟨rfl, rfl⟩) (fun zv9 wm9 hq9 => ?_)
  obtain ⟨rfl, rfl⟩ := hq9
  refine JT_if_eq (tgt := 36) dX11_ringOf_8 (by decide) (fun hc4 => ?_) (fun hc4 => ?_)
  · have h := h.1 hc4
    refine JT_iconst (v := -1) dX11_ringOf_36 ic_m1 ?_
    exact JS_iret dX11_ringOf_37 rfl rfl h
  · have h := h.2 hc4
    refine JT_aload_n (q := 0) dX11_ringOf_11 rfl rfl ?_
    refine JS_getR (x := 218) dX11_ringOf_12 flX11_65 BS_2 (Nat.le_of_ble_eq_true rfl) (Nat.le_of_ble_eq_true rfl) (Or.inl ⟨_, ct_11_9⟩) RF_2_9 ?_
    refine JT_aload_n (q := 0) dX11_ringOf_15 rfl rfl ?_
    refine JS_getR (x := 31) dX11_ringOf_16 flX11_41 BS_2 (Nat.le_of_ble_eq_true rfl) (Nat.le_of_ble_eq_true rfl) (Or.inl ⟨_, ct_11_5⟩) RF_2_5 ?_
    refine JT_iload_n (q := 1) dX11_ringOf_19 rfl rfl ?_
    refine JS_callVI (M' := MX7_findBestWith) (d' := 12) (As := [.ref 31, .int a1]) (rest := []) dX11_ringOf_20 cvX11_350 okX7_findBestWith rfl (Nat.le_of_ble_eq_true rfl) BS_218 (Nat.le_of_ble_eq_true rfl) (Nat.le_of_ble_eq_true rfl) hci_7 (Nat.le_of_ble_eq_true rfl) (Nat.le_of_ble_eq_true rfl) h (fun x2 s1 h => ?_)
    refine JT_if_eq (tgt := 36) dX11_ringOf_23 (by decide) (fun hc3 => ?_) (fun hc3 => ?_)
    · have h := h.1 hc3
      refine JT_iconst (v := -1) dX11_ringOf_36 ic_m1 ?_
      exact JS_iret dX11_ringOf_37 rfl rfl h
    · have h := h.2 hc3
      refine JT_aload_n (q := 0) dX11_ringOf_26 rfl rfl ?_
      refine JS_getR (x := 218) dX11_ringOf_27 flX11_65 BS_2 (Nat.le_of_ble_eq_true rfl) (Nat.le_of_ble_eq_true rfl) (Or.inl ⟨_, ct_11_9⟩) RF_2_9 ?_
      refine JS_getI dX11_ringOf_30 flX11_347 BS_218 (Nat.le_of_ble_eq_true rfl) (Nat.le_of_ble_eq_true rfl) (Or.inl ct_7_2) ?_
      refine JT_goto (tgt := 37) dX11_ringOf_33 (by decide) ?_
      exact JS_iret dX11_ringOf_37 rfl rfl h
set_option maxRecDepth 20000 in
theorem bX4_tryCut_13 {L0 P0 : Nat} (hL0 : (L0, P0) ∈ LX) (a2 : Int32) {s : SM} {Q : Int32 → SM → Prop} (h : (((gI s 218 1) ≤ a2 → Q (0 : Int32) s) ∧ (¬ (gI s 218 1) ≤ a2 → (((5 : Int32) ≤ a2 → Q (0 : Int32) s) ∧ (¬ (5 : Int32) ≤ a2 → vp_in a2 5 ∧ rX4_lessen s L0 P0 (gI s 219 (a2).toNatClampNeg) (gI s 218 3) ∧ BI MX4_tryCut 13 13 [(0, .ref L0), (1, .ref 218), (2, .int (a2 + 1))] (mX4_lessen s L0 P0 (gI s 219 (a2).toNatClampNeg) (gI s 218 3)) Q))))) : BI MX4_tryCut 13 13 [(0, .ref L0), (1, .ref 218), (2, .int a2)] s Q := by
  refine JT_iload_n (q := 2) dX4_tryCut_13 rfl rfl ?_
  refine JT_aload_n (q := 1) dX4_tryCut_14 rfl rfl ?_
  refine JS_getI dX4_tryCut_15 flX4_160 BS_218 (Nat.le_of_ble_eq_true rfl) (Nat.le_of_ble_eq_true rfl) (Or.inl ct_7_1) ?_
  refine JT_icmp_ge (tgt := 46) dX4_tryCut_18 (by decide) (fun hc4 => ?_) (fun hc4 => ?_)
  · have h := h.1 hc4
    refine JT_iconst (v := 0) dX4_tryCut_46 ic_0 ?_
    exact JS_iret dX4_tryCut_47 rfl rfl h
  · have h := h.2 hc4
    refine JT_iload_n (q := 2) dX4_tryCut_21 rfl rfl ?_
    refine JT_iconst (v := 5) dX4_tryCut_22 ic_5 ?_
    refine JT_icmp_ge (tgt := 46) dX4_tryCut_23 (by decide) (fun hc3 => ?_) (fun hc3 => ?_)
    · have h := h.1 hc3
      refine JT_iconst (v := 0) dX4_tryCut_46 ic_0 ?_
      exact JS_iret dX4_tryCut_47 rfl rfl h
    · have h := h.2 hc3
      refine JT_aload_n (q := 0) dX4_tryCut_26 rfl rfl ?_
      refine JT_aload_n (q := 1) dX4_tryCut_27 rfl rfl ?_
      refine JS_getR (x := 219) dX4_tryCut_28 flX4_163 BS_218 (Nat.le_of_ble_eq_true rfl) (Nat.le_of_ble_eq_true rfl) (Or.inr ⟨_, ct_7_0⟩) RF_218_0 ?_
      refine JT_iload_n (q := 2) dX4_tryCut_31 rfl rfl ?_
      obtain ⟨o1, h⟩ := h
      refine JS_iald dX4_tryCut_32 BS_219 (Nat.le_of_ble_eq_true rfl) (Nat.le_of_ble_eq_true rfl) o1 ?_
      refine JT_aload_n (q := 1) dX4_tryCut_33 rfl rfl ?_
      refine JS_getI dX4_tryCut_34 flX4_166 BS_218 (Nat.le_of_ble_eq_true rfl) (Nat.le_of_ble_eq_true rfl) (Or.inl ct_7_3) ?_
      obtain ⟨o2, h⟩ := h
      refine JS_callVV (M' := MX4_lessen) (d' := 3) (As := [.int (gI s 219 (a2).toNatClampNeg), .int (gI s 218 3)]) (rest := []) (P := (fun wm9 => (mX4_lessen s L0 P0 (gI s 219 (a2).toNatClampNeg) (gI s 218 3)) = wm9)) dX4_tryCut_37 cvX4_169 okX4_lessen rfl (Nat.le_of_ble_eq_true rfl) (lxB hL0) (lx2 hL0) (lxN hL0) hci_4 (Nat.le_of_ble_eq_true rfl) (Nat.le_of_ble_eq_true rfl) (pX4_lessen hL0 ((gI s 219 (a2).toNatClampNeg)) ((gI s 218 3)) o2 rfl) (fun wm9 hq9 => ?_)
      subst hq9
      refine JT_iinc (q := 2) (v := (a2 + 1)) (lv' := [(2, .int (a2 + 1)), (0, .ref L0), (1, .ref 218)]) dX4_tryCut_40 rfl (by rfl) (Nat.le_of_ble_eq_true rfl) rfl ?_
      refine JT_goto (tgt := 13) dX4_tryCut_43 (by decide) ?_
      exact JT_sub [1, 2, 0] rfl h
set_option maxRecDepth 20000 in
theorem bX4_tryCut {L0 P0 : Nat} (hL0 : (L0, P0) ∈ LX) {s : SM} {Q : Int32 → SM → Prop} (h : KI MX7_findBest 12 [.ref 218, .ref L0] s (fun x2 s1 => ((¬ x2 = 0 → BI MX4_tryCut 13 13 [(0, .ref L0), (1, .ref 218), (2, .int (0 : Int32))] s1 Q) ∧ (x2 = 0 → Q (8 : Int32) s1)))) : KI MX4_tryCut 13 [.ref L0, .ref 218] s Q := by
  show BI MX4_tryCut 13 0 [(0, .ref L0), (1, .ref 218)] s Q
  refine JT_aload_n (q := 1) dX4_tryCut_0 rfl rfl ?_
  refine JT_aload_n (q := 0) dX4_tryCut_1 rfl rfl ?_
  refine JS_callVI (M' := MX7_findBest) (d' := 12) (As := [.ref L0]) (rest := []) dX4_tryCut_2 cvX4_154 okX7_findBest rfl (Nat.le_of_ble_eq_true rfl) BS_218 (Nat.le_of_ble_eq_true rfl) (Nat.le_of_ble_eq_true rfl) hci_7 (Nat.le_of_ble_eq_true rfl) (Nat.le_of_ble_eq_true rfl) h (fun x2 s1 h => ?_)
  refine JT_if_ne (tgt := 11) dX4_tryCut_5 (by decide) (fun hc3 => ?_) (fun hc3 => ?_)
  · have h := h.1 hc3
    refine JT_iconst (v := 0) dX4_tryCut_11 ic_0 ?_
    refine JT_istore_n (lv' := [(2, .int (0 : Int32)), (0, .ref L0), (1, .ref 218)]) dX4_tryCut_12 rfl (Nat.le_of_ble_eq_true rfl) rfl ?_
    exact JT_sub [1, 2, 0] rfl h
  · have h := h.2 hc3
    refine JT_bipush (v := 8) dX4_tryCut_8 bp_8 ?_
    exact JS_iret dX4_tryCut_10 rfl rfl h
set_option maxRecDepth 20000 in
theorem bX0_tryLine {k0 : Nat} (hk0 : k0 ∈ BX) (a1 : Int32) {L2 P2 : Nat} (hL2 : (L2, P2) ∈ LX) {s : SM} {Q : Int32 → SM → Prop} (h : ((a1 < 0 → Q (0 : Int32) s) ∧ (¬ a1 < 0 → ((a1 < (40 : Int32) → vp_in a1 40 ∧ (((gI s (k0 + 1) (a1).toNatClampNeg) = 0 → vp_in a1 40 ∧ vp_in a1 40 ∧ vp_in a1 40 ∧ vp_in a1 40 ∧ rX4_tryWrite s L2 P2 (gI s (k0 + 2) (a1).toNatClampNeg) (gI s (k0 + 3) (a1).toNatClampNeg) (gI s (k0 + 4) (a1).toNatClampNeg) (gI s (k0 + 5) (a1).toNatClampNeg) ∧ (∀ s8, s8 = (mX4_tryWrite s L2 P2 (gI s (k0 + 2) (a1).toNatClampNeg) (gI s (k0 + 3) (a1).toNatClampNeg) (gI s (k0 + 4) (a1).toNatClampNeg) (gI s (k0 + 5) (a1).toNatClampNeg)) → Q (vX4_tryWrite s L2 P2 (gI s (k0 + 2) (a1).toNatClampNeg) (gI s (k0 + 3) (a1).toNatClampNeg) (gI s (k0 + 4) (a1).toNatClampNeg) (gI s (k0 + 5) (a1).toNatClampNeg)) s8)) ∧ ((gI s (k0 + 1) (a1).toNatClampNeg) = 1 → vp_in a1 40 ∧ KI MX4_tryStrike 3 [.ref L2, .int (gI s (k0 + 2) (a1).toNatClampNeg)] s (fun x12 s11 => Q x12 s11)) ∧ ((gI s (k0 + 1) (a1).toNatClampNeg) = 2 → vp_in a1 40 ∧ vp_in a1 40 ∧ rX4_tryScar s L2 P2 (gI s (k0 + 2) (a1).toNatClampNeg) (gI s (k0 + 3) (a1).toNatClampNeg) ∧ Q (vX4_tryScar s L2 P2 (gI s (k0 + 2) (a1).toNatClampNeg) (gI s (k0 + 3) (a1).toNatClampNeg)) (mX4_tryScar s L2 P2 (gI s (k0 + 2) (a1).toNatClampNeg) (gI s (k0 + 3) (a1).toNatClampNeg))) ∧ ((gI s (k0 + 1) (a1).toNatClampNeg) = 3 → KI MX4_tryCut 13 [.ref L2, .ref 218] s (fun x17 s16 => Q x17 s16)) ∧ ((gI s (k0 + 1) (a1).toNatClampNeg) = 4 → vp_in a1 40 ∧ vp_in a1 40 ∧ KI MX4_tryBury 2 [.ref L2, .int (gI s (k0 + 2) (a1).toNatClampNeg), .int (gI s (k0 + 3) (a1).toNatClampNeg)] s (fun x21 s20 => Q x21 s20)) ∧ (((gI s (k0 + 1) (a1).toNatClampNeg).toInt < 0 ∨ 4 < (gI s (k0 + 1) (a1).toNatClampNeg).toInt) → Q (vX4_tryYear s L2 P2) (mX4_tryYear s L2 P2)))) ∧ (¬ a1 < (40 : Int32) → Q (0 : Int32) s))))) : KI MX0_tryLine 14 [.ref k0, .int a1, .ref L2, .ref 218] s Q := by
  show BI MX0_tryLine 14 0 [(0, .ref k0), (1, .int a1), (2, .ref L2), (3, .ref 218)] s Q
  refine JT_iload_n (q := 1) dX0_tryLine_0 rfl rfl ?_
  refine JT_if_lt (tgt := 10) dX0_tryLine_1 (by decide) (fun hc24 => ?_) (fun hc24 => ?_)
  · have h := h.1 hc24
    refine JT_iconst (v := 0) dX0_tryLine_10 ic_0 ?_
    exact JS_iret dX0_tryLine_11 rfl rfl h
  · have h := h.2 hc24
    refine JT_iload_n (q := 1) dX0_tryLine_4 rfl rfl ?_
    refine JT_bipush (v := 40) dX0_tryLine_5 bp_40 ?_
    refine JT_icmp_lt (tgt := 12) dX0_tryLine_7 (by decide) (fun hc23 => ?_) (fun hc23 => ?_)
    · have h := h.1 hc23
      refine JT_aload_n (q := 0) dX0_tryLine_12 rfl rfl ?_
      refine JS_getR (x := (k0 + 1)) dX0_tryLine_13 flX0_9 (bxB hk0) (bx2 hk0) (bxN hk0) (Or.inr ⟨_, ct_0_1⟩) (bxR1 hk0) ?_
      refine JT_iload_n (q := 1) dX0_tryLine_16 rfl rfl ?_
      obtain ⟨o1, h⟩ := h
      refine JS_iald dX0_tryLine_17 (bxB1 hk0) (bx2k hk0 _) (bxNk hk0 (Nat.le_of_ble_eq_true rfl)) o1 ?_
      by_cases ho2 : ((gI s (k0 + 1) (a1).toNatClampNeg)).toInt < 0 ∨ 4 < ((gI s (k0 + 1) (a1).toNatClampNeg)).toInt
      · have h := h.2.2.2.2.2 ho2
        refine JT_tableOut (tgt := 132) dX0_tryLine_18 ho2 (by decide) ?_
        refine JT_aload_n (q := 2) dX0_tryLine_132 rfl rfl ?_
        refine JS_callVI (M' := MX4_tryYear) (d' := 0) (As := []) (rest := []) (P := (fun zv9 wm9 => (vX4_tryYear s L2 P2) = zv9 ∧ (mX4_tryYear s L2 P2) = wm9)) dX0_tryLine_133 cvX0_139 okX4_tryYear rfl (Nat.le_of_ble_eq_true rfl) (lxB hL2) (lx2 hL2) (lxN hL2) hci_4 (Nat.le_of_ble_eq_true rfl) (Nat.le_of_ble_eq_true rfl) (pX4_tryYear hL2   ⟨rfl, rfl⟩) (fun zv9 wm9 hq9 => ?_)
        obtain ⟨rfl, rfl⟩ := hq9
        exact JS_iret dX0_tryLine_136 rfl rfl h
      · have hk22 : ((gI s (k0 + 1) (a1).toNatClampNeg)).toInt = 0 ∨ ((gI s (k0 + 1) (a1).toNatClampNeg)).toInt = 1 ∨ ((gI s (k0 + 1) (a1).toNatClampNeg)).toInt = 2 ∨ ((gI s (k0 + 1) (a1).toNatClampNeg)).toInt = 3 ∨ ((gI s (k0 + 1) (a1).toNatClampNeg)).toInt = 4 := by omega
        rcases hk22 with hk22 | hk22 | hk22 | hk22 | hk22
        · have h := h.1 (i32_of_toInt hk22)
          refine JT_tableIn (tgt := 52) dX0_tryLine_18 (by omega) (by omega) (by rw [hk22]; rfl) (by decide) ?_
          refine JT_aload_n (q := 2) dX0_tryLine_52 rfl rfl ?_
          refine JT_aload_n (q := 0) dX0_tryLine_53 rfl rfl ?_
          refine JS_getR (x := (k0 + 2)) dX0_tryLine_54 flX0_15 (bxB hk0) (bx2 hk0) (bxN hk0) (Or.inr ⟨_, ct_0_2⟩) (bxR2 hk0) ?_
          refine JT_iload_n (q := 1) dX0_tryLine_57 rfl rfl ?_
          obtain ⟨o4, h⟩ := h
          refine JS_iald dX0_tryLine_58 (bxB2 hk0) (bx2k hk0 _) (bxNk hk0 (Nat.le_of_ble_eq_true rfl)) o4 ?_
          refine JT_aload_n (q := 0) dX0_tryLine_59 rfl rfl ?_
          refine JS_getR (x := (k0 + 3)) dX0_tryLine_60 flX0_18 (bxB hk0) (bx2 hk0) (bxN hk0) (Or.inr ⟨_, ct_0_3⟩) (bxR3 hk0) ?_
          refine JT_iload_n (q := 1) dX0_tryLine_63 rfl rfl ?_
          obtain ⟨o5, h⟩ := h
          refine JS_iald dX0_tryLine_64 (bxB3 hk0) (bx2k hk0 _) (bxNk hk0 (Nat.le_of_ble_eq_true rfl)) o5 ?_
          refine JT_aload_n (q := 0) dX0_tryLine_65 rfl rfl ?_
          refine JS_getR (x := (k0 + 4)) dX0_tryLine_66 flX0_21 (bxB hk0) (bx2 hk0) (bxN hk0) (Or.inr ⟨_, ct_0_4⟩) (bxR4 hk0) ?_
          refine JT_iload_n (q := 1) dX0_tryLine_69 rfl rfl ?_
          obtain ⟨o6, h⟩ := h
          refine JS_iald dX0_tryLine_70 (bxB4 hk0) (bx2k hk0 _) (bxNk hk0 (Nat.le_of_ble_eq_true rfl)) o6 ?_
          refine JT_aload_n (q := 0) dX0_tryLine_71 rfl rfl ?_
          refine JS_getR (x := (k0 + 5)) dX0_tryLine_72 flX0_24 (bxB hk0) (bx2 hk0) (bxN hk0) (Or.inr ⟨_, ct_0_5⟩) (bxR5 hk0) ?_
          refine JT_iload_n (q := 1) dX0_tryLine_75 rfl rfl ?_
          obtain ⟨o7, h⟩ := h
          refine JS_iald dX0_tryLine_76 (bxB5 hk0) (bx2k hk0 _) (bxNk hk0 (Nat.le_of_ble_eq_true rfl)) o7 ?_
          obtain ⟨o9, h⟩ := h
          refine JS_callVI (M' := MX4_tryWrite) (d' := 4) (As := [.int (gI s (k0 + 2) (a1).toNatClampNeg), .int (gI s (k0 + 3) (a1).toNatClampNeg), .int (gI s (k0 + 4) (a1).toNatClampNeg), .int (gI s (k0 + 5) (a1).toNatClampNeg)]) (rest := []) (P := (fun zv9 wm9 => (vX4_tryWrite s L2 P2 (gI s (k0 + 2) (a1).toNatClampNeg) (gI s (k0 + 3) (a1).toNatClampNeg) (gI s (k0 + 4) (a1).toNatClampNeg) (gI s (k0 + 5) (a1).toNatClampNeg)) = zv9 ∧ (mX4_tryWrite s L2 P2 (gI s (k0 + 2) (a1).toNatClampNeg) (gI s (k0 + 3) (a1).toNatClampNeg) (gI s (k0 + 4) (a1).toNatClampNeg) (gI s (k0 + 5) (a1).toNatClampNeg)) = wm9)) dX0_tryLine_77 cvX0_118 okX4_tryWrite rfl (Nat.le_of_ble_eq_true rfl) (lxB hL2) (lx2 hL2) (lxN hL2) hci_4 (Nat.le_of_ble_eq_true rfl) (Nat.le_of_ble_eq_true rfl) (pX4_tryWrite hL2 ((gI s (k0 + 2) (a1).toNatClampNeg)) ((gI s (k0 + 3) (a1).toNatClampNeg)) ((gI s (k0 + 4) (a1).toNatClampNeg)) ((gI s (k0 + 5) (a1).toNatClampNeg)) o9 ⟨rfl, rfl⟩) (fun zv9 wm9 hq9 => ?_)
          obtain ⟨rfl, rfl⟩ := hq9
          obtain ⟨s8, hs8⟩ : ∃ z, z = (mX4_tryWrite s L2 P2 (gI s (k0 + 2) (a1).toNatClampNeg) (gI s (k0 + 3) (a1).toNatClampNeg) (gI s (k0 + 4) (a1).toNatClampNeg) (gI s (k0 + 5) (a1).toNatClampNeg)) := ⟨_, rfl⟩
          replace h := h s8 hs8
          rw [← hs8]
          exact JS_iret dX0_tryLine_80 rfl rfl h
        · have h := h.2.1 (i32_of_toInt hk22)
          refine JT_tableIn (tgt := 81) dX0_tryLine_18 (by omega) (by omega) (by rw [hk22]; rfl) (by decide) ?_
          refine JT_aload_n (q := 2) dX0_tryLine_81 rfl rfl ?_
          refine JT_aload_n (q := 0) dX0_tryLine_82 rfl rfl ?_
          refine JS_getR (x := (k0 + 2)) dX0_tryLine_83 flX0_15 (bxB hk0) (bx2 hk0) (bxN hk0) (Or.inr ⟨_, ct_0_2⟩) (bxR2 hk0) ?_
          refine JT_iload_n (q := 1) dX0_tryLine_86 rfl rfl ?_
          obtain ⟨o10, h⟩ := h
          refine JS_iald dX0_tryLine_87 (bxB2 hk0) (bx2k hk0 _) (bxNk hk0 (Nat.le_of_ble_eq_true rfl)) o10 ?_
          refine JS_callVI (M' := MX4_tryStrike) (d' := 3) (As := [.int (gI s (k0 + 2) (a1).toNatClampNeg)]) (rest := []) dX0_tryLine_88 cvX0_124 okX4_tryStrike rfl (Nat.le_of_ble_eq_true rfl) (lxB hL2) (lx2 hL2) (lxN hL2) hci_4 (Nat.le_of_ble_eq_true rfl) (Nat.le_of_ble_eq_true rfl) h (fun x12 s11 h => ?_)
          exact JS_iret dX0_tryLine_91 rfl rfl h
        · have h := h.2.2.1 (i32_of_toInt hk22)
          refine JT_tableIn (tgt := 92) dX0_tryLine_18 (by omega) (by omega) (by rw [hk22]; rfl) (by decide) ?_
          refine JT_aload_n (q := 2) dX0_tryLine_92 rfl rfl ?_
          refine JT_aload_n (q := 0) dX0_tryLine_93 rfl rfl ?_
          refine JS_getR (x := (k0 + 2)) dX0_tryLine_94 flX0_15 (bxB hk0) (bx2 hk0) (bxN hk0) (Or.inr ⟨_, ct_0_2⟩) (bxR2 hk0) ?_
          refine JT_iload_n (q := 1) dX0_tryLine_97 rfl rfl ?_
          obtain ⟨o13, h⟩ := h
          refine JS_iald dX0_tryLine_98 (bxB2 hk0) (bx2k hk0 _) (bxNk hk0 (Nat.le_of_ble_eq_true rfl)) o13 ?_
          refine JT_aload_n (q := 0) dX0_tryLine_99 rfl rfl ?_
          refine JS_getR (x := (k0 + 3)) dX0_tryLine_100 flX0_18 (bxB hk0) (bx2 hk0) (bxN hk0) (Or.inr ⟨_, ct_0_3⟩) (bxR3 hk0) ?_
          refine JT_iload_n (q := 1) dX0_tryLine_103 rfl rfl ?_
          obtain ⟨o14, h⟩ := h
          refine JS_iald dX0_tryLine_104 (bxB3 hk0) (bx2k hk0 _) (bxNk hk0 (Nat.le_of_ble_eq_true rfl)) o14 ?_
          obtain ⟨o15, h⟩ := h
          refine JS_callVI (M' := MX4_tryScar) (d' := 3) (As := [.int (gI s (k0 + 2) (a1).toNatClampNeg), .int (gI s (k0 + 3) (a1).toNatClampNeg)]) (rest := []) (P := (fun zv9 wm9 => (vX4_tryScar s L2 P2 (gI s (k0 + 2) (a1).toNatClampNeg) (gI s (k0 + 3) (a1).toNatClampNeg)) = zv9 ∧ (mX4_tryScar s L2 P2 (gI s (k0 + 2) (a1).toNatClampNeg) (gI s (k0 + 3) (a1).toNatClampNeg)) = wm9)) dX0_tryLine_105 cvX0_128 okX4_tryScar rfl (Nat.le_of_ble_eq_true rfl) (lxB hL2) (lx2 hL2) (lxN hL2) hci_4 (Nat.le_of_ble_eq_true rfl) (Nat.le_of_ble_eq_true rfl) (pX4_tryScar hL2 ((gI s (k0 + 2) (a1).toNatClampNeg)) ((gI s (k0 + 3) (a1).toNatClampNeg)) o15 ⟨rfl, rfl⟩) (fun zv9 wm9 hq9 => ?_)
          obtain ⟨rfl, rfl⟩ := hq9
          exact JS_iret dX0_tryLine_108 rfl rfl h
        · have h := h.2.2.2.1 (i32_of_toInt hk22)
          refine JT_tableIn (tgt := 109) dX0_tryLine_18 (by omega) (by omega) (by rw [hk22]; rfl) (by decide) ?_
          refine JT_aload_n (q := 2) dX0_tryLine_109 rfl rfl ?_
          refine JT_aload_n (q := 3) dX0_tryLine_110 rfl rfl ?_
          refine JS_callVI (M' := MX4_tryCut) (d' := 13) (As := [.ref 218]) (rest := []) dX0_tryLine_111 cvX0_132 okX4_tryCut rfl (Nat.le_of_ble_eq_true rfl) (lxB hL2) (lx2 hL2) (lxN hL2) hci_4 (Nat.le_of_ble_eq_true rfl) (Nat.le_of_ble_eq_true rfl) h (fun x17 s16 h => ?_)
          exact JS_iret dX0_tryLine_114 rfl rfl h
        · have h := h.2.2.2.2.1 (i32_of_toInt hk22)
          refine JT_tableIn (tgt := 115) dX0_tryLine_18 (by omega) (by omega) (by rw [hk22]; rfl) (by decide) ?_
          refine JT_aload_n (q := 2) dX0_tryLine_115 rfl rfl ?_
          refine JT_aload_n (q := 0) dX0_tryLine_116 rfl rfl ?_
          refine JS_getR (x := (k0 + 2)) dX0_tryLine_117 flX0_15 (bxB hk0) (bx2 hk0) (bxN hk0) (Or.inr ⟨_, ct_0_2⟩) (bxR2 hk0) ?_
          refine JT_iload_n (q := 1) dX0_tryLine_120 rfl rfl ?_
          obtain ⟨o18, h⟩ := h
          refine JS_iald dX0_tryLine_121 (bxB2 hk0) (bx2k hk0 _) (bxNk hk0 (Nat.le_of_ble_eq_true rfl)) o18 ?_
          refine JT_aload_n (q := 0) dX0_tryLine_122 rfl rfl ?_
          refine JS_getR (x := (k0 + 3)) dX0_tryLine_123 flX0_18 (bxB hk0) (bx2 hk0) (bxN hk0) (Or.inr ⟨_, ct_0_3⟩) (bxR3 hk0) ?_
          refine JT_iload_n (q := 1) dX0_tryLine_126 rfl rfl ?_
          obtain ⟨o19, h⟩ := h
          refine JS_iald dX0_tryLine_127 (bxB3 hk0) (bx2k hk0 _) (bxNk hk0 (Nat.le_of_ble_eq_true rfl)) o19 ?_
          refine JS_callVI (M' := MX4_tryBury) (d' := 2) (As := [.int (gI s (k0 + 2) (a1).toNatClampNeg), .int (gI s (k0 + 3) (a1).toNatClampNeg)]) (rest := []) dX0_tryLine_128 cvX0_136 okX4_tryBury rfl (Nat.le_of_ble_eq_true rfl) (lxB hL2) (lx2 hL2) (lxN hL2) hci_4 (Nat.le_of_ble_eq_true rfl) (Nat.le_of_ble_eq_true rfl) h (fun x21 s20 h => ?_)
          exact JS_iret dX0_tryLine_131 rfl rfl h
    · have h := h.2 hc23
      refine JT_iconst (v := 0) dX0_tryLine_10 ic_0 ?_
      exact JS_iret dX0_tryLine_11 rfl rfl h
set_option maxRecDepth 20000 in
theorem bX11_cut  {s : SM} {Q : Int32 → SM → Prop} (h : KV MX2_note 2 [.ref 55, .ref 31] s (fun s1 => KI MX4_tryCut 13 [.ref 31, .ref 218] s1 (fun x4 s3 => ((x4 = 0 → Q (gI (mX2_keepNoted s3 ) 218 3) (mX2_keepNoted s3 )) ∧ (¬ x4 = 0 → Q (-1 : Int32) s3))))) : KI MX11_cut 14 [.ref 2] s Q := by
  show BI MX11_cut 14 0 [(0, .ref 2)] s Q
  refine JT_aload_n (q := 0) dX11_cut_0 rfl rfl ?_
  refine JS_getR (x := 55) dX11_cut_1 flX11_51 BS_2 (Nat.le_of_ble_eq_true rfl) (Nat.le_of_ble_eq_true rfl) (Or.inl ⟨_, ct_11_7⟩) RF_2_7 ?_
  refine JT_aload_n (q := 0) dX11_cut_4 rfl rfl ?_
  refine JS_getR (x := 31) dX11_cut_5 flX11_41 BS_2 (Nat.le_of_ble_eq_true rfl) (Nat.le_of_ble_eq_true rfl) (Or.inl ⟨_, ct_11_5⟩) RF_2_5 ?_
  refine JS_callVV (M' := MX2_note) (d' := 2) (As := [.ref 31]) (rest := []) dX11_cut_8 cvX11_300 okX2_note rfl (Nat.le_of_ble_eq_true rfl) BS_55 (Nat.le_of_ble_eq_true rfl) (Nat.le_of_ble_eq_true rfl) hci_2 (Nat.le_of_ble_eq_true rfl) (Nat.le_of_ble_eq_true rfl) h (fun s1 h => ?_)
  refine JT_aload_n (q := 0) dX11_cut_11 rfl rfl ?_
  refine JS_getR (x := 31) dX11_cut_12 flX11_41 BS_2 (Nat.le_of_ble_eq_true rfl) (Nat.le_of_ble_eq_true rfl) (Or.inl ⟨_, ct_11_5⟩) RF_2_5 ?_
  refine JT_aload_n (q := 0) dX11_cut_15 rfl rfl ?_
  refine JS_getR (x := 218) dX11_cut_16 flX11_65 BS_2 (Nat.le_of_ble_eq_true rfl) (Nat.le_of_ble_eq_true rfl) (Or.inl ⟨_, ct_11_9⟩) RF_2_9 ?_
  refine JS_callVI (M' := MX4_tryCut) (d' := 13) (As := [.ref 218]) (rest := []) dX11_cut_19 cvX11_317 okX4_tryCut rfl (Nat.le_of_ble_eq_true rfl) BS_31 (Nat.le_of_ble_eq_true rfl) (Nat.le_of_ble_eq_true rfl) hci_4 (Nat.le_of_ble_eq_true rfl) (Nat.le_of_ble_eq_true rfl) h (fun x4 s3 h => ?_)
  refine JT_if_eq (tgt := 27) dX11_cut_22 (by decide) (fun hc6 => ?_) (fun hc6 => ?_)
  · have h := h.1 hc6
    refine JT_aload_n (q := 0) dX11_cut_27 rfl rfl ?_
    refine JS_getR (x := 55) dX11_cut_28 flX11_51 BS_2 (Nat.le_of_ble_eq_true rfl) (Nat.le_of_ble_eq_true rfl) (Or.inl ⟨_, ct_11_7⟩) RF_2_7 ?_
    refine JS_callVV (M' := MX2_keepNoted) (d' := 1) (As := []) (rest := []) (P := (fun wm9 => (mX2_keepNoted s3 ) = wm9)) dX11_cut_31 cvX11_308 okX2_keepNoted rfl (Nat.le_of_ble_eq_true rfl) BS_55 (Nat.le_of_ble_eq_true rfl) (Nat.le_of_ble_eq_true rfl) hci_2 (Nat.le_of_ble_eq_true rfl) (Nat.le_of_ble_eq_true rfl) (pX2_keepNoted    rfl) (fun wm9 hq9 => ?_)
    subst hq9
    refine JT_aload_n (q := 0) dX11_cut_34 rfl rfl ?_
    refine JS_getR (x := 218) dX11_cut_35 flX11_65 BS_2 (Nat.le_of_ble_eq_true rfl) (Nat.le_of_ble_eq_true rfl) (Or.inl ⟨_, ct_11_9⟩) RF_2_9 ?_
    refine JS_getI dX11_cut_38 flX11_321 BS_218 (Nat.le_of_ble_eq_true rfl) (Nat.le_of_ble_eq_true rfl) (Or.inl ct_7_3) ?_
    exact JS_iret dX11_cut_41 rfl rfl h
  · have h := h.2 hc6
    refine JT_iconst (v := -1) dX11_cut_25 ic_m1 ?_
    exact JS_iret dX11_cut_26 rfl rfl h
