set_option maxRecDepth 20000 in
theorem bX11_lasts_59 (a1 : Int32) (a2 : Int32) (a3 : Int32) (a4 : Int32) (a5 : Int32) (a6 : Int32) {s : SM} {Q : Int32 → SM → Prop} (h : (((200 : Int32) ≤ a6 → Q ((gI s 43 9) - a3) s) ∧ (¬ (200 : Int32) ≤ a6 → (((10 : Int32) ≤ a4 → Q ((gI s 43 9) - a3) s) ∧ (¬ (10 : Int32) ≤ a4 → rX11_drawn s (vX11_nextSeed s a5) (gI s 5 6) ∧ rX11_drawn s (vX11_nextSeed s (vX11_nextSeed s a5)) (gI s 5 6) ∧ rX11_drawn s (vX11_nextSeed s (vX11_nextSeed s (vX11_nextSeed s a5))) (gI s 5 7) ∧ rX11_drawn s (vX11_nextSeed s (vX11_nextSeed s (vX11_nextSeed s (vX11_nextSeed s a5)))) (99 : Int32) ∧ ((¬ a1 = (1 : Int32) → BI MX11_lasts 14 176 [(0, .ref 2), (1, .int a1), (2, .int a2), (3, .int a3), (4, .int a4), (5, .int (vX11_nextSeed s (vX11_nextSeed s (vX11_nextSeed s (vX11_nextSeed s a5))))), (6, .int a6), (7, .int (vX11_drawn s (vX11_nextSeed s a5) (gI s 5 6))), (8, .int (vX11_drawn s (vX11_nextSeed s (vX11_nextSeed s a5)) (gI s 5 6))), (9, .int (vX11_drawn s (vX11_nextSeed s (vX11_nextSeed s (vX11_nextSeed s a5))) (gI s 5 7))), (10, .int ((vX11_drawn s (vX11_nextSeed s (vX11_nextSeed s (vX11_nextSeed s (vX11_nextSeed s a5)))) (99 : Int32)) + (1 : Int32)))] s Q) ∧ (a1 = (1 : Int32) → KI MX4_latestOpen 2 [.ref 43, .int a3] s (fun x2 s1 => KI MX4_tryStrike 3 [.ref 43, .int x2] s1 (fun x4 s3 => BI MX11_lasts 14 176 [(0, .ref 2), (1, .int a1), (2, .int a2), (3, .int a3), (4, .int a4), (5, .int (vX11_nextSeed s (vX11_nextSeed s (vX11_nextSeed s (vX11_nextSeed s a5))))), (6, .int a6), (7, .int (vX11_drawn s (vX11_nextSeed s a5) (gI s 5 6))), (8, .int (vX11_drawn s (vX11_nextSeed s (vX11_nextSeed s a5)) (gI s 5 6))), (9, .int (vX11_drawn s (vX11_nextSeed s (vX11_nextSeed s (vX11_nextSeed s a5))) (gI s 5 7))), (10, .int ((vX11_drawn s (vX11_nextSeed s (vX11_nextSeed s (vX11_nextSeed s (vX11_nextSeed s a5)))) (99 : Int32)) + (1 : Int32)))] s3 Q))))))))) : BI MX11_lasts 14 59 [(0, .ref 2), (1, .int a1), (2, .int a2), (3, .int a3), (4, .int a4), (5, .int a5), (6, .int a6)] s Q := by
  refine JT_iload (q := 6) dX11_lasts_59 rfl ?_
  refine JT_sipush (v := 200) dX11_lasts_61 sp_200 ?_
  refine JT_icmp_ge (tgt := 237) dX11_lasts_64 (by decide) (fun hc15 => ?_) (fun hc15 => ?_)
  · have h := h.1 hc15
    refine JT_aload_n (q := 0) dX11_lasts_237 rfl rfl ?_
    refine JS_getR (x := 43) dX11_lasts_238 flX11_45 BS_2 (Nat.le_of_ble_eq_true rfl) (Nat.le_of_ble_eq_true rfl) (Or.inl ⟨_, ct_11_6⟩) RF_2_6 ?_
    refine JS_getI dX11_lasts_241 flX11_162 BS_43 (Nat.le_of_ble_eq_true rfl) (Nat.le_of_ble_eq_true rfl) (Or.inl ct_4_9) ?_
    refine JT_iload_n (q := 3) dX11_lasts_244 rfl rfl ?_
    refine JT_isub dX11_lasts_245 ?_
    exact JS_iret dX11_lasts_246 rfl rfl h
  · have h := h.2 hc15
    refine JT_iload (q := 4) dX11_lasts_67 rfl ?_
    refine JT_bipush (v := 10) dX11_lasts_69 bp_10 ?_
    refine JT_icmp_ge (tgt := 237) dX11_lasts_71 (by decide) (fun hc14 => ?_) (fun hc14 => ?_)
    · have h := h.1 hc14
      refine JT_aload_n (q := 0) dX11_lasts_237 rfl rfl ?_
      refine JS_getR (x := 43) dX11_lasts_238 flX11_45 BS_2 (Nat.le_of_ble_eq_true rfl) (Nat.le_of_ble_eq_true rfl) (Or.inl ⟨_, ct_11_6⟩) RF_2_6 ?_
      refine JS_getI dX11_lasts_241 flX11_162 BS_43 (Nat.le_of_ble_eq_true rfl) (Nat.le_of_ble_eq_true rfl) (Or.inl ct_4_9) ?_
      refine JT_iload_n (q := 3) dX11_lasts_244 rfl rfl ?_
      refine JT_isub dX11_lasts_245 ?_
      exact JS_iret dX11_lasts_246 rfl rfl h
    · have h := h.2 hc14
      refine JT_iload (q := 5) dX11_lasts_74 rfl ?_
      refine JS_callSI (M' := MX11_nextSeed) (d' := 0) (As := [.int a5]) (rest := []) (P := (fun zv9 wm9 => (vX11_nextSeed s a5) = zv9 ∧ s = wm9)) dX11_lasts_76 cvX11_371 okX11_nextSeed rfl (Nat.le_of_ble_eq_true rfl) (Nat.le_of_ble_eq_true rfl) (Nat.le_of_ble_eq_true rfl) (pX11_nextSeed  (a5)  ⟨rfl, rfl⟩) (fun zv9 wm9 hq9 => ?_)
      obtain ⟨rfl, rfl⟩ := hq9
      refine JT_istore (lv' := [(5, .int (vX11_nextSeed s a5)), (0, .ref 2), (1, .int a1), (2, .int a2), (3, .int a3), (4, .int a4), (6, .int a6)]) dX11_lasts_79 (Nat.le_of_ble_eq_true rfl) rfl ?_
      refine JT_iload (q := 0) dX11_lasts_81 rfl ?_
      refine JT_aload_n (q := 1) dX11_lasts_83 rfl rfl ?_
      refine JS_getR (x := 5) dX11_lasts_84 flX11_19 BS_2 (Nat.le_of_ble_eq_true rfl) (Nat.le_of_ble_eq_true rfl) (Or.inl ⟨_, ct_11_1⟩) RF_2_1 ?_
      refine JS_getI dX11_lasts_87 flX11_150 BS_5 (Nat.le_of_ble_eq_true rfl) (Nat.le_of_ble_eq_true rfl) (Or.inl ct_6_6) ?_
      obtain ⟨o12, h⟩ := h
      refine JS_callSI (M' := MX11_drawn) (d' := 0) (As := [.int (vX11_nextSeed s a5), .int (gI s 5 6)]) (rest := []) (P := (fun zv9 wm9 => (vX11_drawn s (vX11_nextSeed s a5) (gI s 5 6)) = zv9 ∧ s = wm9)) dX11_lasts_90 cvX11_374 okX11_drawn rfl (Nat.le_of_ble_eq_true rfl) (Nat.le_of_ble_eq_true rfl) (Nat.le_of_ble_eq_true rfl) (pX11_drawn  ((vX11_nextSeed s a5)) ((gI s 5 6)) o12 ⟨rfl, rfl⟩) (fun zv9 wm9 hq9 => ?_)
      obtain ⟨rfl, rfl⟩ := hq9
      refine JT_istore (lv' := [(7, .int (vX11_drawn s (vX11_nextSeed s a5) (gI s 5 6))), (5, .int (vX11_nextSeed s a5)), (0, .ref 2), (1, .int a1), (2, .int a2), (3, .int a3), (4, .int a4), (6, .int a6)]) dX11_lasts_93 (Nat.le_of_ble_eq_true rfl) rfl ?_
      refine JT_iload (q := 1) dX11_lasts_95 rfl ?_
      refine JS_callSI (M' := MX11_nextSeed) (d' := 0) (As := [.int (vX11_nextSeed s a5)]) (rest := []) (P := (fun zv9 wm9 => (vX11_nextSeed s (vX11_nextSeed s a5)) = zv9 ∧ s = wm9)) dX11_lasts_97 cvX11_371 okX11_nextSeed rfl (Nat.le_of_ble_eq_true rfl) (Nat.le_of_ble_eq_true rfl) (Nat.le_of_ble_eq_true rfl) (pX11_nextSeed  ((vX11_nextSeed s a5))  ⟨rfl, rfl⟩) (fun zv9 wm9 hq9 => ?_)
      obtain ⟨rfl, rfl⟩ := hq9
      refine JT_istore (lv' := [(5, .int (vX11_nextSeed s (vX11_nextSeed s a5))), (7, .int (vX11_drawn s (vX11_nextSeed s a5) (gI s 5 6))), (0, .ref 2), (1, .int a1), (2, .int a2), (3, .int a3), (4, .int a4), (6, .int a6)]) dX11_lasts_100 (Nat.le_of_ble_eq_true rfl) rfl ?_
      refine JT_iload (q := 0) dX11_lasts_102 rfl ?_
      refine JT_aload_n (q := 2) dX11_lasts_104 rfl rfl ?_
      refine JS_getR (x := 5) dX11_lasts_105 flX11_19 BS_2 (Nat.le_of_ble_eq_true rfl) (Nat.le_of_ble_eq_true rfl) (Or.inl ⟨_, ct_11_1⟩) RF_2_1 ?_
      refine JS_getI dX11_lasts_108 flX11_150 BS_5 (Nat.le_of_ble_eq_true rfl) (Nat.le_of_ble_eq_true rfl) (Or.inl ct_6_6) ?_
      obtain ⟨o10, h⟩ := h
      refine JS_callSI (M' := MX11_drawn) (d' := 0) (As := [.int (vX11_nextSeed s (vX11_nextSeed s a5)), .int (gI s 5 6)]) (rest := []) (P := (fun zv9 wm9 => (vX11_drawn s (vX11_nextSeed s (vX11_nextSeed s a5)) (gI s 5 6)) = zv9 ∧ s = wm9)) dX11_lasts_111 cvX11_374 okX11_drawn rfl (Nat.le_of_ble_eq_true rfl) (Nat.le_of_ble_eq_true rfl) (Nat.le_of_ble_eq_true rfl) (pX11_drawn  ((vX11_nextSeed s (vX11_nextSeed s a5))) ((gI s 5 6)) o10 ⟨rfl, rfl⟩) (fun zv9 wm9 hq9 => ?_)
      obtain ⟨rfl, rfl⟩ := hq9
      refine JT_istore (lv' := [(8, .int (vX11_drawn s (vX11_nextSeed s (vX11_nextSeed s a5)) (gI s 5 6))), (5, .int (vX11_nextSeed s (vX11_nextSeed s a5))), (7, .int (vX11_drawn s (vX11_nextSeed s a5) (gI s 5 6))), (0, .ref 2), (1, .int a1), (2, .int a2), (3, .int a3), (4, .int a4), (6, .int a6)]) dX11_lasts_114 (Nat.le_of_ble_eq_true rfl) rfl ?_
      refine JT_iload (q := 1) dX11_lasts_116 rfl ?_
      refine JS_callSI (M' := MX11_nextSeed) (d' := 0) (As := [.int (vX11_nextSeed s (vX11_nextSeed s a5))]) (rest := []) (P := (fun zv9 wm9 => (vX11_nextSeed s (vX11_nextSeed s (vX11_nextSeed s a5))) = zv9 ∧ s = wm9)) dX11_lasts_118 cvX11_371 okX11_nextSeed rfl (Nat.le_of_ble_eq_true rfl) (Nat.le_of_ble_eq_true rfl) (Nat.le_of_ble_eq_true rfl) (pX11_nextSeed  ((vX11_nextSeed s (vX11_nextSeed s a5)))  ⟨rfl, rfl⟩) (fun zv9 wm9 hq9 => ?_)
      obtain ⟨rfl, rfl⟩ := hq9
      refine JT_istore (lv' := [(5, .int (vX11_nextSeed s (vX11_nextSeed s (vX11_nextSeed s a5)))), (8, .int (vX11_drawn s (vX11_nextSeed s (vX11_nextSeed s a5)) (gI s 5 6))), (7, .int (vX11_drawn s (vX11_nextSeed s a5) (gI s 5 6))), (0, .ref 2), (1, .int a1), (2, .int a2), (3, .int a3), (4, .int a4), (6, .int a6)]) dX11_lasts_121 (Nat.le_of_ble_eq_true rfl) rfl ?_
      refine JT_iload (q := 0) dX11_lasts_123 rfl ?_
      refine JT_aload_n (q := 3) dX11_lasts_125 rfl rfl ?_
      refine JS_getR (x := 5) dX11_lasts_126 flX11_19 BS_2 (Nat.le_of_ble_eq_true rfl) (Nat.le_of_ble_eq_true rfl) (Or.inl ⟨_, ct_11_1⟩) RF_2_1 ?_
      refine JS_getI dX11_lasts_129 flX11_153 BS_5 (Nat.le_of_ble_eq_true rfl) (Nat.le_of_ble_eq_true rfl) (Or.inl ct_6_7) ?_
      obtain ⟨o8, h⟩ := h
      refine JS_callSI (M' := MX11_drawn) (d' := 0) (As := [.int (vX11_nextSeed s (vX11_nextSeed s (vX11_nextSeed s a5))), .int (gI s 5 7)]) (rest := []) (P := (fun zv9 wm9 => (vX11_drawn s (vX11_nextSeed s (vX11_nextSeed s (vX11_nextSeed s a5))) (gI s 5 7)) = zv9 ∧ s = wm9)) dX11_lasts_132 cvX11_374 okX11_drawn rfl (Nat.le_of_ble_eq_true rfl) (Nat.le_of_ble_eq_true rfl) (Nat.le_of_ble_eq_true rfl) (pX11_drawn  ((vX11_nextSeed s (vX11_nextSeed s (vX11_nextSeed s a5)))) ((gI s 5 7)) o8 ⟨rfl, rfl⟩) (fun zv9 wm9 hq9 => ?_)
      obtain ⟨rfl, rfl⟩ := hq9
      refine JT_istore (lv' := [(9, .int (vX11_drawn s (vX11_nextSeed s (vX11_nextSeed s (vX11_nextSeed s a5))) (gI s 5 7))), (5, .int (vX11_nextSeed s (vX11_nextSeed s (vX11_nextSeed s a5)))), (8, .int (vX11_drawn s (vX11_nextSeed s (vX11_nextSeed s a5)) (gI s 5 6))), (7, .int (vX11_drawn s (vX11_nextSeed s a5) (gI s 5 6))), (0, .ref 2), (1, .int a1), (2, .int a2), (3, .int a3), (4, .int a4), (6, .int a6)]) dX11_lasts_135 (Nat.le_of_ble_eq_true rfl) rfl ?_
      refine JT_iload (q := 1) dX11_lasts_137 rfl ?_
      refine JS_callSI (M' := MX11_nextSeed) (d' := 0) (As := [.int (vX11_nextSeed s (vX11_nextSeed s (vX11_nextSeed s a5)))]) (rest := []) (P := (fun zv9 wm9 => (vX11_nextSeed s (vX11_nextSeed s (vX11_nextSeed s (vX11_nextSeed s a5)))) = zv9 ∧ s = wm9)) dX11_lasts_139 cvX11_371 okX11_nextSeed rfl (Nat.le_of_ble_eq_true rfl) (Nat.le_of_ble_eq_true rfl) (Nat.le_of_ble_eq_true rfl) (pX11_nextSeed  ((vX11_nextSeed s (vX11_nextSeed s (vX11_nextSeed s a5))))  ⟨rfl, rfl⟩) (fun zv9 wm9 hq9 => ?_)
      obtain ⟨rfl, rfl⟩ := hq9
      refine JT_istore (lv' := [(5, .int (vX11_nextSeed s (vX11_nextSeed s (vX11_nextSeed s (vX11_nextSeed s a5))))), (9, .int (vX11_drawn s (vX11_nextSeed s (vX11_nextSeed s (vX11_nextSeed s a5))) (gI s 5 7))), (8, .int (vX11_drawn s (vX11_nextSeed s (vX11_nextSeed s a5)) (gI s 5 6))), (7, .int (vX11_drawn s (vX11_nextSeed s a5) (gI s 5 6))), (0, .ref 2), (1, .int a1), (2, .int a2), (3, .int a3), (4, .int a4), (6, .int a6)]) dX11_lasts_142 (Nat.le_of_ble_eq_true rfl) rfl ?_
      refine JT_iload (q := 0) dX11_lasts_144 rfl ?_
      refine JT_bipush (v := 99) dX11_lasts_146 bp_99 ?_
      obtain ⟨o6, h⟩ := h
      refine JS_callSI (M' := MX11_drawn) (d' := 0) (As := [.int (vX11_nextSeed s (vX11_nextSeed s (vX11_nextSeed s (vX11_nextSeed s a5)))), .int (99 : Int32)]) (rest := []) (P := (fun zv9 wm9 => (vX11_drawn s (vX11_nextSeed s (vX11_nextSeed s (vX11_nextSeed s (vX11_nextSeed s a5)))) (99 : Int32)) = zv9 ∧ s = wm9)) dX11_lasts_148 cvX11_374 okX11_drawn rfl (Nat.le_of_ble_eq_true rfl) (Nat.le_of_ble_eq_true rfl) (Nat.le_of_ble_eq_true rfl) (pX11_drawn  ((vX11_nextSeed s (vX11_nextSeed s (vX11_nextSeed s (vX11_nextSeed s a5))))) ((99 : Int32)) o6 ⟨rfl, rfl⟩) (fun zv9 wm9 hq9 => ?_)
      obtain ⟨rfl, rfl⟩ := hq9
      refine JT_iconst (v := 1) dX11_lasts_151 ic_1 ?_
      refine JT_iadd dX11_lasts_152 ?_
      refine JT_istore (lv' := [(10, .int ((vX11_drawn s (vX11_nextSeed s (vX11_nextSeed s (vX11_nextSeed s (vX11_nextSeed s a5)))) (99 : Int32)) + (1 : Int32))), (5, .int (vX11_nextSeed s (vX11_nextSeed s (vX11_nextSeed s (vX11_nextSeed s a5))))), (9, .int (vX11_drawn s (vX11_nextSeed s (vX11_nextSeed s (vX11_nextSeed s a5))) (gI s 5 7))), (8, .int (vX11_drawn s (vX11_nextSeed s (vX11_nextSeed s a5)) (gI s 5 6))), (7, .int (vX11_drawn s (vX11_nextSeed s a5) (gI s 5 6))), (0, .ref 2), (1, .int a1), (2, .int a2), (3, .int a3), (4, .int a4), (6, .int a6)]) dX11_lasts_153 (Nat.le_of_ble_eq_true rfl) rfl ?_
      refine JT_iload_n (q := 6) dX11_lasts_155 rfl rfl ?_
      refine JT_iconst (v := 1) dX11_lasts_156 ic_1 ?_
      refine JT_icmp_ne (tgt := 176) dX11_lasts_157 (by decide) (fun hc5 => ?_) (fun hc5 => ?_)
      · have h := h.1 hc5
        exact JT_sub [5, 6, 7, 8, 9, 1, 10, 4, 3, 2, 0] rfl h
      · have h := h.2 hc5
        refine JT_aload_n (q := 5) dX11_lasts_160 rfl rfl ?_
        refine JS_getR (x := 43) dX11_lasts_161 flX11_45 BS_2 (Nat.le_of_ble_eq_true rfl) (Nat.le_of_ble_eq_true rfl) (Or.inl ⟨_, ct_11_6⟩) RF_2_6 ?_
        refine JT_aload_n (q := 5) dX11_lasts_164 rfl rfl ?_
        refine JS_getR (x := 43) dX11_lasts_165 flX11_45 BS_2 (Nat.le_of_ble_eq_true rfl) (Nat.le_of_ble_eq_true rfl) (Or.inl ⟨_, ct_11_6⟩) RF_2_6 ?_
        refine JT_iload_n (q := 8) dX11_lasts_168 rfl rfl ?_
        refine JS_callVI (M' := MX4_latestOpen) (d' := 2) (As := [.int a3]) (rest := [.ref 43]) dX11_lasts_169 cvX11_377 okX4_latestOpen rfl (Nat.le_of_ble_eq_true rfl) BS_43 (Nat.le_of_ble_eq_true rfl) (Nat.le_of_ble_eq_true rfl) hci_4 (Nat.le_of_ble_eq_true rfl) (Nat.le_of_ble_eq_true rfl) h (fun x2 s1 h => ?_)
        refine JS_callVI (M' := MX4_tryStrike) (d' := 3) (As := [.int x2]) (rest := []) dX11_lasts_172 cvX11_311 okX4_tryStrike rfl (Nat.le_of_ble_eq_true rfl) BS_43 (Nat.le_of_ble_eq_true rfl) (Nat.le_of_ble_eq_true rfl) hci_4 (Nat.le_of_ble_eq_true rfl) (Nat.le_of_ble_eq_true rfl) h (fun x4 s3 h => ?_)
        refine JT_pop dX11_lasts_175 rfl ?_
        exact JT_sub [5, 6, 7, 8, 9, 1, 10, 4, 3, 2, 0] rfl h
set_option maxRecDepth 20000 in
theorem bX11_lasts_176 (a1 : Int32) (a2 : Int32) (a3 : Int32) (a4 : Int32) (a5 : Int32) (a6 : Int32) (a7 : Int32) (a8 : Int32) (a9 : Int32) (a10 : Int32) {s : SM} {Q : Int32 → SM → Prop} (h : rX4_tryWrite s 43 5 a7 a8 a10 a9 ∧ ((¬ (vX4_tryWrite s 43 5 a7 a8 a10 a9) = 0 → BI MX11_lasts 14 215 [(0, .ref 2), (1, .int a1), (2, .int a2), (3, .int a3), (4, .int a4), (5, .int a5), (6, .int a6), (7, .int a7), (8, .int a8), (9, .int a9), (10, .int a10), (11, .int (vX4_tryWrite s 43 5 a7 a8 a10 a9))] (mX4_tryWrite s 43 5 a7 a8 a10 a9) Q) ∧ ((vX4_tryWrite s 43 5 a7 a8 a10 a9) = 0 → ((¬ a1 = (2 : Int32) → BI MX11_lasts 14 215 [(0, .ref 2), (1, .int a1), (2, .int a2), (3, .int a3), (4, .int a4), (5, .int a5), (6, .int a6), (7, .int a7), (8, .int a8), (9, .int a9), (10, .int a10), (11, .int (vX4_tryWrite s 43 5 a7 a8 a10 a9))] (mX4_tryWrite s 43 5 a7 a8 a10 a9) Q) ∧ (a1 = (2 : Int32) → KI MX4_tryCut 13 [.ref 43, .ref 218] (mX4_tryWrite s 43 5 a7 a8 a10 a9) (fun x2 s1 => BI MX11_lasts 14 215 [(0, .ref 2), (1, .int a1), (2, .int a2), (3, .int a3), (4, .int a4), (5, .int a5), (6, .int a6), (7, .int a7), (8, .int a8), (9, .int a9), (10, .int a10), (11, .int (vX4_tryWrite s 43 5 a7 a8 a10 a9))] s1 Q)))))) : BI MX11_lasts 14 176 [(0, .ref 2), (1, .int a1), (2, .int a2), (3, .int a3), (4, .int a4), (5, .int a5), (6, .int a6), (7, .int a7), (8, .int a8), (9, .int a9), (10, .int a10)] s Q := by
  refine JT_aload_n (q := 0) dX11_lasts_176 rfl rfl ?_
  refine JS_getR (x := 43) dX11_lasts_177 flX11_45 BS_2 (Nat.le_of_ble_eq_true rfl) (Nat.le_of_ble_eq_true rfl) (Or.inl ⟨_, ct_11_6⟩) RF_2_6 ?_
  refine JT_iload (q := 7) dX11_lasts_180 rfl ?_
  refine JT_iload (q := 8) dX11_lasts_182 rfl ?_
  refine JT_iload (q := 10) dX11_lasts_184 rfl ?_
  refine JT_iload (q := 9) dX11_lasts_186 rfl ?_
  obtain ⟨o5, h⟩ := h
  refine JS_callVI (M' := MX4_tryWrite) (d' := 4) (As := [.int a7, .int a8, .int a10, .int a9]) (rest := []) (P := (fun zv9 wm9 => (vX4_tryWrite s 43 5 a7 a8 a10 a9) = zv9 ∧ (mX4_tryWrite s 43 5 a7 a8 a10 a9) = wm9)) dX11_lasts_188 cvX11_304 okX4_tryWrite rfl (Nat.le_of_ble_eq_true rfl) BS_43 (Nat.le_of_ble_eq_true rfl) (Nat.le_of_ble_eq_true rfl) hci_4 (Nat.le_of_ble_eq_true rfl) (Nat.le_of_ble_eq_true rfl) (pX4_tryWrite hL_43 (a7) (a8) (a10) (a9) o5 ⟨rfl, rfl⟩) (fun zv9 wm9 hq9 => ?_)
  obtain ⟨rfl, rfl⟩ := hq9
  refine JT_istore (lv' := [(11, .int (vX4_tryWrite s 43 5 a7 a8 a10 a9)), (0, .ref 2), (1, .int a1), (2, .int a2), (3, .int a3), (4, .int a4), (5, .int a5), (6, .int a6), (7, .int a7), (8, .int a8), (9, .int a9), (10, .int a10)]) dX11_lasts_191 (Nat.le_of_ble_eq_true rfl) rfl ?_
  refine JT_iload (q := 0) dX11_lasts_193 rfl ?_
  refine JT_if_ne (tgt := 215) dX11_lasts_195 (by decide) (fun hc4 => ?_) (fun hc4 => ?_)
  · have h := h.1 hc4
    exact JT_sub [1, 2, 3, 4, 5, 6, 7, 8, 9, 10, 11, 0] rfl h
  · have h := h.2 hc4
    refine JT_iload_n (q := 2) dX11_lasts_198 rfl rfl ?_
    refine JT_iconst (v := 2) dX11_lasts_199 ic_2 ?_
    refine JT_icmp_ne (tgt := 215) dX11_lasts_200 (by decide) (fun hc3 => ?_) (fun hc3 => ?_)
    · have h := h.1 hc3
      exact JT_sub [1, 2, 3, 4, 5, 6, 7, 8, 9, 10, 11, 0] rfl h
    · have h := h.2 hc3
      refine JT_aload_n (q := 1) dX11_lasts_203 rfl rfl ?_
      refine JS_getR (x := 43) dX11_lasts_204 flX11_45 BS_2 (Nat.le_of_ble_eq_true rfl) (Nat.le_of_ble_eq_true rfl) (Or.inl ⟨_, ct_11_6⟩) RF_2_6 ?_
      refine JT_aload_n (q := 1) dX11_lasts_207 rfl rfl ?_
      refine JS_getR (x := 218) dX11_lasts_208 flX11_65 BS_2 (Nat.le_of_ble_eq_true rfl) (Nat.le_of_ble_eq_true rfl) (Or.inl ⟨_, ct_11_9⟩) RF_2_9 ?_
      refine JS_callVI (M' := MX4_tryCut) (d' := 13) (As := [.ref 218]) (rest := []) dX11_lasts_211 cvX11_317 okX4_tryCut rfl (Nat.le_of_ble_eq_true rfl) BS_43 (Nat.le_of_ble_eq_true rfl) (Nat.le_of_ble_eq_true rfl) hci_4 (Nat.le_of_ble_eq_true rfl) (Nat.le_of_ble_eq_true rfl) h (fun x2 s1 h => ?_)
      refine JT_pop dX11_lasts_214 rfl ?_
      exact JT_sub [1, 2, 3, 4, 5, 6, 7, 8, 9, 10, 11, 0] rfl h
set_option maxRecDepth 20000 in
theorem bX11_lasts_215 (a1 : Int32) (a2 : Int32) (a3 : Int32) (a4 : Int32) (a5 : Int32) (a6 : Int32) (a7 : Int32) (a8 : Int32) (a9 : Int32) (a10 : Int32) (a11 : Int32) {s : SM} {Q : Int32 → SM → Prop} (h : BI MX11_lasts 14 59 [(0, .ref 2), (1, .int a1), (2, .int a2), (3, .int a3), (4, .int (a4 + (if a11 ≤ (1 : Int32) then (0 : Int32) else (1 : Int32)))), (5, .int a5), (6, .int (a6 + 1))] s Q) : BI MX11_lasts 14 215 [(0, .ref 2), (1, .int a1), (2, .int a2), (3, .int a3), (4, .int a4), (5, .int a5), (6, .int a6), (7, .int a7), (8, .int a8), (9, .int a9), (10, .int a10), (11, .int a11)] s Q := by
  refine JT_iload (q := 4) dX11_lasts_215 rfl ?_
  refine JT_iload (q := 11) dX11_lasts_217 rfl ?_
  refine JT_iconst (v := 1) dX11_lasts_219 ic_1 ?_
  have hj1 : ∀ v : Int32, v = (if a11 ≤ (1 : Int32) then (0 : Int32) else (1 : Int32)) → JT MX11_lasts 14 0 0 228 [(0, .ref 2), (1, .int a1), (2, .int a2), (3, .int a3), (4, .int a4), (5, .int a5), (6, .int a6), (7, .int a7), (8, .int a8), (9, .int a9), (10, .int a10), (11, .int a11)] [.int v, .int a4] (std s) (KQ Q) := by
    intro v hv
    subst hv
    refine JT_iadd dX11_lasts_228 ?_
    refine JT_istore (lv' := [(4, .int (a4 + (if a11 ≤ (1 : Int32) then (0 : Int32) else (1 : Int32)))), (0, .ref 2), (1, .int a1), (2, .int a2), (3, .int a3), (5, .int a5), (6, .int a6), (7, .int a7), (8, .int a8), (9, .int a9), (10, .int a10), (11, .int a11)]) dX11_lasts_229 (Nat.le_of_ble_eq_true rfl) rfl ?_
    refine JT_iinc (q := 6) (v := (a6 + 1)) (lv' := [(6, .int (a6 + 1)), (4, .int (a4 + (if a11 ≤ (1 : Int32) then (0 : Int32) else (1 : Int32)))), (0, .ref 2), (1, .int a1), (2, .int a2), (3, .int a3), (5, .int a5), (7, .int a7), (8, .int a8), (9, .int a9), (10, .int a10), (11, .int a11)]) dX11_lasts_231 rfl (by rfl) (Nat.le_of_ble_eq_true rfl) rfl ?_
    refine JT_goto (tgt := 59) dX11_lasts_234 (by decide) ?_
    exact JT_sub [2, 3, 4, 5, 1, 6, 0] rfl h
  refine JT_icmp_le (tgt := 227) dX11_lasts_220 (by decide) (fun hc2 => ?_) (fun hc2 => ?_)
  · refine JT_iconst (v := 0) dX11_lasts_227 ic_0 ?_
    exact hj1 _ (by rw [if_pos hc2])
  · refine JT_iconst (v := 1) dX11_lasts_223 ic_1 ?_
    refine JT_goto (tgt := 228) dX11_lasts_224 (by decide) ?_
    exact hj1 _ (by rw [if_neg hc2])
set_option maxRecDepth 20000 in
theorem bX11_lasts (a1 : Int32) (a2 : Int32) {s : SM} {Q : Int32 → SM → Prop} (h : ((a1 < 0 → Q (-1 : Int32) s) ∧ (¬ a1 < 0 → (((2 : Int32) < a1 → Q (-1 : Int32) s) ∧ (¬ (2 : Int32) < a1 → (((gI s 5 6) = 0 → Q (-1 : Int32) s) ∧ (¬ (gI s 5 6) = 0 → ((¬ (gI s 5 7) = 0 → rX4_copyFrom s 43 5 31 5 ∧ BI MX11_lasts 14 59 [(0, .ref 2), (1, .int a1), (2, .int a2), (3, .int (gI (mX4_copyFrom s 43 5 31 5) 43 9)), (4, .int (0 : Int32)), (5, .int a2), (6, .int (0 : Int32))] (mX4_copyFrom s 43 5 31 5) Q) ∧ ((gI s 5 7) = 0 → Q (-1 : Int32) s))))))))) : KI MX11_lasts 14 [.ref 2, .int a1, .int a2] s Q := by
  show BI MX11_lasts 14 0 [(0, .ref 2), (1, .int a1), (2, .int a2)] s Q
  refine JT_iload_n (q := 1) dX11_lasts_0 rfl rfl ?_
  refine JT_if_lt (tgt := 29) dX11_lasts_1 (by decide) (fun hc5 => ?_) (fun hc5 => ?_)
  · have h := h.1 hc5
    refine JT_iconst (v := -1) dX11_lasts_29 ic_m1 ?_
    exact JS_iret dX11_lasts_30 rfl rfl h
  · have h := h.2 hc5
    refine JT_iload_n (q := 1) dX11_lasts_4 rfl rfl ?_
    refine JT_iconst (v := 2) dX11_lasts_5 ic_2 ?_
    refine JT_icmp_gt (tgt := 29) dX11_lasts_6 (by decide) (fun hc4 => ?_) (fun hc4 => ?_)
    · have h := h.1 hc4
      refine JT_iconst (v := -1) dX11_lasts_29 ic_m1 ?_
      exact JS_iret dX11_lasts_30 rfl rfl h
    · have h := h.2 hc4
      refine JT_aload_n (q := 0) dX11_lasts_9 rfl rfl ?_
      refine JS_getR (x := 5) dX11_lasts_10 flX11_19 BS_2 (Nat.le_of_ble_eq_true rfl) (Nat.le_of_ble_eq_true rfl) (Or.inl ⟨_, ct_11_1⟩) RF_2_1 ?_
      refine JS_getI dX11_lasts_13 flX11_150 BS_5 (Nat.le_of_ble_eq_true rfl) (Nat.le_of_ble_eq_true rfl) (Or.inl ct_6_6) ?_
      refine JT_if_eq (tgt := 29) dX11_lasts_16 (by decide) (fun hc3 => ?_) (fun hc3 => ?_)
      · have h := h.1 hc3
        refine JT_iconst (v := -1) dX11_lasts_29 ic_m1 ?_
        exact JS_iret dX11_lasts_30 rfl rfl h
      · have h := h.2 hc3
        refine JT_aload_n (q := 0) dX11_lasts_19 rfl rfl ?_
        refine JS_getR (x := 5) dX11_lasts_20 flX11_19 BS_2 (Nat.le_of_ble_eq_true rfl) (Nat.le_of_ble_eq_true rfl) (Or.inl ⟨_, ct_11_1⟩) RF_2_1 ?_
        refine JS_getI dX11_lasts_23 flX11_153 BS_5 (Nat.le_of_ble_eq_true rfl) (Nat.le_of_ble_eq_true rfl) (Or.inl ct_6_7) ?_
        refine JT_if_ne (tgt := 31) dX11_lasts_26 (by decide) (fun hc2 => ?_) (fun hc2 => ?_)
        · have h := h.1 hc2
          refine JT_aload_n (q := 0) dX11_lasts_31 rfl rfl ?_
          refine JS_getR (x := 43) dX11_lasts_32 flX11_45 BS_2 (Nat.le_of_ble_eq_true rfl) (Nat.le_of_ble_eq_true rfl) (Or.inl ⟨_, ct_11_6⟩) RF_2_6 ?_
          refine JT_aload_n (q := 0) dX11_lasts_35 rfl rfl ?_
          refine JS_getR (x := 31) dX11_lasts_36 flX11_41 BS_2 (Nat.le_of_ble_eq_true rfl) (Nat.le_of_ble_eq_true rfl) (Or.inl ⟨_, ct_11_5⟩) RF_2_5 ?_
          obtain ⟨o1, h⟩ := h
          refine JS_callVV (M' := MX4_copyFrom) (d' := 1) (As := [.ref 31]) (rest := []) (P := (fun wm9 => (mX4_copyFrom s 43 5 31 5) = wm9)) dX11_lasts_39 cvX11_358 okX4_copyFrom rfl (Nat.le_of_ble_eq_true rfl) BS_43 (Nat.le_of_ble_eq_true rfl) (Nat.le_of_ble_eq_true rfl) hci_4 (Nat.le_of_ble_eq_true rfl) (Nat.le_of_ble_eq_true rfl) (pX4_copyFrom hL_43 hL_31  o1 rfl) (fun wm9 hq9 => ?_)
          subst hq9
          refine JT_aload_n (q := 0) dX11_lasts_42 rfl rfl ?_
          refine JS_getR (x := 43) dX11_lasts_43 flX11_45 BS_2 (Nat.le_of_ble_eq_true rfl) (Nat.le_of_ble_eq_true rfl) (Or.inl ⟨_, ct_11_6⟩) RF_2_6 ?_
          refine JS_getI dX11_lasts_46 flX11_162 BS_43 (Nat.le_of_ble_eq_true rfl) (Nat.le_of_ble_eq_true rfl) (Or.inl ct_4_9) ?_
          refine JT_istore_n (lv' := [(3, .int (gI (mX4_copyFrom s 43 5 31 5) 43 9)), (0, .ref 2), (1, .int a1), (2, .int a2)]) dX11_lasts_49 rfl (Nat.le_of_ble_eq_true rfl) rfl ?_
          refine JT_iconst (v := 0) dX11_lasts_50 ic_0 ?_
          refine JT_istore (lv' := [(4, .int (0 : Int32)), (3, .int (gI (mX4_copyFrom s 43 5 31 5) 43 9)), (0, .ref 2), (1, .int a1), (2, .int a2)]) dX11_lasts_51 (Nat.le_of_ble_eq_true rfl) rfl ?_
          refine JT_iload_n (q := 4) dX11_lasts_53 rfl rfl ?_
          refine JT_istore (lv' := [(5, .int a2), (4, .int (0 : Int32)), (3, .int (gI (mX4_copyFrom s 43 5 31 5) 43 9)), (0, .ref 2), (1, .int a1), (2, .int a2)]) dX11_lasts_54 (Nat.le_of_ble_eq_true rfl) rfl ?_
          refine JT_iconst (v := 0) dX11_lasts_56 ic_0 ?_
          refine JT_istore (lv' := [(6, .int (0 : Int32)), (5, .int a2), (4, .int (0 : Int32)), (3, .int (gI (mX4_copyFrom s 43 5 31 5) 43 9)), (0, .ref 2), (1, .int a1), (2, .int a2)]) dX11_lasts_57 (Nat.le_of_ble_eq_true rfl) rfl ?_
          exact JT_sub [4, 5, 6, 3, 2, 1, 0] rfl h
        · have h := h.2 hc2
          refine JT_iconst (v := -1) dX11_lasts_29 ic_m1 ?_
          exact JS_iret dX11_lasts_30 rfl rfl h
set_option maxRecDepth 20000 in
theorem bX11_ringsFor_29 (a1 : Int32) (a2 : Int32) (a3 : Int32) (a4 : Int32) {s : SM} {Q : Int32 → SM → Prop} (h : (((60 : Int32) < a4 → Q (-1 : Int32) s) ∧ (¬ (60 : Int32) < a4 → rX4_wrongToWrite s 43 5 a1 a2 a3 ∧ ((¬ (vX4_wrongToWrite s 43 5 a1 a2 a3) = 0 → (((vX4_wrongToWrite s 43 5 a1 a2 a3) = (1 : Int32) → Q (-1 : Int32) (mX4_wrongToWrite s 43 5 a1 a2 a3)) ∧ (¬ (vX4_wrongToWrite s 43 5 a1 a2 a3) = (1 : Int32) → KI MX4_tryCut 13 [.ref 43, .ref 218] (mX4_wrongToWrite s 43 5 a1 a2 a3) (fun x2 s1 => ((x2 = 0 → BI MX11_ringsFor 14 29 [(0, .ref 2), (1, .int a1), (2, .int a2), (3, .int a3), (4, .int (a4 + 1))] s1 Q) ∧ (¬ x2 = 0 → Q (-1 : Int32) s1)))))) ∧ ((vX4_wrongToWrite s 43 5 a1 a2 a3) = 0 → Q a4 (mX4_wrongToWrite s 43 5 a1 a2 a3)))))) : BI MX11_ringsFor 14 29 [(0, .ref 2), (1, .int a1), (2, .int a2), (3, .int a3), (4, .int a4)] s Q := by
  refine JT_iload (q := 4) dX11_ringsFor_29 rfl ?_
  refine JT_bipush (v := 60) dX11_ringsFor_31 bp_60 ?_
  refine JT_icmp_gt (tgt := 84) dX11_ringsFor_33 (by decide) (fun hc7 => ?_) (fun hc7 => ?_)
  · have h := h.1 hc7
    refine JT_iconst (v := -1) dX11_ringsFor_84 ic_m1 ?_
    exact JS_iret dX11_ringsFor_85 rfl rfl h
  · have h := h.2 hc7
    refine JT_aload_n (q := 0) dX11_ringsFor_36 rfl rfl ?_
    refine JS_getR (x := 43) dX11_ringsFor_37 flX11_45 BS_2 (Nat.le_of_ble_eq_true rfl) (Nat.le_of_ble_eq_true rfl) (Or.inl ⟨_, ct_11_6⟩) RF_2_6 ?_
    refine JT_iload_n (q := 1) dX11_ringsFor_40 rfl rfl ?_
    refine JT_iload_n (q := 2) dX11_ringsFor_41 rfl rfl ?_
    refine JT_iload_n (q := 3) dX11_ringsFor_42 rfl rfl ?_
    obtain ⟨o6, h⟩ := h
    refine JS_callVI (M' := MX4_wrongToWrite) (d' := 3) (As := [.int a1, .int a2, .int a3]) (rest := []) (P := (fun zv9 wm9 => (vX4_wrongToWrite s 43 5 a1 a2 a3) = zv9 ∧ (mX4_wrongToWrite s 43 5 a1 a2 a3) = wm9)) dX11_ringsFor_43 cvX11_354 okX4_wrongToWrite rfl (Nat.le_of_ble_eq_true rfl) BS_43 (Nat.le_of_ble_eq_true rfl) (Nat.le_of_ble_eq_true rfl) hci_4 (Nat.le_of_ble_eq_true rfl) (Nat.le_of_ble_eq_true rfl) (pX4_wrongToWrite hL_43 (a1) (a2) (a3) o6 ⟨rfl, rfl⟩) (fun zv9 wm9 hq9 => ?_)
    obtain ⟨rfl, rfl⟩ := hq9
    refine JT_istore (lv' := [(5, .int (vX4_wrongToWrite s 43 5 a1 a2 a3)), (0, .ref 2), (1, .int a1), (2, .int a2), (3, .int a3), (4, .int a4)]) dX11_ringsFor_46 (Nat.le_of_ble_eq_true rfl) rfl ?_
    refine JT_iload (q := 0) dX11_ringsFor_48 rfl ?_
    refine JT_if_ne (tgt := 56) dX11_ringsFor_50 (by decide) (fun hc5 => ?_) (fun hc5 => ?_)
    · have h := h.1 hc5
      refine JT_iload (q := 0) dX11_ringsFor_56 rfl ?_
      refine JT_iconst (v := 1) dX11_ringsFor_58 ic_1 ?_
      refine JT_icmp_eq (tgt := 76) dX11_ringsFor_59 (by decide) (fun hc4 => ?_) (fun hc4 => ?_)
      · have h := h.1 hc4
        refine JT_iconst (v := -1) dX11_ringsFor_76 ic_m1 ?_
        exact JS_iret dX11_ringsFor_77 rfl rfl h
      · have h := h.2 hc4
        refine JT_aload_n (q := 1) dX11_ringsFor_62 rfl rfl ?_
        refine JS_getR (x := 43) dX11_ringsFor_63 flX11_45 BS_2 (Nat.le_of_ble_eq_true rfl) (Nat.le_of_ble_eq_true rfl) (Or.inl ⟨_, ct_11_6⟩) RF_2_6 ?_
        refine JT_aload_n (q := 1) dX11_ringsFor_66 rfl rfl ?_
        refine JS_getR (x := 218) dX11_ringsFor_67 flX11_65 BS_2 (Nat.le_of_ble_eq_true rfl) (Nat.le_of_ble_eq_true rfl) (Or.inl ⟨_, ct_11_9⟩) RF_2_9 ?_
        refine JS_callVI (M' := MX4_tryCut) (d' := 13) (As := [.ref 218]) (rest := []) dX11_ringsFor_70 cvX11_317 okX4_tryCut rfl (Nat.le_of_ble_eq_true rfl) BS_43 (Nat.le_of_ble_eq_true rfl) (Nat.le_of_ble_eq_true rfl) hci_4 (Nat.le_of_ble_eq_true rfl) (Nat.le_of_ble_eq_true rfl) h (fun x2 s1 h => ?_)
        refine JT_if_eq (tgt := 78) dX11_ringsFor_73 (by decide) (fun hc3 => ?_) (fun hc3 => ?_)
        · have h := h.1 hc3
          refine JT_iinc (q := 5) (v := (a4 + 1)) (lv' := [(4, .int (a4 + 1)), (5, .int (vX4_wrongToWrite s 43 5 a1 a2 a3)), (0, .ref 2), (1, .int a1), (2, .int a2), (3, .int a3)]) dX11_ringsFor_78 rfl (by rfl) (Nat.le_of_ble_eq_true rfl) rfl ?_
          refine JT_goto (tgt := 29) dX11_ringsFor_81 (by decide) ?_
          exact JT_sub [2, 3, 4, 5, 0] rfl h
        · have h := h.2 hc3
          refine JT_iconst (v := -1) dX11_ringsFor_76 ic_m1 ?_
          exact JS_iret dX11_ringsFor_77 rfl rfl h
    · have h := h.2 hc5
      refine JT_iload (q := 5) dX11_ringsFor_53 rfl ?_
      exact JS_iret dX11_ringsFor_55 rfl rfl h
set_option maxRecDepth 20000 in
theorem bX11_ringsFor (a1 : Int32) (a2 : Int32) (a3 : Int32) {s : SM} {Q : Int32 → SM → Prop} (h : ((¬ (vX6_hasDealers s 5 a1 a2 a3) = 0 → rX4_copyFrom s 43 5 31 5 ∧ BI MX11_ringsFor 14 29 [(0, .ref 2), (1, .int a1), (2, .int a2), (3, .int a3), (4, .int (0 : Int32))] (mX4_copyFrom s 43 5 31 5) Q) ∧ ((vX6_hasDealers s 5 a1 a2 a3) = 0 → Q (-1 : Int32) s))) : KI MX11_ringsFor 14 [.ref 2, .int a1, .int a2, .int a3] s Q := by
  show BI MX11_ringsFor 14 0 [(0, .ref 2), (1, .int a1), (2, .int a2), (3, .int a3)] s Q
  refine JT_aload_n (q := 0) dX11_ringsFor_0 rfl rfl ?_
  refine JS_getR (x := 5) dX11_ringsFor_1 flX11_19 BS_2 (Nat.le_of_ble_eq_true rfl) (Nat.le_of_ble_eq_true rfl) (Or.inl ⟨_, ct_11_1⟩) RF_2_1 ?_
  refine JT_iload_n (q := 1) dX11_ringsFor_4 rfl rfl ?_
  refine JT_iload_n (q := 2) dX11_ringsFor_5 rfl rfl ?_
  refine JT_iload_n (q := 3) dX11_ringsFor_6 rfl rfl ?_
  refine JS_callVI (M' := MX6_hasDealers) (d' := 1) (As := [.int a1, .int a2, .int a3]) (rest := []) (P := (fun zv9 wm9 => (vX6_hasDealers s 5 a1 a2 a3) = zv9 ∧ s = wm9)) dX11_ringsFor_7 cvX11_296 okX6_hasDealers rfl (Nat.le_of_ble_eq_true rfl) BS_5 (Nat.le_of_ble_eq_true rfl) (Nat.le_of_ble_eq_true rfl) hci_6 (Nat.le_of_ble_eq_true rfl) (Nat.le_of_ble_eq_true rfl) (pX6_hasDealers hp_5 (a1) (a2) (a3)  ⟨rfl, rfl⟩) (fun zv9 wm9 hq9 => ?_)
  obtain ⟨rfl, rfl⟩ := hq9
  refine JT_if_ne (tgt := 15) dX11_ringsFor_10 (by decide) (fun hc2 => ?_) (fun hc2 => ?_)
  · have h := h.1 hc2
    refine JT_aload_n (q := 0) dX11_ringsFor_15 rfl rfl ?_
    refine JS_getR (x := 43) dX11_ringsFor_16 flX11_45 BS_2 (Nat.le_of_ble_eq_true rfl) (Nat.le_of_ble_eq_true rfl) (Or.inl ⟨_, ct_11_6⟩) RF_2_6 ?_
    refine JT_aload_n (q := 0) dX11_ringsFor_19 rfl rfl ?_
    refine JS_getR (x := 31) dX11_ringsFor_20 flX11_41 BS_2 (Nat.le_of_ble_eq_true rfl) (Nat.le_of_ble_eq_true rfl) (Or.inl ⟨_, ct_11_5⟩) RF_2_5 ?_
    obtain ⟨o1, h⟩ := h
    refine JS_callVV (M' := MX4_copyFrom) (d' := 1) (As := [.ref 31]) (rest := []) (P := (fun wm9 => (mX4_copyFrom s 43 5 31 5) = wm9)) dX11_ringsFor_23 cvX11_358 okX4_copyFrom rfl (Nat.le_of_ble_eq_true rfl) BS_43 (Nat.le_of_ble_eq_true rfl) (Nat.le_of_ble_eq_true rfl) hci_4 (Nat.le_of_ble_eq_true rfl) (Nat.le_of_ble_eq_true rfl) (pX4_copyFrom hL_43 hL_31  o1 rfl) (fun wm9 hq9 => ?_)
    subst hq9
    refine JT_iconst (v := 0) dX11_ringsFor_26 ic_0 ?_
    refine JT_istore (lv' := [(4, .int (0 : Int32)), (0, .ref 2), (1, .int a1), (2, .int a2), (3, .int a3)]) dX11_ringsFor_27 (Nat.le_of_ble_eq_true rfl) rfl ?_
    exact JT_sub [1, 2, 3, 4, 0] rfl h
  · have h := h.2 hc2
    refine JT_iconst (v := -1) dX11_ringsFor_13 ic_m1 ?_
    exact JS_iret dX11_ringsFor_14 rfl rfl h
set_option maxRecDepth 20000 in
theorem bX11_judge_64 (a1 : Int32) {L2 P2 : Nat} (hL2 : (L2, P2) ∈ LX) (a3 : Int32) (a4 : Int32) {s : SM} {Q : Int32 → SM → Prop} (h : (((gI s 19 0) ≤ a4 → BI MX11_judge 15 112 [(0, .ref 2), (1, .int a1), (2, .ref L2), (3, .int a3), (4, .int a4)] s Q) ∧ (¬ (gI s 19 0) ≤ a4 → ((¬ a3 = 0 → BI MX11_judge 15 112 [(0, .ref 2), (1, .int a1), (2, .ref L2), (3, .int a3), (4, .int a4)] s Q) ∧ (a3 = 0 → KI MX0_tryLine 14 [.ref 19, .int a4, .ref L2, .ref 218] s (fun x2 s1 => BI MX11_judge 15 64 [(0, .ref 2), (1, .int a1), (2, .ref L2), (3, .int x2), (4, .int (a4 + (if x2 = 0 then (1 : Int32) else (0 : Int32))))] s1 Q)))))) : BI MX11_judge 15 64 [(0, .ref 2), (1, .int a1), (2, .ref L2), (3, .int a3), (4, .int a4)] s Q := by
  refine JT_iload (q := 4) dX11_judge_64 rfl ?_
  refine JT_aload_n (q := 0) dX11_judge_66 rfl rfl ?_
  refine JS_getR (x := 19) dX11_judge_67 flX11_29 BS_2 (Nat.le_of_ble_eq_true rfl) (Nat.le_of_ble_eq_true rfl) (Or.inl ⟨_, ct_11_3⟩) RF_2_3 ?_
  refine JS_getI dX11_judge_70 flX11_134 BS_19 (Nat.le_of_ble_eq_true rfl) (Nat.le_of_ble_eq_true rfl) (Or.inl ct_0_0) ?_
  refine JT_icmp_ge (tgt := 112) dX11_judge_73 (by decide) (fun hc6 => ?_) (fun hc6 => ?_)
  · have h := h.1 hc6
    exact JT_sub [0, 1, 2, 3, 4] rfl h
  · have h := h.2 hc6
    refine JT_iload_n (q := 3) dX11_judge_76 rfl rfl ?_
    refine JT_if_ne (tgt := 112) dX11_judge_77 (by decide) (fun hc5 => ?_) (fun hc5 => ?_)
    · have h := h.1 hc5
      exact JT_sub [0, 1, 2, 3, 4] rfl h
    · have h := h.2 hc5
      refine JT_aload_n (q := 0) dX11_judge_80 rfl rfl ?_
      refine JS_getR (x := 19) dX11_judge_81 flX11_29 BS_2 (Nat.le_of_ble_eq_true rfl) (Nat.le_of_ble_eq_true rfl) (Or.inl ⟨_, ct_11_3⟩) RF_2_3 ?_
      refine JT_iload (q := 4) dX11_judge_84 rfl ?_
      refine JT_aload_n (q := 2) dX11_judge_86 rfl rfl ?_
      refine JT_aload_n (q := 0) dX11_judge_87 rfl rfl ?_
      refine JS_getR (x := 218) dX11_judge_88 flX11_65 BS_2 (Nat.le_of_ble_eq_true rfl) (Nat.le_of_ble_eq_true rfl) (Or.inl ⟨_, ct_11_9⟩) RF_2_9 ?_
      refine JS_callVI (M' := MX0_tryLine) (d' := 14) (As := [.int a4, .ref L2, .ref 218]) (rest := []) dX11_judge_91 cvX11_360 okX0_tryLine rfl (Nat.le_of_ble_eq_true rfl) BS_19 (Nat.le_of_ble_eq_true rfl) (Nat.le_of_ble_eq_true rfl) hci_0 (Nat.le_of_ble_eq_true rfl) (Nat.le_of_ble_eq_true rfl) h (fun x2 s1 h => ?_)
      refine JT_istore_n (lv' := [(3, .int x2), (0, .ref 2), (1, .int a1), (2, .ref L2), (4, .int a4)]) dX11_judge_94 rfl (Nat.le_of_ble_eq_true rfl) rfl ?_
      refine JT_iload (q := 4) dX11_judge_95 rfl ?_
      refine JT_iload_n (q := 0) dX11_judge_97 rfl rfl ?_
      have hj3 : ∀ v : Int32, v = (if x2 = 0 then (1 : Int32) else (0 : Int32)) → JT MX11_judge 15 0 0 106 [(3, .int x2), (0, .ref 2), (1, .int a1), (2, .ref L2), (4, .int a4)] [.int v, .int a4] (std s1) (KQ Q) := by
        intro v hv
        subst hv
        refine JT_iadd dX11_judge_106 ?_
        refine JT_istore (lv' := [(4, .int (a4 + (if x2 = 0 then (1 : Int32) else (0 : Int32)))), (3, .int x2), (0, .ref 2), (1, .int a1), (2, .ref L2)]) dX11_judge_107 (Nat.le_of_ble_eq_true rfl) rfl ?_
        refine JT_goto (tgt := 64) dX11_judge_109 (by decide) ?_
        exact JT_sub [2, 3, 4, 1, 0] rfl h
      refine JT_if_ne (tgt := 105) dX11_judge_98 (by decide) (fun hc4 => ?_) (fun hc4 => ?_)
      · refine JT_iconst (v := 0) dX11_judge_105 ic_0 ?_
        exact hj3 _ (by rw [if_neg hc4])
      · refine JT_iconst (v := 1) dX11_judge_101 ic_1 ?_
        refine JT_goto (tgt := 106) dX11_judge_102 (by decide) ?_
        exact hj3 _ (by rw [if_pos hc4])
set_option maxRecDepth 20000 in
theorem bX11_judge_112 (a1 : Int32) {L2 P2 : Nat} (hL2 : (L2, P2) ∈ LX) (a3 : Int32) (a4 : Int32) {s : SM} {Q : Int32 → SM → Prop} (h : ((¬ a1 = (1 : Int32) → BI MX11_judge 15 129 [(0, .ref 2), (1, .int a1), (2, .ref L2), (3, .int a3), (4, .int a4)] s Q) ∧ (a1 = (1 : Int32) → ((a4 ≤ 0 → BI MX11_judge 15 129 [(0, .ref 2), (1, .int a1), (2, .ref L2), (3, .int a3), (4, .int a4)] s Q) ∧ (¬ a4 ≤ 0 → BI MX11_judge 15 129 [(0, .ref 2), (1, .int a1), (2, .ref L2), (3, .int a3), (4, .int a4)] (mX2_keepNoted s ) Q))))) : BI MX11_judge 15 112 [(0, .ref 2), (1, .int a1), (2, .ref L2), (3, .int a3), (4, .int a4)] s Q := by
  refine JT_iload_n (q := 1) dX11_judge_112 rfl rfl ?_
  refine JT_iconst (v := 1) dX11_judge_113 ic_1 ?_
  refine JT_icmp_ne (tgt := 129) dX11_judge_114 (by decide) (fun hc3 => ?_) (fun hc3 => ?_)
  · have h := h.1 hc3
    exact JT_sub [0, 1, 2, 3, 4] rfl h
  · have h := h.2 hc3
    refine JT_iload (q := 4) dX11_judge_117 rfl ?_
    refine JT_if_le (tgt := 129) dX11_judge_119 (by decide) (fun hc2 => ?_) (fun hc2 => ?_)
    · have h := h.1 hc2
      exact JT_sub [0, 1, 2, 3, 4] rfl h
    · have h := h.2 hc2
      refine JT_aload_n (q := 0) dX11_judge_122 rfl rfl ?_
      refine JS_getR (x := 55) dX11_judge_123 flX11_51 BS_2 (Nat.le_of_ble_eq_true rfl) (Nat.le_of_ble_eq_true rfl) (Or.inl ⟨_, ct_11_7⟩) RF_2_7 ?_
      refine JS_callVV (M' := MX2_keepNoted) (d' := 1) (As := []) (rest := []) (P := (fun wm9 => (mX2_keepNoted s ) = wm9)) dX11_judge_126 cvX11_308 okX2_keepNoted rfl (Nat.le_of_ble_eq_true rfl) BS_55 (Nat.le_of_ble_eq_true rfl) (Nat.le_of_ble_eq_true rfl) hci_2 (Nat.le_of_ble_eq_true rfl) (Nat.le_of_ble_eq_true rfl) (pX2_keepNoted    rfl) (fun wm9 hq9 => ?_)
      subst hq9
      exact JT_sub [0, 1, 2, 3, 4] rfl h
set_option maxRecDepth 20000 in
theorem bX11_judge_129 (a1 : Int32) {L2 P2 : Nat} (hL2 : (L2, P2) ∈ LX) (a3 : Int32) (a4 : Int32) {s : SM} {Q : Int32 → SM → Prop} (h : KI MX4_openDeals 2 [.ref L2] (pI (pI (pI s 2 17 (1 : Int32)) 247 ((0 : Int32)).toNatClampNeg a3) 247 ((1 : Int32)).toNatClampNeg a4) (fun x2 s1 => KI MX4_leftOfLiving 1 [.ref L2] (pI s1 247 ((2 : Int32)).toNatClampNeg x2) (fun x4 s3 => (∀ s5, s5 = (pI (pI s3 247 ((3 : Int32)).toNatClampNeg x4) 247 ((4 : Int32)).toNatClampNeg (gI (pI s3 247 ((3 : Int32)).toNatClampNeg x4) L2 10)) → Q (if a3 = 0 then (-1 : Int32) else a4) s5)))) : BI MX11_judge 15 129 [(0, .ref 2), (1, .int a1), (2, .ref L2), (3, .int a3), (4, .int a4)] s Q := by
  refine JT_aload_n (q := 0) dX11_judge_129 rfl rfl ?_
  refine JT_iconst (v := 1) dX11_judge_130 ic_1 ?_
  refine JS_putZ dX11_judge_131 flX11_364 BS_2 (Nat.le_of_ble_eq_true rfl) (Nat.le_of_ble_eq_true rfl) ct_11_17 (Or.inr rfl) ?_
  refine JT_aload_n (q := 0) dX11_judge_134 rfl rfl ?_
  refine JS_getR (x := 247) dX11_judge_135 flX11_101 BS_2 (Nat.le_of_ble_eq_true rfl) (Nat.le_of_ble_eq_true rfl) (Or.inr ⟨_, ct_11_16⟩) RF_2_16 ?_
  refine JT_iconst (v := 0) dX11_judge_138 ic_0 ?_
  refine JT_iload_n (q := 3) dX11_judge_139 rfl rfl ?_
  refine JS_iast dX11_judge_140 BS_247 (Nat.le_of_ble_eq_true rfl) (Nat.le_of_ble_eq_true rfl) (by unfold vp_in; decide) ?_
  refine JT_aload_n (q := 0) dX11_judge_141 rfl rfl ?_
  refine JS_getR (x := 247) dX11_judge_142 flX11_101 BS_2 (Nat.le_of_ble_eq_true rfl) (Nat.le_of_ble_eq_true rfl) (Or.inr ⟨_, ct_11_16⟩) RF_2_16 ?_
  refine JT_iconst (v := 1) dX11_judge_145 ic_1 ?_
  refine JT_iload (q := 4) dX11_judge_146 rfl ?_
  refine JS_iast dX11_judge_148 BS_247 (Nat.le_of_ble_eq_true rfl) (Nat.le_of_ble_eq_true rfl) (by unfold vp_in; decide) ?_
  refine JT_aload_n (q := 0) dX11_judge_149 rfl rfl ?_
  refine JS_getR (x := 247) dX11_judge_150 flX11_101 BS_2 (Nat.le_of_ble_eq_true rfl) (Nat.le_of_ble_eq_true rfl) (Or.inr ⟨_, ct_11_16⟩) RF_2_16 ?_
  refine JT_iconst (v := 2) dX11_judge_153 ic_2 ?_
  refine JT_aload_n (q := 2) dX11_judge_154 rfl rfl ?_
  refine JS_callVI (M' := MX4_openDeals) (d' := 2) (As := []) (rest := [.int (2 : Int32), .ref 247]) dX11_judge_155 cvX11_165 okX4_openDeals rfl (Nat.le_of_ble_eq_true rfl) (lxB hL2) (lx2 hL2) (lxN hL2) hci_4 (Nat.le_of_ble_eq_true rfl) (Nat.le_of_ble_eq_true rfl) h (fun x2 s1 h => ?_)
  refine JS_iast dX11_judge_158 BS_247 (Nat.le_of_ble_eq_true rfl) (Nat.le_of_ble_eq_true rfl) (by unfold vp_in; decide) ?_
  refine JT_aload_n (q := 0) dX11_judge_159 rfl rfl ?_
  refine JS_getR (x := 247) dX11_judge_160 flX11_101 BS_2 (Nat.le_of_ble_eq_true rfl) (Nat.le_of_ble_eq_true rfl) (Or.inr ⟨_, ct_11_16⟩) RF_2_16 ?_
  refine JT_iconst (v := 3) dX11_judge_163 ic_3 ?_
  refine JT_aload_n (q := 2) dX11_judge_164 rfl rfl ?_
  refine JS_callVI (M' := MX4_leftOfLiving) (d' := 1) (As := []) (rest := [.int (3 : Int32), .ref 247]) dX11_judge_165 cvX11_368 okX4_leftOfLiving rfl (Nat.le_of_ble_eq_true rfl) (lxB hL2) (lx2 hL2) (lxN hL2) hci_4 (Nat.le_of_ble_eq_true rfl) (Nat.le_of_ble_eq_true rfl) h (fun x4 s3 h => ?_)
  refine JS_iast dX11_judge_168 BS_247 (Nat.le_of_ble_eq_true rfl) (Nat.le_of_ble_eq_true rfl) (by unfold vp_in; decide) ?_
  refine JT_aload_n (q := 0) dX11_judge_169 rfl rfl ?_
  refine JS_getR (x := 247) dX11_judge_170 flX11_101 BS_2 (Nat.le_of_ble_eq_true rfl) (Nat.le_of_ble_eq_true rfl) (Or.inr ⟨_, ct_11_16⟩) RF_2_16 ?_
  refine JT_iconst (v := 4) dX11_judge_173 ic_4 ?_
  refine JT_aload_n (q := 2) dX11_judge_174 rfl rfl ?_
  refine JS_getI dX11_judge_175 flX11_169 (lxB hL2) (lx2 hL2) (lxN hL2) (Or.inl ct_4_10) ?_
  refine JS_iast dX11_judge_178 BS_247 (Nat.le_of_ble_eq_true rfl) (Nat.le_of_ble_eq_true rfl) (by unfold vp_in; decide) ?_
  obtain ⟨s5, hs5⟩ : ∃ z, z = (pI (pI s3 247 ((3 : Int32)).toNatClampNeg x4) 247 ((4 : Int32)).toNatClampNeg (gI (pI s3 247 ((3 : Int32)).toNatClampNeg x4) L2 10)) := ⟨_, rfl⟩
  replace h := h s5 hs5
  rw [← hs5]
  refine JT_iload_n (q := 3) dX11_judge_179 rfl rfl ?_
  have hj6 : ∀ v : Int32, v = (if a3 = 0 then (-1 : Int32) else a4) → JT MX11_judge 15 0 0 189 [(0, .ref 2), (1, .int a1), (2, .ref L2), (3, .int a3), (4, .int a4)] [.int v] (std s5) (KQ Q) := by
    intro v hv
    subst hv
    exact JS_iret dX11_judge_189 rfl rfl h
  refine JT_if_ne (tgt := 187) dX11_judge_180 (by decide) (fun hc7 => ?_) (fun hc7 => ?_)
  · refine JT_iload (q := 4) dX11_judge_187 rfl ?_
    exact hj6 _ (by rw [if_neg hc7])
  · refine JT_iconst (v := -1) dX11_judge_183 ic_m1 ?_
    refine JT_goto (tgt := 189) dX11_judge_184 (by decide) ?_
    exact hj6 _ (by rw [if_pos hc7])
set_option maxRecDepth 20000 in
theorem bX11_judge (a1 : Int32) {s : SM} {Q : Int32 → SM → Prop} (h : ((a1 < 0 → Q (-2 : Int32) s) ∧ (¬ a1 < 0 → ((a1 ≤ (1 : Int32) → ((¬ a1 = (1 : Int32) → ((¬ a1 = (1 : Int32) → rX4_copyFrom s 43 5 31 5 ∧ BI MX11_judge 15 64 [(0, .ref 2), (1, .int a1), (2, .ref 43), (3, .int (0 : Int32)), (4, .int (0 : Int32))] (mX4_copyFrom s 43 5 31 5) Q) ∧ (a1 = (1 : Int32) → KV MX2_note 2 [.ref 55, .ref 31] s (fun s2 => BI MX11_judge 15 64 [(0, .ref 2), (1, .int a1), (2, .ref 43), (3, .int (0 : Int32)), (4, .int (0 : Int32))] s2 Q)))) ∧ (a1 = (1 : Int32) → ((¬ a1 = (1 : Int32) → rX4_copyFrom s 43 5 31 5 ∧ BI MX11_judge 15 64 [(0, .ref 2), (1, .int a1), (2, .ref 31), (3, .int (0 : Int32)), (4, .int (0 : Int32))] (mX4_copyFrom s 43 5 31 5) Q) ∧ (a1 = (1 : Int32) → KV MX2_note 2 [.ref 55, .ref 31] s (fun s6 => BI MX11_judge 15 64 [(0, .ref 2), (1, .int a1), (2, .ref 31), (3, .int (0 : Int32)), (4, .int (0 : Int32))] s6 Q)))))) ∧ (¬ a1 ≤ (1 : Int32) → Q (-2 : Int32) s))))) : KI MX11_judge 15 [.ref 2, .int a1] s Q := by
  show BI MX11_judge 15 0 [(0, .ref 2), (1, .int a1)] s Q
  refine JT_iload_n (q := 1) dX11_judge_0 rfl rfl ?_
  refine JT_if_lt (tgt := 9) dX11_judge_1 (by decide) (fun hc11 => ?_) (fun hc11 => ?_)
  · have h := h.1 hc11
    refine JT_bipush (v := -2) dX11_judge_9 bp_m2 ?_
    exact JS_iret dX11_judge_11 rfl rfl h
  · have h := h.2 hc11
    refine JT_iload_n (q := 1) dX11_judge_4 rfl rfl ?_
    refine JT_iconst (v := 1) dX11_judge_5 ic_1 ?_
    refine JT_icmp_le (tgt := 12) dX11_judge_6 (by decide) (fun hc10 => ?_) (fun hc10 => ?_)
    · have h := h.1 hc10
      refine JT_iload_n (q := 1) dX11_judge_12 rfl rfl ?_
      refine JT_iconst (v := 1) dX11_judge_13 ic_1 ?_
      refine JT_icmp_ne (tgt := 24) dX11_judge_14 (by decide) (fun hc9 => ?_) (fun hc9 => ?_)
      · have h := h.1 hc9
        refine JT_aload_n (q := 0) dX11_judge_24 rfl rfl ?_
        refine JS_getR (x := 43) dX11_judge_25 flX11_45 BS_2 (Nat.le_of_ble_eq_true rfl) (Nat.le_of_ble_eq_true rfl) (Or.inl ⟨_, ct_11_6⟩) RF_2_6 ?_
        refine JT_astore_n (lv' := [(2, .ref 43), (0, .ref 2), (1, .int a1)]) dX11_judge_28 rfl (Nat.le_of_ble_eq_true rfl) rfl ?_
        refine JT_iload_n (q := 2) dX11_judge_29 rfl rfl ?_
        refine JT_iconst (v := 1) dX11_judge_30 ic_1 ?_
        refine JT_icmp_ne (tgt := 48) dX11_judge_31 (by decide) (fun hc4 => ?_) (fun hc4 => ?_)
        · have h := h.1 hc4
          refine JT_aload_n (q := 1) dX11_judge_48 rfl rfl ?_
          refine JS_getR (x := 43) dX11_judge_49 flX11_45 BS_2 (Nat.le_of_ble_eq_true rfl) (Nat.le_of_ble_eq_true rfl) (Or.inl ⟨_, ct_11_6⟩) RF_2_6 ?_
          refine JT_aload_n (q := 1) dX11_judge_52 rfl rfl ?_
          refine JS_getR (x := 31) dX11_judge_53 flX11_41 BS_2 (Nat.le_of_ble_eq_true rfl) (Nat.le_of_ble_eq_true rfl) (Or.inl ⟨_, ct_11_5⟩) RF_2_5 ?_
          obtain ⟨o1, h⟩ := h
          refine JS_callVV (M' := MX4_copyFrom) (d' := 1) (As := [.ref 31]) (rest := []) (P := (fun wm9 => (mX4_copyFrom s 43 5 31 5) = wm9)) dX11_judge_56 cvX11_358 okX4_copyFrom rfl (Nat.le_of_ble_eq_true rfl) BS_43 (Nat.le_of_ble_eq_true rfl) (Nat.le_of_ble_eq_true rfl) hci_4 (Nat.le_of_ble_eq_true rfl) (Nat.le_of_ble_eq_true rfl) (pX4_copyFrom hL_43 hL_31  o1 rfl) (fun wm9 hq9 => ?_)
          subst hq9
          refine JT_iconst (v := 0) dX11_judge_59 ic_0 ?_
          refine JT_istore_n (lv' := [(3, .int (0 : Int32)), (2, .ref 43), (0, .ref 2), (1, .int a1)]) dX11_judge_60 rfl (Nat.le_of_ble_eq_true rfl) rfl ?_
          refine JT_iconst (v := 0) dX11_judge_61 ic_0 ?_
          refine JT_istore (lv' := [(4, .int (0 : Int32)), (3, .int (0 : Int32)), (2, .ref 43), (0, .ref 2), (1, .int a1)]) dX11_judge_62 (Nat.le_of_ble_eq_true rfl) rfl ?_
          exact JT_sub [3, 4, 2, 1, 0] rfl h
        · have h := h.2 hc4
          refine JT_aload_n (q := 1) dX11_judge_34 rfl rfl ?_
          refine JS_getR (x := 55) dX11_judge_35 flX11_51 BS_2 (Nat.le_of_ble_eq_true rfl) (Nat.le_of_ble_eq_true rfl) (Or.inl ⟨_, ct_11_7⟩) RF_2_7 ?_
          refine JT_aload_n (q := 1) dX11_judge_38 rfl rfl ?_
          refine JS_getR (x := 31) dX11_judge_39 flX11_41 BS_2 (Nat.le_of_ble_eq_true rfl) (Nat.le_of_ble_eq_true rfl) (Or.inl ⟨_, ct_11_5⟩) RF_2_5 ?_
          refine JS_callVV (M' := MX2_note) (d' := 2) (As := [.ref 31]) (rest := []) dX11_judge_42 cvX11_300 okX2_note rfl (Nat.le_of_ble_eq_true rfl) BS_55 (Nat.le_of_ble_eq_true rfl) (Nat.le_of_ble_eq_true rfl) hci_2 (Nat.le_of_ble_eq_true rfl) (Nat.le_of_ble_eq_true rfl) h (fun s2 h => ?_)
          refine JT_goto (tgt := 59) dX11_judge_45 (by decide) ?_
          refine JT_iconst (v := 0) dX11_judge_59 ic_0 ?_
          refine JT_istore_n (lv' := [(3, .int (0 : Int32)), (2, .ref 43), (0, .ref 2), (1, .int a1)]) dX11_judge_60 rfl (Nat.le_of_ble_eq_true rfl) rfl ?_
          refine JT_iconst (v := 0) dX11_judge_61 ic_0 ?_
          refine JT_istore (lv' := [(4, .int (0 : Int32)), (3, .int (0 : Int32)), (2, .ref 43), (0, .ref 2), (1, .int a1)]) dX11_judge_62 (Nat.le_of_ble_eq_true rfl) rfl ?_
          exact JT_sub [3, 4, 2, 1, 0] rfl h
      · have h := h.2 hc9
        refine JT_aload_n (q := 0) dX11_judge_17 rfl rfl ?_
        refine JS_getR (x := 31) dX11_judge_18 flX11_41 BS_2 (Nat.le_of_ble_eq_true rfl) (Nat.le_of_ble_eq_true rfl) (Or.inl ⟨_, ct_11_5⟩) RF_2_5 ?_
        refine JT_goto (tgt := 28) dX11_judge_21 (by decide) ?_
        refine JT_astore_n (lv' := [(2, .ref 31), (0, .ref 2), (1, .int a1)]) dX11_judge_28 rfl (Nat.le_of_ble_eq_true rfl) rfl ?_
        refine JT_iload_n (q := 2) dX11_judge_29 rfl rfl ?_
        refine JT_iconst (v := 1) dX11_judge_30 ic_1 ?_
        refine JT_icmp_ne (tgt := 48) dX11_judge_31 (by decide) (fun hc8 => ?_) (fun hc8 => ?_)
        · have h := h.1 hc8
          refine JT_aload_n (q := 1) dX11_judge_48 rfl rfl ?_
          refine JS_getR (x := 43) dX11_judge_49 flX11_45 BS_2 (Nat.le_of_ble_eq_true rfl) (Nat.le_of_ble_eq_true rfl) (Or.inl ⟨_, ct_11_6⟩) RF_2_6 ?_
          refine JT_aload_n (q := 1) dX11_judge_52 rfl rfl ?_
          refine JS_getR (x := 31) dX11_judge_53 flX11_41 BS_2 (Nat.le_of_ble_eq_true rfl) (Nat.le_of_ble_eq_true rfl) (Or.inl ⟨_, ct_11_5⟩) RF_2_5 ?_
          obtain ⟨o5, h⟩ := h
          refine JS_callVV (M' := MX4_copyFrom) (d' := 1) (As := [.ref 31]) (rest := []) (P := (fun wm9 => (mX4_copyFrom s 43 5 31 5) = wm9)) dX11_judge_56 cvX11_358 okX4_copyFrom rfl (Nat.le_of_ble_eq_true rfl) BS_43 (Nat.le_of_ble_eq_true rfl) (Nat.le_of_ble_eq_true rfl) hci_4 (Nat.le_of_ble_eq_true rfl) (Nat.le_of_ble_eq_true rfl) (pX4_copyFrom hL_43 hL_31  o5 rfl) (fun wm9 hq9 => ?_)
          subst hq9
          refine JT_iconst (v := 0) dX11_judge_59 ic_0 ?_
          refine JT_istore_n (lv' := [(3, .int (0 : Int32)), (2, .ref 31), (0, .ref 2), (1, .int a1)]) dX11_judge_60 rfl (Nat.le_of_ble_eq_true rfl) rfl ?_
          refine JT_iconst (v := 0) dX11_judge_61 ic_0 ?_
          refine JT_istore (lv' := [(4, .int (0 : Int32)), (3, .int (0 : Int32)), (2, .ref 31), (0, .ref 2), (1, .int a1)]) dX11_judge_62 (Nat.le_of_ble_eq_true rfl) rfl ?_
          exact JT_sub [3, 4, 2, 1, 0] rfl h
        · have h := h.2 hc8
          refine JT_aload_n (q := 1) dX11_judge_34 rfl rfl ?_
          refine JS_getR (x := 55) dX11_judge_35 flX11_51 BS_2 (Nat.le_of_ble_eq_true rfl) (Nat.le_of_ble_eq_true rfl) (Or.inl ⟨_, ct_11_7⟩) RF_2_7 ?_
          refine JT_aload_n (q := 1) dX11_judge_38 rfl rfl ?_
          refine JS_getR (x := 31) dX11_judge_39 flX11_41 BS_2 (Nat.le_of_ble_eq_true rfl) (Nat.le_of_ble_eq_true rfl) (Or.inl ⟨_, ct_11_5⟩) RF_2_5 ?_
          refine JS_callVV (M' := MX2_note) (d' := 2) (As := [.ref 31]) (rest := []) dX11_judge_42 cvX11_300 okX2_note rfl (Nat.le_of_ble_eq_true rfl) BS_55 (Nat.le_of_ble_eq_true rfl) (Nat.le_of_ble_eq_true rfl) hci_2 (Nat.le_of_ble_eq_true rfl) (Nat.le_of_ble_eq_true rfl) h (fun s6 h => ?_)
          refine JT_goto (tgt := 59) dX11_judge_45 (by decide) ?_
          refine JT_iconst (v := 0) dX11_judge_59 ic_0 ?_
          refine JT_istore_n (lv' := [(3, .int (0 : Int32)), (2, .ref 31), (0, .ref 2), (1, .int a1)]) dX11_judge_60 rfl (Nat.le_of_ble_eq_true rfl) rfl ?_
          refine JT_iconst (v := 0) dX11_judge_61 ic_0 ?_
          refine JT_istore (lv' := [(4, .int (0 : Int32)), (3, .int (0 : Int32)), (2, .ref 31), (0, .ref 2), (1, .int a1)]) dX11_judge_62 (Nat.le_of_ble_eq_true rfl) rfl ?_
          exact JT_sub [3, 4, 2, 1, 0] rfl h
    · have h := h.2 hc10
      refine JT_bipush (v := -2) dX11_judge_9 bp_m2 ?_
      exact JS_iret dX11_judge_11 rfl rfl h
set_option maxRecDepth 20000 in
theorem bX5_placeBy_185 {e : Nat} (a1 : Int32) (a2 : Int32) (a3 : Int32) (a4 : Int32) (a5 : Int32) (a6 : Int32) {s : SM} {Q : SM → Prop} (h : vp_in a4 9 ∧ vp_in a4 9 ∧ vp_in a5 9 ∧ vp_in a5 9 ∧ (∀ s5, s5 = (pI (pI s 232 (a4).toNatClampNeg ((gI s 232 (a4).toNatClampNeg) + a6)) 232 (a5).toNatClampNeg ((gI (pI s 232 (a4).toNatClampNeg ((gI s 232 (a4).toNatClampNeg) + a6)) 232 (a5).toNatClampNeg) + a6)) → Q s5)) : BV MX5_placeBy (e + 4) 185 [(0, .ref 225), (1, .int a1), (2, .int a2), (3, .int a3), (4, .int a4), (5, .int a5), (6, .int a6)] s Q := by
  refine JT_aload_n (q := 0) dX5_placeBy_185 rfl rfl ?_
  refine JS_getR (x := 232) dX5_placeBy_186 flX5_30 BS_225 (Nat.le_of_ble_eq_true rfl) (Nat.le_of_ble_eq_true rfl) (Or.inr ⟨_, ct_5_8⟩) RF_225_8 ?_
  refine JT_iload (q := 4) dX5_placeBy_189 rfl ?_
  refine JT_dup2 dX5_placeBy_191 rfl rfl ?_
  obtain ⟨o1, h⟩ := h
  refine JS_iald dX5_placeBy_192 BS_232 (Nat.le_of_ble_eq_true rfl) (Nat.le_of_ble_eq_true rfl) o1 ?_
  refine JT_iload (q := 6) dX5_placeBy_193 rfl ?_
  refine JT_iadd dX5_placeBy_195 ?_
  obtain ⟨o2, h⟩ := h
  refine JS_iast dX5_placeBy_196 BS_232 (Nat.le_of_ble_eq_true rfl) (Nat.le_of_ble_eq_true rfl) o2 ?_
  refine JT_aload_n (q := 0) dX5_placeBy_197 rfl rfl ?_
  refine JS_getR (x := 232) dX5_placeBy_198 flX5_30 BS_225 (Nat.le_of_ble_eq_true rfl) (Nat.le_of_ble_eq_true rfl) (Or.inr ⟨_, ct_5_8⟩) RF_225_8 ?_
  refine JT_iload (q := 5) dX5_placeBy_201 rfl ?_
  refine JT_dup2 dX5_placeBy_203 rfl rfl ?_
  obtain ⟨o3, h⟩ := h
  refine JS_iald dX5_placeBy_204 BS_232 (Nat.le_of_ble_eq_true rfl) (Nat.le_of_ble_eq_true rfl) o3 ?_
  refine JT_iload (q := 6) dX5_placeBy_205 rfl ?_
  refine JT_iadd dX5_placeBy_207 ?_
  obtain ⟨o4, h⟩ := h
  refine JS_iast dX5_placeBy_208 BS_232 (Nat.le_of_ble_eq_true rfl) (Nat.le_of_ble_eq_true rfl) o4 ?_
  obtain ⟨s5, hs5⟩ : ∃ z, z = (pI (pI s 232 (a4).toNatClampNeg ((gI s 232 (a4).toNatClampNeg) + a6)) 232 (a5).toNatClampNeg ((gI (pI s 232 (a4).toNatClampNeg ((gI s 232 (a4).toNatClampNeg) + a6)) 232 (a5).toNatClampNeg) + a6)) := ⟨_, rfl⟩
  replace h := h s5 hs5
  rw [← hs5]
  exact JS_vret dX5_placeBy_209 rfl h
set_option maxRecDepth 20000 in
theorem bX5_placeBy {e : Nat} (a1 : Int32) (a2 : Int32) (a3 : Int32) {s : SM} {Q : SM → Prop} (h : ((¬ (a2 &&& (1 : Int32)) = 0 → ∃ Lx1 Px1, gD s 1 = some Lx1 ∧ (Lx1, Px1) ∈ LX ∧ vp_in a1 6 ∧ vp_in (gI s 226 (a1).toNatClampNeg) 9 ∧ ((¬ (a2 &&& (2 : Int32)) = 0 → ∃ Lx4 Px4, gD s 1 = some Lx4 ∧ (Lx4, Px4) ∈ LX ∧ vp_in a1 6 ∧ vp_in (gI s 227 (a1).toNatClampNeg) 9 ∧ (((gI s (Px1 + 3) ((gI s 226 (a1).toNatClampNeg)).toNatClampNeg) = (-1 : Int32) → Q s) ∧ (¬ (gI s (Px1 + 3) ((gI s 226 (a1).toNatClampNeg)).toNatClampNeg) = (-1 : Int32) → (((gI s (Px4 + 3) ((gI s 227 (a1).toNatClampNeg)).toNatClampNeg) = (-1 : Int32) → Q s) ∧ (¬ (gI s (Px4 + 3) ((gI s 227 (a1).toNatClampNeg)).toNatClampNeg) = (-1 : Int32) → ∃ Lx7 Px7, gD s 1 = some Lx7 ∧ (Lx7, Px7) ∈ LX ∧ KI MX4_lives 0 [.ref Lx7, .int (gI s (Px1 + 3) ((gI s 226 (a1).toNatClampNeg)).toNatClampNeg)] s (fun x9 s8 => ((x9 = 0 → Q s8) ∧ (¬ x9 = 0 → ∃ Lx10 Px10, gD s8 1 = some Lx10 ∧ (Lx10, Px10) ∈ LX ∧ KI MX4_lives 0 [.ref Lx10, .int (gI s (Px4 + 3) ((gI s 227 (a1).toNatClampNeg)).toNatClampNeg)] s8 (fun x12 s11 => ((¬ x12 = 0 → ∃ Lx13 Px13, gD s11 1 = some Lx13 ∧ (Lx13, Px13) ∈ LX ∧ vp_in a1 6 ∧ vp_in (gI s11 228 (a1).toNatClampNeg) 6 ∧ vp_in (gI s (Px1 + 3) ((gI s 226 (a1).toNatClampNeg)).toNatClampNeg) 9 ∧ vp_in (gI s (Px1 + 3) ((gI s 226 (a1).toNatClampNeg)).toNatClampNeg) 9 ∧ (∀ s18, s18 = (pI s11 232 ((gI s (Px1 + 3) ((gI s 226 (a1).toNatClampNeg)).toNatClampNeg)).toNatClampNeg ((gI s11 232 ((gI s (Px1 + 3) ((gI s 226 (a1).toNatClampNeg)).toNatClampNeg)).toNatClampNeg) - (gI s11 (Px13 + 5) ((gI s11 228 (a1).toNatClampNeg)).toNatClampNeg))) → vp_in (gI s (Px4 + 3) ((gI s 227 (a1).toNatClampNeg)).toNatClampNeg) 9 ∧ vp_in (gI s (Px4 + 3) ((gI s 227 (a1).toNatClampNeg)).toNatClampNeg) 9 ∧ (∀ s21, s21 = (pI s18 232 ((gI s (Px4 + 3) ((gI s 227 (a1).toNatClampNeg)).toNatClampNeg)).toNatClampNeg ((gI s18 232 ((gI s (Px4 + 3) ((gI s 227 (a1).toNatClampNeg)).toNatClampNeg)).toNatClampNeg) - (gI s11 (Px13 + 5) ((gI s11 228 (a1).toNatClampNeg)).toNatClampNeg))) → vp_in (gI s (Px1 + 3) ((gI s 226 (a1).toNatClampNeg)).toNatClampNeg) 9 ∧ (((gI s21 232 ((gI s (Px1 + 3) ((gI s 226 (a1).toNatClampNeg)).toNatClampNeg)).toNatClampNeg) < 0 → BV MX5_placeBy (e + 4) 185 [(0, .ref 225), (1, .int a1), (2, .int a2), (3, .int a3), (4, .int (gI s (Px1 + 3) ((gI s 226 (a1).toNatClampNeg)).toNatClampNeg)), (5, .int (gI s (Px4 + 3) ((gI s 227 (a1).toNatClampNeg)).toNatClampNeg)), (6, .int (gI s11 (Px13 + 5) ((gI s11 228 (a1).toNatClampNeg)).toNatClampNeg))] s21 Q) ∧ (¬ (gI s21 232 ((gI s (Px1 + 3) ((gI s 226 (a1).toNatClampNeg)).toNatClampNeg)).toNatClampNeg) < 0 → vp_in (gI s (Px4 + 3) ((gI s 227 (a1).toNatClampNeg)).toNatClampNeg) 9 ∧ (((gI s21 232 ((gI s (Px4 + 3) ((gI s 227 (a1).toNatClampNeg)).toNatClampNeg)).toNatClampNeg) < 0 → BV MX5_placeBy (e + 4) 185 [(0, .ref 225), (1, .int a1), (2, .int a2), (3, .int a3), (4, .int (gI s (Px1 + 3) ((gI s 226 (a1).toNatClampNeg)).toNatClampNeg)), (5, .int (gI s (Px4 + 3) ((gI s 227 (a1).toNatClampNeg)).toNatClampNeg)), (6, .int (gI s11 (Px13 + 5) ((gI s11 228 (a1).toNatClampNeg)).toNatClampNeg))] s21 Q) ∧ (¬ (gI s21 232 ((gI s (Px4 + 3) ((gI s 227 (a1).toNatClampNeg)).toNatClampNeg)).toNatClampNeg) < 0 → vp_in a1 6 ∧ KV MX5_place (e + 3) [.ref 225, .int (a1 + (1 : Int32)), .int (a3 + (1 : Int32))] (pI s21 229 (a1).toNatClampNeg a2) (fun s25 => BV MX5_placeBy (e + 4) 185 [(0, .ref 225), (1, .int a1), (2, .int a2), (3, .int a3), (4, .int (gI s (Px1 + 3) ((gI s 226 (a1).toNatClampNeg)).toNatClampNeg)), (5, .int (gI s (Px4 + 3) ((gI s 227 (a1).toNatClampNeg)).toNatClampNeg)), (6, .int (gI s11 (Px13 + 5) ((gI s11 228 (a1).toNatClampNeg)).toNatClampNeg))] s25 Q)))))))) ∧ (x12 = 0 → Q s11))))))))))) ∧ ((a2 &&& (2 : Int32)) = 0 → vp_in a1 6 ∧ (((gI s (Px1 + 3) ((gI s 226 (a1).toNatClampNeg)).toNatClampNeg) = (-1 : Int32) → Q s) ∧ (¬ (gI s (Px1 + 3) ((gI s 226 (a1).toNatClampNeg)).toNatClampNeg) = (-1 : Int32) → (((gI s 227 (a1).toNatClampNeg) = (-1 : Int32) → Q s) ∧ (¬ (gI s 227 (a1).toNatClampNeg) = (-1 : Int32) → ∃ Lx34 Px34, gD s 1 = some Lx34 ∧ (Lx34, Px34) ∈ LX ∧ KI MX4_lives 0 [.ref Lx34, .int (gI s (Px1 + 3) ((gI s 226 (a1).toNatClampNeg)).toNatClampNeg)] s (fun x36 s35 => ((x36 = 0 → Q s35) ∧ (¬ x36 = 0 → ∃ Lx37 Px37, gD s35 1 = some Lx37 ∧ (Lx37, Px37) ∈ LX ∧ KI MX4_lives 0 [.ref Lx37, .int (gI s 227 (a1).toNatClampNeg)] s35 (fun x39 s38 => ((¬ x39 = 0 → ∃ Lx40 Px40, gD s38 1 = some Lx40 ∧ (Lx40, Px40) ∈ LX ∧ vp_in a1 6 ∧ vp_in (gI s38 228 (a1).toNatClampNeg) 6 ∧ vp_in (gI s (Px1 + 3) ((gI s 226 (a1).toNatClampNeg)).toNatClampNeg) 9 ∧ vp_in (gI s (Px1 + 3) ((gI s 226 (a1).toNatClampNeg)).toNatClampNeg) 9 ∧ (∀ s45, s45 = (pI s38 232 ((gI s (Px1 + 3) ((gI s 226 (a1).toNatClampNeg)).toNatClampNeg)).toNatClampNeg ((gI s38 232 ((gI s (Px1 + 3) ((gI s 226 (a1).toNatClampNeg)).toNatClampNeg)).toNatClampNeg) - (gI s38 (Px40 + 5) ((gI s38 228 (a1).toNatClampNeg)).toNatClampNeg))) → vp_in (gI s 227 (a1).toNatClampNeg) 9 ∧ vp_in (gI s 227 (a1).toNatClampNeg) 9 ∧ (∀ s48, s48 = (pI s45 232 ((gI s 227 (a1).toNatClampNeg)).toNatClampNeg ((gI s45 232 ((gI s 227 (a1).toNatClampNeg)).toNatClampNeg) - (gI s38 (Px40 + 5) ((gI s38 228 (a1).toNatClampNeg)).toNatClampNeg))) → vp_in (gI s (Px1 + 3) ((gI s 226 (a1).toNatClampNeg)).toNatClampNeg) 9 ∧ (((gI s48 232 ((gI s (Px1 + 3) ((gI s 226 (a1).toNatClampNeg)).toNatClampNeg)).toNatClampNeg) < 0 → BV MX5_placeBy (e + 4) 185 [(0, .ref 225), (1, .int a1), (2, .int a2), (3, .int a3), (4, .int (gI s (Px1 + 3) ((gI s 226 (a1).toNatClampNeg)).toNatClampNeg)), (5, .int (gI s 227 (a1).toNatClampNeg)), (6, .int (gI s38 (Px40 + 5) ((gI s38 228 (a1).toNatClampNeg)).toNatClampNeg))] s48 Q) ∧ (¬ (gI s48 232 ((gI s (Px1 + 3) ((gI s 226 (a1).toNatClampNeg)).toNatClampNeg)).toNatClampNeg) < 0 → vp_in (gI s 227 (a1).toNatClampNeg) 9 ∧ (((gI s48 232 ((gI s 227 (a1).toNatClampNeg)).toNatClampNeg) < 0 → BV MX5_placeBy (e + 4) 185 [(0, .ref 225), (1, .int a1), (2, .int a2), (3, .int a3), (4, .int (gI s (Px1 + 3) ((gI s 226 (a1).toNatClampNeg)).toNatClampNeg)), (5, .int (gI s 227 (a1).toNatClampNeg)), (6, .int (gI s38 (Px40 + 5) ((gI s38 228 (a1).toNatClampNeg)).toNatClampNeg))] s48 Q) ∧ (¬ (gI s48 232 ((gI s 227 (a1).toNatClampNeg)).toNatClampNeg) < 0 → vp_in a1 6 ∧ KV MX5_place (e + 3) [.ref 225, .int (a1 + (1 : Int32)), .int (a3 + (1 : Int32))] (pI s48 229 (a1).toNatClampNeg a2) (fun s52 => BV MX5_placeBy (e + 4) 185 [(0, .ref 225), (1, .int a1), (2, .int a2), (3, .int a3), (4, .int (gI s (Px1 + 3) ((gI s 226 (a1).toNatClampNeg)).toNatClampNeg)), (5, .int (gI s 227 (a1).toNatClampNeg)), (6, .int (gI s38 (Px40 + 5) ((gI s38 228 (a1).toNatClampNeg)).toNatClampNeg))] s52 Q)))))))) ∧ (x39 = 0 → Q s38))))))))))))) ∧ ((a2 &&& (1 : Int32)) = 0 → vp_in a1 6 ∧ ((¬ (a2 &&& (2 : Int32)) = 0 → ∃ Lx62 Px62, gD s 1 = some Lx62 ∧ (Lx62, Px62) ∈ LX ∧ vp_in a1 6 ∧ vp_in (gI s 227 (a1).toNatClampNeg) 9 ∧ (((gI s 226 (a1).toNatClampNeg) = (-1 : Int32) → Q s) ∧ (¬ (gI s 226 (a1).toNatClampNeg) = (-1 : Int32) → (((gI s (Px62 + 3) ((gI s 227 (a1).toNatClampNeg)).toNatClampNeg) = (-1 : Int32) → Q s) ∧ (¬ (gI s (Px62 + 3) ((gI s 227 (a1).toNatClampNeg)).toNatClampNeg) = (-1 : Int32) → ∃ Lx65 Px65, gD s 1 = some Lx65 ∧ (Lx65, Px65) ∈ LX ∧ KI MX4_lives 0 [.ref Lx65, .int (gI s 226 (a1).toNatClampNeg)] s (fun x67 s66 => ((x67 = 0 → Q s66) ∧ (¬ x67 = 0 → ∃ Lx68 Px68, gD s66 1 = some Lx68 ∧ (Lx68, Px68) ∈ LX ∧ KI MX4_lives 0 [.ref Lx68, .int (gI s (Px62 + 3) ((gI s 227 (a1).toNatClampNeg)).toNatClampNeg)] s66 (fun x70 s69 => ((¬ x70 = 0 → ∃ Lx71 Px71, gD s69 1 = some Lx71 ∧ (Lx71, Px71) ∈ LX ∧ vp_in a1 6 ∧ vp_in (gI s69 228 (a1).toNatClampNeg) 6 ∧ vp_in (gI s 226 (a1).toNatClampNeg) 9 ∧ vp_in (gI s 226 (a1).toNatClampNeg) 9 ∧ (∀ s76, s76 = (pI s69 232 ((gI s 226 (a1).toNatClampNeg)).toNatClampNeg ((gI s69 232 ((gI s 226 (a1).toNatClampNeg)).toNatClampNeg) - (gI s69 (Px71 + 5) ((gI s69 228 (a1).toNatClampNeg)).toNatClampNeg))) → vp_in (gI s (Px62 + 3) ((gI s 227 (a1).toNatClampNeg)).toNatClampNeg) 9 ∧ vp_in (gI s (Px62 + 3) ((gI s 227 (a1).toNatClampNeg)).toNatClampNeg) 9 ∧ (∀ s79, s79 = (pI s76 232 ((gI s (Px62 + 3) ((gI s 227 (a1).toNatClampNeg)).toNatClampNeg)).toNatClampNeg ((gI s76 232 ((gI s (Px62 + 3) ((gI s 227 (a1).toNatClampNeg)).toNatClampNeg)).toNatClampNeg) - (gI s69 (Px71 + 5) ((gI s69 228 (a1).toNatClampNeg)).toNatClampNeg))) → vp_in (gI s 226 (a1).toNatClampNeg) 9 ∧ (((gI s79 232 ((gI s 226 (a1).toNatClampNeg)).toNatClampNeg) < 0 → BV MX5_placeBy (e + 4) 185 [(0, .ref 225), (1, .int a1), (2, .int a2), (3, .int a3), (4, .int (gI s 226 (a1).toNatClampNeg)), (5, .int (gI s (Px62 + 3) ((gI s 227 (a1).toNatClampNeg)).toNatClampNeg)), (6, .int (gI s69 (Px71 + 5) ((gI s69 228 (a1).toNatClampNeg)).toNatClampNeg))] s79 Q) ∧ (¬ (gI s79 232 ((gI s 226 (a1).toNatClampNeg)).toNatClampNeg) < 0 → vp_in (gI s (Px62 + 3) ((gI s 227 (a1).toNatClampNeg)).toNatClampNeg) 9 ∧ (((gI s79 232 ((gI s (Px62 + 3) ((gI s 227 (a1).toNatClampNeg)).toNatClampNeg)).toNatClampNeg) < 0 → BV MX5_placeBy (e + 4) 185 [(0, .ref 225), (1, .int a1), (2, .int a2), (3, .int a3), (4, .int (gI s 226 (a1).toNatClampNeg)), (5, .int (gI s (Px62 + 3) ((gI s 227 (a1).toNatClampNeg)).toNatClampNeg)), (6, .int (gI s69 (Px71 + 5) ((gI s69 228 (a1).toNatClampNeg)).toNatClampNeg))] s79 Q) ∧ (¬ (gI s79 232 ((gI s (Px62 + 3) ((gI s 227 (a1).toNatClampNeg)).toNatClampNeg)).toNatClampNeg) < 0 → vp_in a1 6 ∧ KV MX5_place (e + 3) [.ref 225, .int (a1 + (1 : Int32)), .int (a3 + (1 : Int32))] (pI s79 229 (a1).toNatClampNeg a2) (fun s83 => BV MX5_placeBy (e + 4) 185 [(0, .ref 225), (1, .int a1), (2, .int a2), (3, .int a3), (4, .int (gI s 226 (a1).toNatClampNeg)), (5, .int (gI s (Px62 + 3) ((gI s 227 (a1).toNatClampNeg)).toNatClampNeg)), (6, .int (gI s69 (Px71 + 5) ((gI s69 228 (a1).toNatClampNeg)).toNatClampNeg))] s83 Q)))))))) ∧ (x70 = 0 → Q s69))))))))))) ∧ ((a2 &&& (2 : Int32)) = 0 → vp_in a1 6 ∧ (((gI s 226 (a1).toNatClampNeg) = (-1 : Int32) → Q s) ∧ (¬ (gI s 226 (a1).toNatClampNeg) = (-1 : Int32) → (((gI s 227 (a1).toNatClampNeg) = (-1 : Int32) → Q s) ∧ (¬ (gI s 227 (a1).toNatClampNeg) = (-1 : Int32) → ∃ Lx92 Px92, gD s 1 = some Lx92 ∧ (Lx92, Px92) ∈ LX ∧ KI MX4_lives 0 [.ref Lx92, .int (gI s 226 (a1).toNatClampNeg)] s (fun x94 s93 => ((x94 = 0 → Q s93) ∧ (¬ x94 = 0 → ∃ Lx95 Px95, gD s93 1 = some Lx95 ∧ (Lx95, Px95) ∈ LX ∧ KI MX4_lives 0 [.ref Lx95, .int (gI s 227 (a1).toNatClampNeg)] s93 (fun x97 s96 => ((¬ x97 = 0 → ∃ Lx98 Px98, gD s96 1 = some Lx98 ∧ (Lx98, Px98) ∈ LX ∧ vp_in a1 6 ∧ vp_in (gI s96 228 (a1).toNatClampNeg) 6 ∧ vp_in (gI s 226 (a1).toNatClampNeg) 9 ∧ vp_in (gI s 226 (a1).toNatClampNeg) 9 ∧ (∀ s103, s103 = (pI s96 232 ((gI s 226 (a1).toNatClampNeg)).toNatClampNeg ((gI s96 232 ((gI s 226 (a1).toNatClampNeg)).toNatClampNeg) - (gI s96 (Px98 + 5) ((gI s96 228 (a1).toNatClampNeg)).toNatClampNeg))) → vp_in (gI s 227 (a1).toNatClampNeg) 9 ∧ vp_in (gI s 227 (a1).toNatClampNeg) 9 ∧ (∀ s106, s106 = (pI s103 232 ((gI s 227 (a1).toNatClampNeg)).toNatClampNeg ((gI s103 232 ((gI s 227 (a1).toNatClampNeg)).toNatClampNeg) - (gI s96 (Px98 + 5) ((gI s96 228 (a1).toNatClampNeg)).toNatClampNeg))) → vp_in (gI s 226 (a1).toNatClampNeg) 9 ∧ (((gI s106 232 ((gI s 226 (a1).toNatClampNeg)).toNatClampNeg) < 0 → BV MX5_placeBy (e + 4) 185 [(0, .ref 225), (1, .int a1), (2, .int a2), (3, .int a3), (4, .int (gI s 226 (a1).toNatClampNeg)), (5, .int (gI s 227 (a1).toNatClampNeg)), (6, .int (gI s96 (Px98 + 5) ((gI s96 228 (a1).toNatClampNeg)).toNatClampNeg))] s106 Q) ∧ (¬ (gI s106 232 ((gI s 226 (a1).toNatClampNeg)).toNatClampNeg) < 0 → vp_in (gI s 227 (a1).toNatClampNeg) 9 ∧ (((gI s106 232 ((gI s 227 (a1).toNatClampNeg)).toNatClampNeg) < 0 → BV MX5_placeBy (e + 4) 185 [(0, .ref 225), (1, .int a1), (2, .int a2), (3, .int a3), (4, .int (gI s 226 (a1).toNatClampNeg)), (5, .int (gI s 227 (a1).toNatClampNeg)), (6, .int (gI s96 (Px98 + 5) ((gI s96 228 (a1).toNatClampNeg)).toNatClampNeg))] s106 Q) ∧ (¬ (gI s106 232 ((gI s 227 (a1).toNatClampNeg)).toNatClampNeg) < 0 → vp_in a1 6 ∧ KV MX5_place (e + 3) [.ref 225, .int (a1 + (1 : Int32)), .int (a3 + (1 : Int32))] (pI s106 229 (a1).toNatClampNeg a2) (fun s110 => BV MX5_placeBy (e + 4) 185 [(0, .ref 225), (1, .int a1), (2, .int a2), (3, .int a3), (4, .int (gI s 226 (a1).toNatClampNeg)), (5, .int (gI s 227 (a1).toNatClampNeg)), (6, .int (gI s96 (Px98 + 5) ((gI s96 228 (a1).toNatClampNeg)).toNatClampNeg))] s110 Q)))))))) ∧ (x97 = 0 → Q s96))))))))))))))) : KV MX5_placeBy (e + 4) [.ref 225, .int a1, .int a2, .int a3] s Q := by
  show BV MX5_placeBy (e + 4) 0 [(0, .ref 225), (1, .int a1), (2, .int a2), (3, .int a3)] s Q
  refine JT_iload_n (q := 2) dX5_placeBy_0 rfl rfl ?_
  refine JT_iconst (v := 1) dX5_placeBy_1 ic_1 ?_
  refine JT_iand dX5_placeBy_2 ?_
  refine JT_if_ne (tgt := 15) dX5_placeBy_3 (by decide) (fun hc119 => ?_) (fun hc119 => ?_)
  · have h := h.1 hc119
    refine JT_aload_n (q := 0) dX5_placeBy_15 rfl rfl ?_
    obtain ⟨Lx1, Px1, hrx1, hLx1, h⟩ := h
    refine JS_getR dX5_placeBy_16 flX5_71 BS_225 (Nat.le_of_ble_eq_true rfl) (Nat.le_of_ble_eq_true rfl) (Or.inl ⟨_, ct_5_10⟩) (RF_225_10.trans hrx1) ?_
    refine JS_getR (x := Px1) dX5_placeBy_19 flX5_95 (lxB hLx1) (lx2 hLx1) (lxN hLx1) (Or.inl ⟨_, ct_4_8⟩) (lxR8 hLx1) ?_
    refine JS_getR (x := (Px1 + 3)) dX5_placeBy_22 flX5_99 (pxB (lxP hLx1)) (px2 (lxP hLx1)) (pxN (lxP hLx1)) (Or.inr ⟨_, ct_6_2⟩) (pxR2 (lxP hLx1)) ?_
    refine JT_aload_n (q := 0) dX5_placeBy_25 rfl rfl ?_
    refine JS_getR (x := 226) dX5_placeBy_26 flX5_9 BS_225 (Nat.le_of_ble_eq_true rfl) (Nat.le_of_ble_eq_true rfl) (Or.inr ⟨_, ct_5_2⟩) RF_225_2 ?_
    refine JT_iload_n (q := 1) dX5_placeBy_29 rfl rfl ?_
    obtain ⟨o2, h⟩ := h
    refine JS_iald dX5_placeBy_30 BS_226 (Nat.le_of_ble_eq_true rfl) (Nat.le_of_ble_eq_true rfl) o2 ?_
    obtain ⟨o3, h⟩ := h
    refine JS_iald dX5_placeBy_31 (pxB3 (lxP hLx1)) (px2k (lxP hLx1) _) (pxNk (lxP hLx1) (Nat.le_of_ble_eq_true rfl)) o3 ?_
    refine JT_istore (lv' := [(4, .int (gI s (Px1 + 3) ((gI s 226 (a1).toNatClampNeg)).toNatClampNeg)), (0, .ref 225), (1, .int a1), (2, .int a2), (3, .int a3)]) dX5_placeBy_32 (Nat.le_of_ble_eq_true rfl) rfl ?_
    refine JT_iload_n (q := 3) dX5_placeBy_34 rfl rfl ?_
    refine JT_iconst (v := 2) dX5_placeBy_35 ic_2 ?_
    refine JT_iand dX5_placeBy_36 ?_
    refine JT_if_ne (tgt := 49) dX5_placeBy_37 (by decide) (fun hc60 => ?_) (fun hc60 => ?_)
    · have h := h.1 hc60
      refine JT_aload_n (q := 1) dX5_placeBy_49 rfl rfl ?_
      obtain ⟨Lx4, Px4, hrx4, hLx4, h⟩ := h
      refine JS_getR dX5_placeBy_50 flX5_71 BS_225 (Nat.le_of_ble_eq_true rfl) (Nat.le_of_ble_eq_true rfl) (Or.inl ⟨_, ct_5_10⟩) (RF_225_10.trans hrx4) ?_
      refine JS_getR (x := Px4) dX5_placeBy_53 flX5_95 (lxB hLx4) (lx2 hLx4) (lxN hLx4) (Or.inl ⟨_, ct_4_8⟩) (lxR8 hLx4) ?_
      refine JS_getR (x := (Px4 + 3)) dX5_placeBy_56 flX5_99 (pxB (lxP hLx4)) (px2 (lxP hLx4)) (pxN (lxP hLx4)) (Or.inr ⟨_, ct_6_2⟩) (pxR2 (lxP hLx4)) ?_
      refine JT_aload_n (q := 1) dX5_placeBy_59 rfl rfl ?_
      refine JS_getR (x := 227) dX5_placeBy_60 flX5_15 BS_225 (Nat.le_of_ble_eq_true rfl) (Nat.le_of_ble_eq_true rfl) (Or.inr ⟨_, ct_5_3⟩) RF_225_3 ?_
      refine JT_iload_n (q := 2) dX5_placeBy_63 rfl rfl ?_
      obtain ⟨o5, h⟩ := h
      refine JS_iald dX5_placeBy_64 BS_227 (Nat.le_of_ble_eq_true rfl) (Nat.le_of_ble_eq_true rfl) o5 ?_
      obtain ⟨o6, h⟩ := h
      refine JS_iald dX5_placeBy_65 (pxB3 (lxP hLx4)) (px2k (lxP hLx4) _) (pxNk (lxP hLx4) (Nat.le_of_ble_eq_true rfl)) o6 ?_
      refine JT_istore (lv' := [(5, .int (gI s (Px4 + 3) ((gI s 227 (a1).toNatClampNeg)).toNatClampNeg)), (4, .int (gI s (Px1 + 3) ((gI s 226 (a1).toNatClampNeg)).toNatClampNeg)), (0, .ref 225), (1, .int a1), (2, .int a2), (3, .int a3)]) dX5_placeBy_66 (Nat.le_of_ble_eq_true rfl) rfl ?_
      refine JT_iload (q := 1) dX5_placeBy_68 rfl ?_
      refine JT_iconst (v := -1) dX5_placeBy_70 ic_m1 ?_
      refine JT_icmp_eq (tgt := 104) dX5_placeBy_71 (by decide) (fun hc32 => ?_) (fun hc32 => ?_)
      · have h := h.1 hc32
        exact JS_vret dX5_placeBy_104 rfl h
      · have h := h.2 hc32
        refine JT_iload (q := 0) dX5_placeBy_74 rfl ?_
        refine JT_iconst (v := -1) dX5_placeBy_76 ic_m1 ?_
        refine JT_icmp_eq (tgt := 104) dX5_placeBy_77 (by decide) (fun hc31 => ?_) (fun hc31 => ?_)
        · have h := h.1 hc31
          exact JS_vret dX5_placeBy_104 rfl h
        · have h := h.2 hc31
          refine JT_aload_n (q := 2) dX5_placeBy_80 rfl rfl ?_
          obtain ⟨Lx7, Px7, hrx7, hLx7, h⟩ := h
          refine JS_getR dX5_placeBy_81 flX5_71 BS_225 (Nat.le_of_ble_eq_true rfl) (Nat.le_of_ble_eq_true rfl) (Or.inl ⟨_, ct_5_10⟩) (RF_225_10.trans hrx7) ?_
          refine JT_iload (q := 1) dX5_placeBy_84 rfl ?_
          refine JS_callVI (M' := MX4_lives) (d' := 0) (As := [.int (gI s (Px1 + 3) ((gI s 226 (a1).toNatClampNeg)).toNatClampNeg)]) (rest := []) dX5_placeBy_86 cvX5_87 okX4_lives rfl (Nat.le_of_ble_eq_true rfl) (lxB hLx7) (lx2 hLx7) (lxN hLx7) hci_4 (Nat.le_of_ble_eq_true rfl) (by show 0 + 1 ≤ e + 4; omega) h (fun x9 s8 h => ?_)
          refine JT_if_eq (tgt := 104) dX5_placeBy_89 (by decide) (fun hc30 => ?_) (fun hc30 => ?_)
          · have h := h.1 hc30
            exact JS_vret dX5_placeBy_104 rfl h
          · have h := h.2 hc30
            refine JT_aload_n (q := 2) dX5_placeBy_92 rfl rfl ?_
            obtain ⟨Lx10, Px10, hrx10, hLx10, h⟩ := h
            refine JS_getR dX5_placeBy_93 flX5_71 BS_225 (Nat.le_of_ble_eq_true rfl) (Nat.le_of_ble_eq_true rfl) (Or.inl ⟨_, ct_5_10⟩) (RF_225_10.trans hrx10) ?_
            refine JT_iload (q := 0) dX5_placeBy_96 rfl ?_
            refine JS_callVI (M' := MX4_lives) (d' := 0) (As := [.int (gI s (Px4 + 3) ((gI s 227 (a1).toNatClampNeg)).toNatClampNeg)]) (rest := []) dX5_placeBy_98 cvX5_87 okX4_lives rfl (Nat.le_of_ble_eq_true rfl) (lxB hLx10) (lx2 hLx10) (lxN hLx10) hci_4 (Nat.le_of_ble_eq_true rfl) (by show 0 + 1 ≤ e + 4; omega) h (fun x12 s11 h => ?_)
            refine JT_if_ne (tgt := 105) dX5_placeBy_101 (by decide) (fun hc29 => ?_) (fun hc29 => ?_)
            · have h := h.1 hc29
              refine JT_aload_n (q := 2) dX5_placeBy_105 rfl rfl ?_
              obtain ⟨Lx13, Px13, hrx13, hLx13, h⟩ := h
              refine JS_getR dX5_placeBy_106 flX5_71 BS_225 (Nat.le_of_ble_eq_true rfl) (Nat.le_of_ble_eq_true rfl) (Or.inl ⟨_, ct_5_10⟩) (RF_225_10.trans hrx13) ?_
              refine JS_getR (x := Px13) dX5_placeBy_109 flX5_95 (lxB hLx13) (lx2 hLx13) (lxN hLx13) (Or.inl ⟨_, ct_4_8⟩) (lxR8 hLx13) ?_
              refine JS_getR (x := (Px13 + 5)) dX5_placeBy_112 flX5_102 (pxB (lxP hLx13)) (px2 (lxP hLx13)) (pxN (lxP hLx13)) (Or.inr ⟨_, ct_6_4⟩) (pxR4 (lxP hLx13)) ?_
              refine JT_aload_n (q := 2) dX5_placeBy_115 rfl rfl ?_
              refine JS_getR (x := 228) dX5_placeBy_116 flX5_18 BS_225 (Nat.le_of_ble_eq_true rfl) (Nat.le_of_ble_eq_true rfl) (Or.inr ⟨_, ct_5_4⟩) RF_225_4 ?_
              refine JT_iload_n (q := 3) dX5_placeBy_119 rfl rfl ?_
              obtain ⟨o14, h⟩ := h
              refine JS_iald dX5_placeBy_120 BS_228 (Nat.le_of_ble_eq_true rfl) (Nat.le_of_ble_eq_true rfl) o14 ?_
              obtain ⟨o15, h⟩ := h
              refine JS_iald dX5_placeBy_121 (pxB5 (lxP hLx13)) (px2k (lxP hLx13) _) (pxNk (lxP hLx13) (Nat.le_of_ble_eq_true rfl)) o15 ?_
              refine JT_istore (lv' := [(6, .int (gI s11 (Px13 + 5) ((gI s11 228 (a1).toNatClampNeg)).toNatClampNeg)), (5, .int (gI s (Px4 + 3) ((gI s 227 (a1).toNatClampNeg)).toNatClampNeg)), (4, .int (gI s (Px1 + 3) ((gI s 226 (a1).toNatClampNeg)).toNatClampNeg)), (0, .ref 225), (1, .int a1), (2, .int a2), (3, .int a3)]) dX5_placeBy_122 (Nat.le_of_ble_eq_true rfl) rfl ?_
              refine JT_aload_n (q := 3) dX5_placeBy_124 rfl rfl ?_
              refine JS_getR (x := 232) dX5_placeBy_125 flX5_30 BS_225 (Nat.le_of_ble_eq_true rfl) (Nat.le_of_ble_eq_true rfl) (Or.inr ⟨_, ct_5_8⟩) RF_225_8 ?_
              refine JT_iload (q := 2) dX5_placeBy_128 rfl ?_
              refine JT_dup2 dX5_placeBy_130 rfl rfl ?_
              obtain ⟨o16, h⟩ := h
              refine JS_iald dX5_placeBy_131 BS_232 (Nat.le_of_ble_eq_true rfl) (Nat.le_of_ble_eq_true rfl) o16 ?_
              refine JT_iload (q := 0) dX5_placeBy_132 rfl ?_
              refine JT_isub dX5_placeBy_134 ?_
              obtain ⟨o17, h⟩ := h
              refine JS_iast dX5_placeBy_135 BS_232 (Nat.le_of_ble_eq_true rfl) (Nat.le_of_ble_eq_true rfl) o17 ?_
              obtain ⟨s18, hs18⟩ : ∃ z, z = (pI s11 232 ((gI s (Px1 + 3) ((gI s 226 (a1).toNatClampNeg)).toNatClampNeg)).toNatClampNeg ((gI s11 232 ((gI s (Px1 + 3) ((gI s 226 (a1).toNatClampNeg)).toNatClampNeg)).toNatClampNeg) - (gI s11 (Px13 + 5) ((gI s11 228 (a1).toNatClampNeg)).toNatClampNeg))) := ⟨_, rfl⟩
              replace h := h s18 hs18
              rw [← hs18]
              refine JT_aload_n (q := 3) dX5_placeBy_136 rfl rfl ?_
              refine JS_getR (x := 232) dX5_placeBy_137 flX5_30 BS_225 (Nat.le_of_ble_eq_true rfl) (Nat.le_of_ble_eq_true rfl) (Or.inr ⟨_, ct_5_8⟩) RF_225_8 ?_
              refine JT_iload (q := 1) dX5_placeBy_140 rfl ?_
              refine JT_dup2 dX5_placeBy_142 rfl rfl ?_
              obtain ⟨o19, h⟩ := h
              refine JS_iald dX5_placeBy_143 BS_232 (Nat.le_of_ble_eq_true rfl) (Nat.le_of_ble_eq_true rfl) o19 ?_
              refine JT_iload (q := 0) dX5_placeBy_144 rfl ?_
              refine JT_isub dX5_placeBy_146 ?_
              obtain ⟨o20, h⟩ := h
              refine JS_iast dX5_placeBy_147 BS_232 (Nat.le_of_ble_eq_true rfl) (Nat.le_of_ble_eq_true rfl) o20 ?_
              obtain ⟨s21, hs21⟩ : ∃ z, z = (pI s18 232 ((gI s (Px4 + 3) ((gI s 227 (a1).toNatClampNeg)).toNatClampNeg)).toNatClampNeg ((gI s18 232 ((gI s (Px4 + 3) ((gI s 227 (a1).toNatClampNeg)).toNatClampNeg)).toNatClampNeg) - (gI s11 (Px13 + 5) ((gI s11 228 (a1).toNatClampNeg)).toNatClampNeg))) := ⟨_, rfl⟩
              replace h := h s21 hs21
              rw [← hs21]
              refine JT_aload_n (q := 3) dX5_placeBy_148 rfl rfl ?_
              refine JS_getR (x := 232) dX5_placeBy_149 flX5_30 BS_225 (Nat.le_of_ble_eq_true rfl) (Nat.le_of_ble_eq_true rfl) (Or.inr ⟨_, ct_5_8⟩) RF_225_8 ?_
              refine JT_iload (q := 2) dX5_placeBy_152 rfl ?_
              obtain ⟨o22, h⟩ := h
              refine JS_iald dX5_placeBy_154 BS_232 (Nat.le_of_ble_eq_true rfl) (Nat.le_of_ble_eq_true rfl) o22 ?_
              refine JT_if_lt (tgt := 185) dX5_placeBy_155 (by decide) (fun hc28 => ?_) (fun hc28 => ?_)
              · have h := h.1 hc28
                exact JT_sub [3, 4, 5, 6, 2, 1, 0] rfl h
              · have h := h.2 hc28
                refine JT_aload_n (q := 3) dX5_placeBy_158 rfl rfl ?_
                refine JS_getR (x := 232) dX5_placeBy_159 flX5_30 BS_225 (Nat.le_of_ble_eq_true rfl) (Nat.le_of_ble_eq_true rfl) (Or.inr ⟨_, ct_5_8⟩) RF_225_8 ?_
                refine JT_iload (q := 1) dX5_placeBy_162 rfl ?_
                obtain ⟨o23, h⟩ := h
                refine JS_iald dX5_placeBy_164 BS_232 (Nat.le_of_ble_eq_true rfl) (Nat.le_of_ble_eq_true rfl) o23 ?_
                refine JT_if_lt (tgt := 185) dX5_placeBy_165 (by decide) (fun hc27 => ?_) (fun hc27 => ?_)
                · have h := h.1 hc27
                  exact JT_sub [3, 4, 5, 6, 2, 1, 0] rfl h
                · have h := h.2 hc27
                  refine JT_aload_n (q := 3) dX5_placeBy_168 rfl rfl ?_
                  refine JS_getR (x := 229) dX5_placeBy_169 flX5_21 BS_225 (Nat.le_of_ble_eq_true rfl) (Nat.le_of_ble_eq_true rfl) (Or.inr ⟨_, ct_5_5⟩) RF_225_5 ?_
                  refine JT_iload_n (q := 4) dX5_placeBy_172 rfl rfl ?_
                  refine JT_iload_n (q := 5) dX5_placeBy_173 rfl rfl ?_
                  obtain ⟨o24, h⟩ := h
                  refine JS_iast dX5_placeBy_174 BS_229 (Nat.le_of_ble_eq_true rfl) (Nat.le_of_ble_eq_true rfl) o24 ?_
                  refine JT_aload_n (q := 3) dX5_placeBy_175 rfl rfl ?_
                  refine JT_iload_n (q := 4) dX5_placeBy_176 rfl rfl ?_
                  refine JT_iconst (v := 1) dX5_placeBy_177 ic_1 ?_
                  refine JT_iadd dX5_placeBy_178 ?_
                  refine JT_iload_n (q := 6) dX5_placeBy_179 rfl rfl ?_
                  refine JT_iconst (v := 1) dX5_placeBy_180 ic_1 ?_
                  refine JT_iadd dX5_placeBy_181 ?_
                  refine JS_callVV (M' := MX5_place) (d' := e + 3) (As := [.int (a1 + (1 : Int32)), .int (a3 + (1 : Int32))]) (rest := []) dX5_placeBy_182 cvX5_83 okX5_place rfl (Nat.le_of_ble_eq_true rfl) BS_225 (Nat.le_of_ble_eq_true rfl) (Nat.le_of_ble_eq_true rfl) hci_5 (Nat.le_of_ble_eq_true rfl) (by show e + 3 + 1 ≤ e + 4; omega) h (fun s25 h => ?_)
                  exact JT_sub [3, 4, 5, 6, 2, 1, 0] rfl h
            · have h := h.2 hc29
              exact JS_vret dX5_placeBy_104 rfl h
    · have h := h.2 hc60
      refine JT_aload_n (q := 1) dX5_placeBy_40 rfl rfl ?_
      refine JS_getR (x := 227) dX5_placeBy_41 flX5_15 BS_225 (Nat.le_of_ble_eq_true rfl) (Nat.le_of_ble_eq_true rfl) (Or.inr ⟨_, ct_5_3⟩) RF_225_3 ?_
      refine JT_iload_n (q := 2) dX5_placeBy_44 rfl rfl ?_
      obtain ⟨o33, h⟩ := h
      refine JS_iald dX5_placeBy_45 BS_227 (Nat.le_of_ble_eq_true rfl) (Nat.le_of_ble_eq_true rfl) o33 ?_
      refine JT_goto (tgt := 66) dX5_placeBy_46 (by decide) ?_
      refine JT_istore (lv' := [(5, .int (gI s 227 (a1).toNatClampNeg)), (4, .int (gI s (Px1 + 3) ((gI s 226 (a1).toNatClampNeg)).toNatClampNeg)), (0, .ref 225), (1, .int a1), (2, .int a2), (3, .int a3)]) dX5_placeBy_66 (Nat.le_of_ble_eq_true rfl) rfl ?_
      refine JT_iload (q := 1) dX5_placeBy_68 rfl ?_
      refine JT_iconst (v := -1) dX5_placeBy_70 ic_m1 ?_
      refine JT_icmp_eq (tgt := 104) dX5_placeBy_71 (by decide) (fun hc59 => ?_) (fun hc59 => ?_)
      · have h := h.1 hc59
        exact JS_vret dX5_placeBy_104 rfl h
      · have h := h.2 hc59
        refine JT_iload (q := 0) dX5_placeBy_74 rfl ?_
        refine JT_iconst (v := -1) dX5_placeBy_76 ic_m1 ?_
        refine JT_icmp_eq (tgt := 104) dX5_placeBy_77 (by decide) (fun hc58 => ?_) (fun hc58 => ?_)
        · have h := h.1 hc58
          exact JS_vret dX5_placeBy_104 rfl h
        · have h := h.2 hc58
          refine JT_aload_n (q := 2) dX5_placeBy_80 rfl rfl ?_
          obtain ⟨Lx34, Px34, hrx34, hLx34, h⟩ := h
          refine JS_getR dX5_placeBy_81 flX5_71 BS_225 (Nat.le_of_ble_eq_true rfl) (Nat.le_of_ble_eq_true rfl) (Or.inl ⟨_, ct_5_10⟩) (RF_225_10.trans hrx34) ?_
          refine JT_iload (q := 1) dX5_placeBy_84 rfl ?_
          refine JS_callVI (M' := MX4_lives) (d' := 0) (As := [.int (gI s (Px1 + 3) ((gI s 226 (a1).toNatClampNeg)).toNatClampNeg)]) (rest := []) dX5_placeBy_86 cvX5_87 okX4_lives rfl (Nat.le_of_ble_eq_true rfl) (lxB hLx34) (lx2 hLx34) (lxN hLx34) hci_4 (Nat.le_of_ble_eq_true rfl) (by show 0 + 1 ≤ e + 4; omega) h (fun x36 s35 h => ?_)
          refine JT_if_eq (tgt := 104) dX5_placeBy_89 (by decide) (fun hc57 => ?_) (fun hc57 => ?_)
          · have h := h.1 hc57
            exact JS_vret dX5_placeBy_104 rfl h
          · have h := h.2 hc57
            refine JT_aload_n (q := 2) dX5_placeBy_92 rfl rfl ?_
            obtain ⟨Lx37, Px37, hrx37, hLx37, h⟩ := h
            refine JS_getR dX5_placeBy_93 flX5_71 BS_225 (Nat.le_of_ble_eq_true rfl) (Nat.le_of_ble_eq_true rfl) (Or.inl ⟨_, ct_5_10⟩) (RF_225_10.trans hrx37) ?_
            refine JT_iload (q := 0) dX5_placeBy_96 rfl ?_
            refine JS_callVI (M' := MX4_lives) (d' := 0) (As := [.int (gI s 227 (a1).toNatClampNeg)]) (rest := []) dX5_placeBy_98 cvX5_87 okX4_lives rfl (Nat.le_of_ble_eq_true rfl) (lxB hLx37) (lx2 hLx37) (lxN hLx37) hci_4 (Nat.le_of_ble_eq_true rfl) (by show 0 + 1 ≤ e + 4; omega) h (fun x39 s38 h => ?_)
            refine JT_if_ne (tgt := 105) dX5_placeBy_101 (by decide) (fun hc56 => ?_) (fun hc56 => ?_)
            · have h := h.1 hc56
              refine JT_aload_n (q := 2) dX5_placeBy_105 rfl rfl ?_
              obtain ⟨Lx40, Px40, hrx40, hLx40, h⟩ := h
              refine JS_getR dX5_placeBy_106 flX5_71 BS_225 (Nat.le_of_ble_eq_true rfl) (Nat.le_of_ble_eq_true rfl) (Or.inl ⟨_, ct_5_10⟩) (RF_225_10.trans hrx40) ?_
              refine JS_getR (x := Px40) dX5_placeBy_109 flX5_95 (lxB hLx40) (lx2 hLx40) (lxN hLx40) (Or.inl ⟨_, ct_4_8⟩) (lxR8 hLx40) ?_
              refine JS_getR (x := (Px40 + 5)) dX5_placeBy_112 flX5_102 (pxB (lxP hLx40)) (px2 (lxP hLx40)) (pxN (lxP hLx40)) (Or.inr ⟨_, ct_6_4⟩) (pxR4 (lxP hLx40)) ?_
              refine JT_aload_n (q := 2) dX5_placeBy_115 rfl rfl ?_
              refine JS_getR (x := 228) dX5_placeBy_116 flX5_18 BS_225 (Nat.le_of_ble_eq_true rfl) (Nat.le_of_ble_eq_true rfl) (Or.inr ⟨_, ct_5_4⟩) RF_225_4 ?_
              refine JT_iload_n (q := 3) dX5_placeBy_119 rfl rfl ?_
              obtain ⟨o41, h⟩ := h
              refine JS_iald dX5_placeBy_120 BS_228 (Nat.le_of_ble_eq_true rfl) (Nat.le_of_ble_eq_true rfl) o41 ?_
              obtain ⟨o42, h⟩ := h
              refine JS_iald dX5_placeBy_121 (pxB5 (lxP hLx40)) (px2k (lxP hLx40) _) (pxNk (lxP hLx40) (Nat.le_of_ble_eq_true rfl)) o42 ?_
              refine JT_istore (lv' := [(6, .int (gI s38 (Px40 + 5) ((gI s38 228 (a1).toNatClampNeg)).toNatClampNeg)), (5, .int (gI s 227 (a1).toNatClampNeg)), (4, .int (gI s (Px1 + 3) ((gI s 226 (a1).toNatClampNeg)).toNatClampNeg)), (0, .ref 225), (1, .int a1), (2, .int a2), (3, .int a3)]) dX5_placeBy_122 (Nat.le_of_ble_eq_true rfl) rfl ?_
              refine JT_aload_n (q := 3) dX5_placeBy_124 rfl rfl ?_
              refine JS_getR (x := 232) dX5_placeBy_125 flX5_30 BS_225 (Nat.le_of_ble_eq_true rfl) (Nat.le_of_ble_eq_true rfl) (Or.inr ⟨_, ct_5_8⟩) RF_225_8 ?_
              refine JT_iload (q := 2) dX5_placeBy_128 rfl ?_
              refine JT_dup2 dX5_placeBy_130 rfl rfl ?_
              obtain ⟨o43, h⟩ := h
              refine JS_iald dX5_placeBy_131 BS_232 (Nat.le_of_ble_eq_true rfl) (Nat.le_of_ble_eq_true rfl) o43 ?_
              refine JT_iload (q := 0) dX5_placeBy_132 rfl ?_
              refine JT_isub dX5_placeBy_134 ?_
              obtain ⟨o44, h⟩ := h
              refine JS_iast dX5_placeBy_135 BS_232 (Nat.le_of_ble_eq_true rfl) (Nat.le_of_ble_eq_true rfl) o44 ?_
              obtain ⟨s45, hs45⟩ : ∃ z, z = (pI s38 232 ((gI s (Px1 + 3) ((gI s 226 (a1).toNatClampNeg)).toNatClampNeg)).toNatClampNeg ((gI s38 232 ((gI s (Px1 + 3) ((gI s 226 (a1).toNatClampNeg)).toNatClampNeg)).toNatClampNeg) - (gI s38 (Px40 + 5) ((gI s38 228 (a1).toNatClampNeg)).toNatClampNeg))) := ⟨_, rfl⟩
              replace h := h s45 hs45
              rw [← hs45]
              refine JT_aload_n (q := 3) dX5_placeBy_136 rfl rfl ?_
              refine JS_getR (x := 232) dX5_placeBy_137 flX5_30 BS_225 (Nat.le_of_ble_eq_true rfl) (Nat.le_of_ble_eq_true rfl) (Or.inr ⟨_, ct_5_8⟩) RF_225_8 ?_
              refine JT_iload (q := 1) dX5_placeBy_140 rfl ?_
              refine JT_dup2 dX5_placeBy_142 rfl rfl ?_
              obtain ⟨o46, h⟩ := h
              refine JS_iald dX5_placeBy_143 BS_232 (Nat.le_of_ble_eq_true rfl) (Nat.le_of_ble_eq_true rfl) o46 ?_
              refine JT_iload (q := 0) dX5_placeBy_144 rfl ?_
              refine JT_isub dX5_placeBy_146 ?_
              obtain ⟨o47, h⟩ := h
              refine JS_iast dX5_placeBy_147 BS_232 (Nat.le_of_ble_eq_true rfl) (Nat.le_of_ble_eq_true rfl) o47 ?_
              obtain ⟨s48, hs48⟩ : ∃ z, z = (pI s45 232 ((gI s 227 (a1).toNatClampNeg)).toNatClampNeg ((gI s45 232 ((gI s 227 (a1).toNatClampNeg)).toNatClampNeg) - (gI s38 (Px40 + 5) ((gI s38 228 (a1).toNatClampNeg)).toNatClampNeg))) := ⟨_, rfl⟩
              replace h := h s48 hs48
              rw [← hs48]
              refine JT_aload_n (q := 3) dX5_placeBy_148 rfl rfl ?_
              refine JS_getR (x := 232) dX5_placeBy_149 flX5_30 BS_225 (Nat.le_of_ble_eq_true rfl) (Nat.le_of_ble_eq_true rfl) (Or.inr ⟨_, ct_5_8⟩) RF_225_8 ?_
              refine JT_iload (q := 2) dX5_placeBy_152 rfl ?_
              obtain ⟨o49, h⟩ := h
              refine JS_iald dX5_placeBy_154 BS_232 (Nat.le_of_ble_eq_true rfl) (Nat.le_of_ble_eq_true rfl) o49 ?_
              refine JT_if_lt (tgt := 185) dX5_placeBy_155 (by decide) (fun hc55 => ?_) (fun hc55 => ?_)
              · have h := h.1 hc55
                exact JT_sub [3, 4, 5, 6, 2, 1, 0] rfl h
              · have h := h.2 hc55
                refine JT_aload_n (q := 3) dX5_placeBy_158 rfl rfl ?_
                refine JS_getR (x := 232) dX5_placeBy_159 flX5_30 BS_225 (Nat.le_of_ble_eq_true rfl) (Nat.le_of_ble_eq_true rfl) (Or.inr ⟨_, ct_5_8⟩) RF_225_8 ?_
                refine JT_iload (q := 1) dX5_placeBy_162 rfl ?_
                obtain ⟨o50, h⟩ := h
                refine JS_iald dX5_placeBy_164 BS_232 (Nat.le_of_ble_eq_true rfl) (Nat.le_of_ble_eq_true rfl) o50 ?_
                refine JT_if_lt (tgt := 185) dX5_placeBy_165 (by decide) (fun hc54 => ?_) (fun hc54 => ?_)
                · have h := h.1 hc54
                  exact JT_sub [3, 4, 5, 6, 2, 1, 0] rfl h
                · have h := h.2 hc54
                  refine JT_aload_n (q := 3) dX5_placeBy_168 rfl rfl ?_
                  refine JS_getR (x := 229) dX5_placeBy_169 flX5_21 BS_225 (Nat.le_of_ble_eq_true rfl) (Nat.le_of_ble_eq_true rfl) (Or.inr ⟨_, ct_5_5⟩) RF_225_5 ?_
                  refine JT_iload_n (q := 4) dX5_placeBy_172 rfl rfl ?_
                  refine JT_iload_n (q := 5) dX5_placeBy_173 rfl rfl ?_
                  obtain ⟨o51, h⟩ := h
                  refine JS_iast dX5_placeBy_174 BS_229 (Nat.le_of_ble_eq_true rfl) (Nat.le_of_ble_eq_true rfl) o51 ?_
                  refine JT_aload_n (q := 3) dX5_placeBy_175 rfl rfl ?_
                  refine JT_iload_n (q := 4) dX5_placeBy_176 rfl rfl ?_
                  refine JT_iconst (v := 1) dX5_placeBy_177 ic_1 ?_
                  refine JT_iadd dX5_placeBy_178 ?_
                  refine JT_iload_n (q := 6) dX5_placeBy_179 rfl rfl ?_
                  refine JT_iconst (v := 1) dX5_placeBy_180 ic_1 ?_
                  refine JT_iadd dX5_placeBy_181 ?_
                  refine JS_callVV (M' := MX5_place) (d' := e + 3) (As := [.int (a1 + (1 : Int32)), .int (a3 + (1 : Int32))]) (rest := []) dX5_placeBy_182 cvX5_83 okX5_place rfl (Nat.le_of_ble_eq_true rfl) BS_225 (Nat.le_of_ble_eq_true rfl) (Nat.le_of_ble_eq_true rfl) hci_5 (Nat.le_of_ble_eq_true rfl) (by show e + 3 + 1 ≤ e + 4; omega) h (fun s52 h => ?_)
                  exact JT_sub [3, 4, 5, 6, 2, 1, 0] rfl h
            · have h := h.2 hc56
              exact JS_vret dX5_placeBy_104 rfl h
  · have h := h.2 hc119
    refine JT_aload_n (q := 0) dX5_placeBy_6 rfl rfl ?_
    refine JS_getR (x := 226) dX5_placeBy_7 flX5_9 BS_225 (Nat.le_of_ble_eq_true rfl) (Nat.le_of_ble_eq_true rfl) (Or.inr ⟨_, ct_5_2⟩) RF_225_2 ?_
    refine JT_iload_n (q := 1) dX5_placeBy_10 rfl rfl ?_
    obtain ⟨o61, h⟩ := h
    refine JS_iald dX5_placeBy_11 BS_226 (Nat.le_of_ble_eq_true rfl) (Nat.le_of_ble_eq_true rfl) o61 ?_
    refine JT_goto (tgt := 32) dX5_placeBy_12 (by decide) ?_
    refine JT_istore (lv' := [(4, .int (gI s 226 (a1).toNatClampNeg)), (0, .ref 225), (1, .int a1), (2, .int a2), (3, .int a3)]) dX5_placeBy_32 (Nat.le_of_ble_eq_true rfl) rfl ?_
    refine JT_iload_n (q := 3) dX5_placeBy_34 rfl rfl ?_
    refine JT_iconst (v := 2) dX5_placeBy_35 ic_2 ?_
    refine JT_iand dX5_placeBy_36 ?_
    refine JT_if_ne (tgt := 49) dX5_placeBy_37 (by decide) (fun hc118 => ?_) (fun hc118 => ?_)
    · have h := h.1 hc118
      refine JT_aload_n (q := 1) dX5_placeBy_49 rfl rfl ?_
      obtain ⟨Lx62, Px62, hrx62, hLx62, h⟩ := h
      refine JS_getR dX5_placeBy_50 flX5_71 BS_225 (Nat.le_of_ble_eq_true rfl) (Nat.le_of_ble_eq_true rfl) (Or.inl ⟨_, ct_5_10⟩) (RF_225_10.trans hrx62) ?_
      refine JS_getR (x := Px62) dX5_placeBy_53 flX5_95 (lxB hLx62) (lx2 hLx62) (lxN hLx62) (Or.inl ⟨_, ct_4_8⟩) (lxR8 hLx62) ?_
      refine JS_getR (x := (Px62 + 3)) dX5_placeBy_56 flX5_99 (pxB (lxP hLx62)) (px2 (lxP hLx62)) (pxN (lxP hLx62)) (Or.inr ⟨_, ct_6_2⟩) (pxR2 (lxP hLx62)) ?_
      refine JT_aload_n (q := 1) dX5_placeBy_59 rfl rfl ?_
      refine JS_getR (x := 227) dX5_placeBy_60 flX5_15 BS_225 (Nat.le_of_ble_eq_true rfl) (Nat.le_of_ble_eq_true rfl) (Or.inr ⟨_, ct_5_3⟩) RF_225_3 ?_
      refine JT_iload_n (q := 2) dX5_placeBy_63 rfl rfl ?_
      obtain ⟨o63, h⟩ := h
      refine JS_iald dX5_placeBy_64 BS_227 (Nat.le_of_ble_eq_true rfl) (Nat.le_of_ble_eq_true rfl) o63 ?_
      obtain ⟨o64, h⟩ := h
      refine JS_iald dX5_placeBy_65 (pxB3 (lxP hLx62)) (px2k (lxP hLx62) _) (pxNk (lxP hLx62) (Nat.le_of_ble_eq_true rfl)) o64 ?_
      refine JT_istore (lv' := [(5, .int (gI s (Px62 + 3) ((gI s 227 (a1).toNatClampNeg)).toNatClampNeg)), (4, .int (gI s 226 (a1).toNatClampNeg)), (0, .ref 225), (1, .int a1), (2, .int a2), (3, .int a3)]) dX5_placeBy_66 (Nat.le_of_ble_eq_true rfl) rfl ?_
      refine JT_iload (q := 1) dX5_placeBy_68 rfl ?_
      refine JT_iconst (v := -1) dX5_placeBy_70 ic_m1 ?_
      refine JT_icmp_eq (tgt := 104) dX5_placeBy_71 (by decide) (fun hc90 => ?_) (fun hc90 => ?_)
      · have h := h.1 hc90
        exact JS_vret dX5_placeBy_104 rfl h
      · have h := h.2 hc90
        refine JT_iload (q := 0) dX5_placeBy_74 rfl ?_
        refine JT_iconst (v := -1) dX5_placeBy_76 ic_m1 ?_
        refine JT_icmp_eq (tgt := 104) dX5_placeBy_77 (by decide) (fun hc89 => ?_) (fun hc89 => ?_)
        · have h := h.1 hc89
          exact JS_vret dX5_placeBy_104 rfl h
        · have h := h.2 hc89
          refine JT_aload_n (q := 2) dX5_placeBy_80 rfl rfl ?_
          obtain ⟨Lx65, Px65, hrx65, hLx65, h⟩ := h
          refine JS_getR dX5_placeBy_81 flX5_71 BS_225 (Nat.le_of_ble_eq_true rfl) (Nat.le_of_ble_eq_true rfl) (Or.inl ⟨_, ct_5_10⟩) (RF_225_10.trans hrx65) ?_
          refine JT_iload (q := 1) dX5_placeBy_84 rfl ?_
          refine JS_callVI (M' := MX4_lives) (d' := 0) (As := [.int (gI s 226 (a1).toNatClampNeg)]) (rest := []) dX5_placeBy_86 cvX5_87 okX4_lives rfl (Nat.le_of_ble_eq_true rfl) (lxB hLx65) (lx2 hLx65) (lxN hLx65) hci_4 (Nat.le_of_ble_eq_true rfl) (by show 0 + 1 ≤ e + 4; omega) h (fun x67 s66 h => ?_)
          refine JT_if_eq (tgt := 104) dX5_placeBy_89 (by decide) (fun hc88 => ?_) (fun hc88 => ?_)
          · have h := h.1 hc88
            exact JS_vret dX5_placeBy_104 rfl h
          · have h := h.2 hc88
            refine JT_aload_n (q := 2) dX5_placeBy_92 rfl rfl ?_
            obtain ⟨Lx68, Px68, hrx68, hLx68, h⟩ := h
            refine JS_getR dX5_placeBy_93 flX5_71 BS_225 (Nat.le_of_ble_eq_true rfl) (Nat.le_of_ble_eq_true rfl) (Or.inl ⟨_, ct_5_10⟩) (RF_225_10.trans hrx68) ?_
            refine JT_iload (q := 0) dX5_placeBy_96 rfl ?_
            refine JS_callVI (M' := MX4_lives) (d' := 0) (As := [.int (gI s (Px62 + 3) ((gI s 227 (a1).toNatClampNeg)).toNatClampNeg)]) (rest := []) dX5_placeBy_98 cvX5_87 okX4_lives rfl (Nat.le_of_ble_eq_true rfl) (lxB hLx68) (lx2 hLx68) (lxN hLx68) hci_4 (Nat.le_of_ble_eq_true rfl) (by show 0 + 1 ≤ e + 4; omega) h (fun x70 s69 h => ?_)
            refine JT_if_ne (tgt := 105) dX5_placeBy_101 (by decide) (fun hc87 => ?_) (fun hc87 => ?_)
            · have h := h.1 hc87
              refine JT_aload_n (q := 2) dX5_placeBy_105 rfl rfl ?_
              obtain ⟨Lx71, Px71, hrx71, hLx71, h⟩ := h
              refine JS_getR dX5_placeBy_106 flX5_71 BS_225 (Nat.le_of_ble_eq_true rfl) (Nat.le_of_ble_eq_true rfl) (Or.inl ⟨_, ct_5_10⟩) (RF_225_10.trans hrx71) ?_
              refine JS_getR (x := Px71) dX5_placeBy_109 flX5_95 (lxB hLx71) (lx2 hLx71) (lxN hLx71) (Or.inl ⟨_, ct_4_8⟩) (lxR8 hLx71) ?_
              refine JS_getR (x := (Px71 + 5)) dX5_placeBy_112 flX5_102 (pxB (lxP hLx71)) (px2 (lxP hLx71)) (pxN (lxP hLx71)) (Or.inr ⟨_, ct_6_4⟩) (pxR4 (lxP hLx71)) ?_
              refine JT_aload_n (q := 2) dX5_placeBy_115 rfl rfl ?_
              refine JS_getR (x := 228) dX5_placeBy_116 flX5_18 BS_225 (Nat.le_of_ble_eq_true rfl) (Nat.le_of_ble_eq_true rfl) (Or.inr ⟨_, ct_5_4⟩) RF_225_4 ?_
              refine JT_iload_n (q := 3) dX5_placeBy_119 rfl rfl ?_
              obtain ⟨o72, h⟩ := h
              refine JS_iald dX5_placeBy_120 BS_228 (Nat.le_of_ble_eq_true rfl) (Nat.le_of_ble_eq_true rfl) o72 ?_
              obtain ⟨o73, h⟩ := h
              refine JS_iald dX5_placeBy_121 (pxB5 (lxP hLx71)) (px2k (lxP hLx71) _) (pxNk (lxP hLx71) (Nat.le_of_ble_eq_true rfl)) o73 ?_
              refine JT_istore (lv' := [(6, .int (gI s69 (Px71 + 5) ((gI s69 228 (a1).toNatClampNeg)).toNatClampNeg)), (5, .int (gI s (Px62 + 3) ((gI s 227 (a1).toNatClampNeg)).toNatClampNeg)), (4, .int (gI s 226 (a1).toNatClampNeg)), (0, .ref 225), (1, .int a1), (2, .int a2), (3, .int a3)]) dX5_placeBy_122 (Nat.le_of_ble_eq_true rfl) rfl ?_
              refine JT_aload_n (q := 3) dX5_placeBy_124 rfl rfl ?_
              refine JS_getR (x := 232) dX5_placeBy_125 flX5_30 BS_225 (Nat.le_of_ble_eq_true rfl) (Nat.le_of_ble_eq_true rfl) (Or.inr ⟨_, ct_5_8⟩) RF_225_8 ?_
              refine JT_iload (q := 2) dX5_placeBy_128 rfl ?_
              refine JT_dup2 dX5_placeBy_130 rfl rfl ?_
              obtain ⟨o74, h⟩ := h
              refine JS_iald dX5_placeBy_131 BS_232 (Nat.le_of_ble_eq_true rfl) (Nat.le_of_ble_eq_true rfl) o74 ?_
              refine JT_iload (q := 0) dX5_placeBy_132 rfl ?_
              refine JT_isub dX5_placeBy_134 ?_
              obtain ⟨o75, h⟩ := h
              refine JS_iast dX5_placeBy_135 BS_232 (Nat.le_of_ble_eq_true rfl) (Nat.le_of_ble_eq_true rfl) o75 ?_
              obtain ⟨s76, hs76⟩ : ∃ z, z = (pI s69 232 ((gI s 226 (a1).toNatClampNeg)).toNatClampNeg ((gI s69 232 ((gI s 226 (a1).toNatClampNeg)).toNatClampNeg) - (gI s69 (Px71 + 5) ((gI s69 228 (a1).toNatClampNeg)).toNatClampNeg))) := ⟨_, rfl⟩
              replace h := h s76 hs76
              rw [← hs76]
              refine JT_aload_n (q := 3) dX5_placeBy_136 rfl rfl ?_
              refine JS_getR (x := 232) dX5_placeBy_137 flX5_30 BS_225 (Nat.le_of_ble_eq_true rfl) (Nat.le_of_ble_eq_true rfl) (Or.inr ⟨_, ct_5_8⟩) RF_225_8 ?_
              refine JT_iload (q := 1) dX5_placeBy_140 rfl ?_
              refine JT_dup2 dX5_placeBy_142 rfl rfl ?_
              obtain ⟨o77, h⟩ := h
              refine JS_iald dX5_placeBy_143 BS_232 (Nat.le_of_ble_eq_true rfl) (Nat.le_of_ble_eq_true rfl) o77 ?_
              refine JT_iload (q := 0) dX5_placeBy_144 rfl ?_
              refine JT_isub dX5_placeBy_146 ?_
              obtain ⟨o78, h⟩ := h
              refine JS_iast dX5_placeBy_147 BS_232 (Nat.le_of_ble_eq_true rfl) (Nat.le_of_ble_eq_true rfl) o78 ?_
              obtain ⟨s79, hs79⟩ : ∃ z, z = (pI s76 232 ((gI s (Px62 + 3) ((gI s 227 (a1).toNatClampNeg)).toNatClampNeg)).toNatClampNeg ((gI s76 232 ((gI s (Px62 + 3) ((gI s 227 (a1).toNatClampNeg)).toNatClampNeg)).toNatClampNeg) - (gI s69 (Px71 + 5) ((gI s69 228 (a1).toNatClampNeg)).toNatClampNeg))) := ⟨_, rfl⟩
              replace h := h s79 hs79
              rw [← hs79]
              refine JT_aload_n (q := 3) dX5_placeBy_148 rfl rfl ?_
              refine JS_getR (x := 232) dX5_placeBy_149 flX5_30 BS_225 (Nat.le_of_ble_eq_true rfl) (Nat.le_of_ble_eq_true rfl) (Or.inr ⟨_, ct_5_8⟩) RF_225_8 ?_
              refine JT_iload (q := 2) dX5_placeBy_152 rfl ?_
              obtain ⟨o80, h⟩ := h
              refine JS_iald dX5_placeBy_154 BS_232 (Nat.le_of_ble_eq_true rfl) (Nat.le_of_ble_eq_true rfl) o80 ?_
              refine JT_if_lt (tgt := 185) dX5_placeBy_155 (by decide) (fun hc86 => ?_) (fun hc86 => ?_)
              · have h := h.1 hc86
                exact JT_sub [3, 4, 5, 6, 2, 1, 0] rfl h
              · have h := h.2 hc86
                refine JT_aload_n (q := 3) dX5_placeBy_158 rfl rfl ?_
                refine JS_getR (x := 232) dX5_placeBy_159 flX5_30 BS_225 (Nat.le_of_ble_eq_true rfl) (Nat.le_of_ble_eq_true rfl) (Or.inr ⟨_, ct_5_8⟩) RF_225_8 ?_
                refine JT_iload (q := 1) dX5_placeBy_162 rfl ?_
                obtain ⟨o81, h⟩ := h
                refine JS_iald dX5_placeBy_164 BS_232 (Nat.le_of_ble_eq_true rfl) (Nat.le_of_ble_eq_true rfl) o81 ?_
                refine JT_if_lt (tgt := 185) dX5_placeBy_165 (by decide) (fun hc85 => ?_) (fun hc85 => ?_)
                · have h := h.1 hc85
                  exact JT_sub [3, 4, 5, 6, 2, 1, 0] rfl h
                · have h := h.2 hc85
                  refine JT_aload_n (q := 3) dX5_placeBy_168 rfl rfl ?_
                  refine JS_getR (x := 229) dX5_placeBy_169 flX5_21 BS_225 (Nat.le_of_ble_eq_true rfl) (Nat.le_of_ble_eq_true rfl) (Or.inr ⟨_, ct_5_5⟩) RF_225_5 ?_
                  refine JT_iload_n (q := 4) dX5_placeBy_172 rfl rfl ?_
                  refine JT_iload_n (q := 5) dX5_placeBy_173 rfl rfl ?_
                  obtain ⟨o82, h⟩ := h
                  refine JS_iast dX5_placeBy_174 BS_229 (Nat.le_of_ble_eq_true rfl) (Nat.le_of_ble_eq_true rfl) o82 ?_
                  refine JT_aload_n (q := 3) dX5_placeBy_175 rfl rfl ?_
                  refine JT_iload_n (q := 4) dX5_placeBy_176 rfl rfl ?_
                  refine JT_iconst (v := 1) dX5_placeBy_177 ic_1 ?_
                  refine JT_iadd dX5_placeBy_178 ?_
                  refine JT_iload_n (q := 6) dX5_placeBy_179 rfl rfl ?_
                  refine JT_iconst (v := 1) dX5_placeBy_180 ic_1 ?_
                  refine JT_iadd dX5_placeBy_181 ?_
                  refine JS_callVV (M' := MX5_place) (d' := e + 3) (As := [.int (a1 + (1 : Int32)), .int (a3 + (1 : Int32))]) (rest := []) dX5_placeBy_182 cvX5_83 okX5_place rfl (Nat.le_of_ble_eq_true rfl) BS_225 (Nat.le_of_ble_eq_true rfl) (Nat.le_of_ble_eq_true rfl) hci_5 (Nat.le_of_ble_eq_true rfl) (by show e + 3 + 1 ≤ e + 4; omega) h (fun s83 h => ?_)
                  exact JT_sub [3, 4, 5, 6, 2, 1, 0] rfl h
            · have h := h.2 hc87
              exact JS_vret dX5_placeBy_104 rfl h
    · have h := h.2 hc118
      refine JT_aload_n (q := 1) dX5_placeBy_40 rfl rfl ?_
      refine JS_getR (x := 227) dX5_placeBy_41 flX5_15 BS_225 (Nat.le_of_ble_eq_true rfl) (Nat.le_of_ble_eq_true rfl) (Or.inr ⟨_, ct_5_3⟩) RF_225_3 ?_
      refine JT_iload_n (q := 2) dX5_placeBy_44 rfl rfl ?_
      obtain ⟨o91, h⟩ := h
      refine JS_iald dX5_placeBy_45 BS_227 (Nat.le_of_ble_eq_true rfl) (Nat.le_of_ble_eq_true rfl) o91 ?_
      refine JT_goto (tgt := 66) dX5_placeBy_46 (by decide) ?_
      refine JT_istore (lv' := [(5, .int (gI s 227 (a1).toNatClampNeg)), (4, .int (gI s 226 (a1).toNatClampNeg)), (0, .ref 225), (1, .int a1), (2, .int a2), (3, .int a3)]) dX5_placeBy_66 (Nat.le_of_ble_eq_true rfl) rfl ?_
      refine JT_iload (q := 1) dX5_placeBy_68 rfl ?_
      refine JT_iconst (v := -1) dX5_placeBy_70 ic_m1 ?_
      refine JT_icmp_eq (tgt := 104) dX5_placeBy_71 (by decide) (fun hc117 => ?_) (fun hc117 => ?_)
      · have h := h.1 hc117
        exact JS_vret dX5_placeBy_104 rfl h
      · have h := h.2 hc117
        refine JT_iload (q := 0) dX5_placeBy_74 rfl ?_
        refine JT_iconst (v := -1) dX5_placeBy_76 ic_m1 ?_
        refine JT_icmp_eq (tgt := 104) dX5_placeBy_77 (by decide) (fun hc116 => ?_) (fun hc116 => ?_)
        · have h := h.1 hc116
          exact JS_vret dX5_placeBy_104 rfl h
        · have h := h.2 hc116
          refine JT_aload_n (q := 2) dX5_placeBy_80 rfl rfl ?_
          obtain ⟨Lx92, Px92, hrx92, hLx92, h⟩ := h
          refine JS_getR dX5_placeBy_81 flX5_71 BS_225 (Nat.le_of_ble_eq_true rfl) (Nat.le_of_ble_eq_true rfl) (Or.inl ⟨_, ct_5_10⟩) (RF_225_10.trans hrx92) ?_
          refine JT_iload (q := 1) dX5_placeBy_84 rfl ?_
          refine JS_callVI (M' := MX4_lives) (d' := 0) (As := [.int (gI s 226 (a1).toNatClampNeg)]) (rest := []) dX5_placeBy_86 cvX5_87 okX4_lives rfl (Nat.le_of_ble_eq_true rfl) (lxB hLx92) (lx2 hLx92) (lxN hLx92) hci_4 (Nat.le_of_ble_eq_true rfl) (by show 0 + 1 ≤ e + 4; omega) h (fun x94 s93 h => ?_)
          refine JT_if_eq (tgt := 104) dX5_placeBy_89 (by decide) (fun hc115 => ?_) (fun hc115 => ?_)
          · have h := h.1 hc115
            exact JS_vret dX5_placeBy_104 rfl h
          · have h := h.2 hc115
            refine JT_aload_n (q := 2) dX5_placeBy_92 rfl rfl ?_
            obtain ⟨Lx95, Px95, hrx95, hLx95, h⟩ := h
            refine JS_getR dX5_placeBy_93 flX5_71 BS_225 (Nat.le_of_ble_eq_true rfl) (Nat.le_of_ble_eq_true rfl) (Or.inl ⟨_, ct_5_10⟩) (RF_225_10.trans hrx95) ?_
            refine JT_iload (q := 0) dX5_placeBy_96 rfl ?_
            refine JS_callVI (M' := MX4_lives) (d' := 0) (As := [.int (gI s 227 (a1).toNatClampNeg)]) (rest := []) dX5_placeBy_98 cvX5_87 okX4_lives rfl (Nat.le_of_ble_eq_true rfl) (lxB hLx95) (lx2 hLx95) (lxN hLx95) hci_4 (Nat.le_of_ble_eq_true rfl) (by show 0 + 1 ≤ e + 4; omega) h (fun x97 s96 h => ?_)
            refine JT_if_ne (tgt := 105) dX5_placeBy_101 (by decide) (fun hc114 => ?_) (fun hc114 => ?_)
            · have h := h.1 hc114
              refine JT_aload_n (q := 2) dX5_placeBy_105 rfl rfl ?_
              obtain ⟨Lx98, Px98, hrx98, hLx98, h⟩ := h
              refine JS_getR dX5_placeBy_106 flX5_71 BS_225 (Nat.le_of_ble_eq_true rfl) (Nat.le_of_ble_eq_true rfl) (Or.inl ⟨_, ct_5_10⟩) (RF_225_10.trans hrx98) ?_
              refine JS_getR (x := Px98) dX5_placeBy_109 flX5_95 (lxB hLx98) (lx2 hLx98) (lxN hLx98) (Or.inl ⟨_, ct_4_8⟩) (lxR8 hLx98) ?_
              refine JS_getR (x := (Px98 + 5)) dX5_placeBy_112 flX5_102 (pxB (lxP hLx98)) (px2 (lxP hLx98)) (pxN (lxP hLx98)) (Or.inr ⟨_, ct_6_4⟩) (pxR4 (lxP hLx98)) ?_
              refine JT_aload_n (q := 2) dX5_placeBy_115 rfl rfl ?_
              refine JS_getR (x := 228) dX5_placeBy_116 flX5_18 BS_225 (Nat.le_of_ble_eq_true rfl) (Nat.le_of_ble_eq_true rfl) (Or.inr ⟨_, ct_5_4⟩) RF_225_4 ?_
              refine JT_iload_n (q := 3) dX5_placeBy_119 rfl rfl ?_
              obtain ⟨o99, h⟩ := h
              refine JS_iald dX5_placeBy_120 BS_228 (Nat.le_of_ble_eq_true rfl) (Nat.le_of_ble_eq_true rfl) o99 ?_
              obtain ⟨o100, h⟩ := h
              refine JS_iald dX5_placeBy_121 (pxB5 (lxP hLx98)) (px2k (lxP hLx98) _) (pxNk (lxP hLx98) (Nat.le_of_ble_eq_true rfl)) o100 ?_
              refine JT_istore (lv' := [(6, .int (gI s96 (Px98 + 5) ((gI s96 228 (a1).toNatClampNeg)).toNatClampNeg)), (5, .int (gI s 227 (a1).toNatClampNeg)), (4, .int (gI s 226 (a1).toNatClampNeg)), (0, .ref 225), (1, .int a1), (2, .int a2), (3, .int a3)]) dX5_placeBy_122 (Nat.le_of_ble_eq_true rfl) rfl ?_
              refine JT_aload_n (q := 3) dX5_placeBy_124 rfl rfl ?_
              refine JS_getR (x := 232) dX5_placeBy_125 flX5_30 BS_225 (Nat.le_of_ble_eq_true rfl) (Nat.le_of_ble_eq_true rfl) (Or.inr ⟨_, ct_5_8⟩) RF_225_8 ?_
              refine JT_iload (q := 2) dX5_placeBy_128 rfl ?_
              refine JT_dup2 dX5_placeBy_130 rfl rfl ?_
              obtain ⟨o101, h⟩ := h
              refine JS_iald dX5_placeBy_131 BS_232 (Nat.le_of_ble_eq_true rfl) (Nat.le_of_ble_eq_true rfl) o101 ?_
              refine JT_iload (q := 0) dX5_placeBy_132 rfl ?_
              refine JT_isub dX5_placeBy_134 ?_
              obtain ⟨o102, h⟩ := h
              refine JS_iast dX5_placeBy_135 BS_232 (Nat.le_of_ble_eq_true rfl) (Nat.le_of_ble_eq_true rfl) o102 ?_
              obtain ⟨s103, hs103⟩ : ∃ z, z = (pI s96 232 ((gI s 226 (a1).toNatClampNeg)).toNatClampNeg ((gI s96 232 ((gI s 226 (a1).toNatClampNeg)).toNatClampNeg) - (gI s96 (Px98 + 5) ((gI s96 228 (a1).toNatClampNeg)).toNatClampNeg))) := ⟨_, rfl⟩
              replace h := h s103 hs103
              rw [← hs103]
              refine JT_aload_n (q := 3) dX5_placeBy_136 rfl rfl ?_
              refine JS_getR (x := 232) dX5_placeBy_137 flX5_30 BS_225 (Nat.le_of_ble_eq_true rfl) (Nat.le_of_ble_eq_true rfl) (Or.inr ⟨_, ct_5_8⟩) RF_225_8 ?_
              refine JT_iload (q := 1) dX5_placeBy_140 rfl ?_
              refine JT_dup2 dX5_placeBy_142 rfl rfl ?_
              obtain ⟨o104, h⟩ := h
              refine JS_iald dX5_placeBy_143 BS_232 (Nat.le_of_ble_eq_true rfl) (Nat.le_of_ble_eq_true rfl) o104 ?_
              refine JT_iload (q := 0) dX5_placeBy_144 rfl ?_
              refine JT_isub dX5_placeBy_146 ?_
              obtain ⟨o105, h⟩ := h
              refine JS_iast dX5_placeBy_147 BS_232 (Nat.le_of_ble_eq_true rfl) (Nat.le_of_ble_eq_true rfl) o105 ?_
              obtain ⟨s106, hs106⟩ : ∃ z, z = (pI s103 232 ((gI s 227 (a1).toNatClampNeg)).toNatClampNeg ((gI s103 232 ((gI s 227 (a1).toNatClampNeg)).toNatClampNeg) - (gI s96 (Px98 + 5) ((gI s96 228 (a1).toNatClampNeg)).toNatClampNeg))) := ⟨_, rfl⟩
              replace h := h s106 hs106
              rw [← hs106]
              refine JT_aload_n (q := 3) dX5_placeBy_148 rfl rfl ?_
              refine JS_getR (x := 232) dX5_placeBy_149 flX5_30 BS_225 (Nat.le_of_ble_eq_true rfl) (Nat.le_of_ble_eq_true rfl) (Or.inr ⟨_, ct_5_8⟩) RF_225_8 ?_
              refine JT_iload (q := 2) dX5_placeBy_152 rfl ?_
              obtain ⟨o107, h⟩ := h
              refine JS_iald dX5_placeBy_154 BS_232 (Nat.le_of_ble_eq_true rfl) (Nat.le_of_ble_eq_true rfl) o107 ?_
              refine JT_if_lt (tgt := 185) dX5_placeBy_155 (by decide) (fun hc113 => ?_) (fun hc113 => ?_)
              · have h := h.1 hc113
                exact JT_sub [3, 4, 5, 6, 2, 1, 0] rfl h
              · have h := h.2 hc113
                refine JT_aload_n (q := 3) dX5_placeBy_158 rfl rfl ?_
                refine JS_getR (x := 232) dX5_placeBy_159 flX5_30 BS_225 (Nat.le_of_ble_eq_true rfl) (Nat.le_of_ble_eq_true rfl) (Or.inr ⟨_, ct_5_8⟩) RF_225_8 ?_
                refine JT_iload (q := 1) dX5_placeBy_162 rfl ?_
                obtain ⟨o108, h⟩ := h
                refine JS_iald dX5_placeBy_164 BS_232 (Nat.le_of_ble_eq_true rfl) (Nat.le_of_ble_eq_true rfl) o108 ?_
                refine JT_if_lt (tgt := 185) dX5_placeBy_165 (by decide) (fun hc112 => ?_) (fun hc112 => ?_)
                · have h := h.1 hc112
                  exact JT_sub [3, 4, 5, 6, 2, 1, 0] rfl h
                · have h := h.2 hc112
                  refine JT_aload_n (q := 3) dX5_placeBy_168 rfl rfl ?_
                  refine JS_getR (x := 229) dX5_placeBy_169 flX5_21 BS_225 (Nat.le_of_ble_eq_true rfl) (Nat.le_of_ble_eq_true rfl) (Or.inr ⟨_, ct_5_5⟩) RF_225_5 ?_
                  refine JT_iload_n (q := 4) dX5_placeBy_172 rfl rfl ?_
                  refine JT_iload_n (q := 5) dX5_placeBy_173 rfl rfl ?_
                  obtain ⟨o109, h⟩ := h
                  refine JS_iast dX5_placeBy_174 BS_229 (Nat.le_of_ble_eq_true rfl) (Nat.le_of_ble_eq_true rfl) o109 ?_
                  refine JT_aload_n (q := 3) dX5_placeBy_175 rfl rfl ?_
                  refine JT_iload_n (q := 4) dX5_placeBy_176 rfl rfl ?_
                  refine JT_iconst (v := 1) dX5_placeBy_177 ic_1 ?_
                  refine JT_iadd dX5_placeBy_178 ?_
                  refine JT_iload_n (q := 6) dX5_placeBy_179 rfl rfl ?_
                  refine JT_iconst (v := 1) dX5_placeBy_180 ic_1 ?_
                  refine JT_iadd dX5_placeBy_181 ?_
                  refine JS_callVV (M' := MX5_place) (d' := e + 3) (As := [.int (a1 + (1 : Int32)), .int (a3 + (1 : Int32))]) (rest := []) dX5_placeBy_182 cvX5_83 okX5_place rfl (Nat.le_of_ble_eq_true rfl) BS_225 (Nat.le_of_ble_eq_true rfl) (Nat.le_of_ble_eq_true rfl) hci_5 (Nat.le_of_ble_eq_true rfl) (by show e + 3 + 1 ≤ e + 4; omega) h (fun s110 h => ?_)
                  exact JT_sub [3, 4, 5, 6, 2, 1, 0] rfl h
            · have h := h.2 hc114
              exact JS_vret dX5_placeBy_104 rfl h
set_option maxRecDepth 20000 in
theorem bX5_place_30 {e : Nat} (a1 : Int32) (a2 : Int32) {s : SM} {Q : SM → Prop} (h : (∀ s1, s1 = (cI (pI s 225 9 a2) 230 (va_cpy (gI (pI s 225 9 a2) 229) (gI (pI s 225 9 a2) 230) ((0 : Int32)).toNatClampNeg ((0 : Int32)).toNatClampNeg ((6 : Int32)).toNatClampNeg)) → Q s1)) : BV MX5_place (e + 4) 30 [(0, .ref 225), (1, .int a1), (2, .int a2)] s Q := by
  refine JT_aload_n (q := 0) dX5_place_30 rfl rfl ?_
  refine JT_iload_n (q := 2) dX5_place_31 rfl rfl ?_
  refine JS_putI dX5_place_32 flX5_75 BS_225 (Nat.le_of_ble_eq_true rfl) (Nat.le_of_ble_eq_true rfl) ct_5_9 ?_
  refine JT_aload_n (q := 0) dX5_place_35 rfl rfl ?_
  refine JS_getR (x := 229) dX5_place_36 flX5_21 BS_225 (Nat.le_of_ble_eq_true rfl) (Nat.le_of_ble_eq_true rfl) (Or.inr ⟨_, ct_5_5⟩) RF_225_5 ?_
  refine JT_iconst (v := 0) dX5_place_39 ic_0 ?_
  refine JT_aload_n (q := 0) dX5_place_40 rfl rfl ?_
  refine JS_getR (x := 230) dX5_place_41 flX5_24 BS_225 (Nat.le_of_ble_eq_true rfl) (Nat.le_of_ble_eq_true rfl) (Or.inr ⟨_, ct_5_6⟩) RF_225_6 ?_
  refine JT_iconst (v := 0) dX5_place_44 ic_0 ?_
  refine JT_bipush (v := 6) dX5_place_45 bp_6 ?_
  refine JS_copyI (d2 := e + 3) (na := 6) (nb := 6) dX5_place_47 mlX5_65 BS_230 (Nat.le_of_ble_eq_true rfl) (Nat.le_of_ble_eq_true rfl) BS_229 (Nat.le_of_ble_eq_true rfl) (Nat.le_of_ble_eq_true rfl) (by decide) (by decide) (by decide) (by decide) (by decide) (Nat.le_of_ble_eq_true rfl) rfl ?_
  obtain ⟨s1, hs1⟩ : ∃ z, z = (cI (pI s 225 9 a2) 230 (va_cpy (gI (pI s 225 9 a2) 229) (gI (pI s 225 9 a2) 230) ((0 : Int32)).toNatClampNeg ((0 : Int32)).toNatClampNeg ((6 : Int32)).toNatClampNeg)) := ⟨_, rfl⟩
  replace h := h s1 hs1
  rw [← hs1]
  exact JS_vret dX5_place_50 rfl h
set_option maxRecDepth 20000 in
theorem bX5_place_100 {e : Nat} (a1 : Int32) (a2 : Int32) (a3 : Int32) {s : SM} {Q : SM → Prop} (h : (((4 : Int32) ≤ a3 → BV MX5_place (e + 4) 118 [(0, .ref 225), (1, .int a1), (2, .int a2)] s Q) ∧ (¬ (4 : Int32) ≤ a3 → KV MX5_placeBy (e + 3) [.ref 225, .int a1, .int a3, .int a2] s (fun s1 => BV MX5_place (e + 4) 100 [(0, .ref 225), (1, .int a1), (2, .int a2), (3, .int (a3 + 1))] s1 Q)))) : BV MX5_place (e + 4) 100 [(0, .ref 225), (1, .int a1), (2, .int a2), (3, .int a3)] s Q := by
  refine JT_iload_n (q := 3) dX5_place_100 rfl rfl ?_
  refine JT_iconst (v := 4) dX5_place_101 ic_4 ?_
  refine JT_icmp_ge (tgt := 118) dX5_place_102 (by decide) (fun hc3 => ?_) (fun hc3 => ?_)
  · have h := h.1 hc3
    exact JT_sub [0, 1, 2] rfl h
  · have h := h.2 hc3
    refine JT_aload_n (q := 0) dX5_place_105 rfl rfl ?_
    refine JT_iload_n (q := 1) dX5_place_106 rfl rfl ?_
    refine JT_iload_n (q := 3) dX5_place_107 rfl rfl ?_
    refine JT_iload_n (q := 2) dX5_place_108 rfl rfl ?_
    refine JS_callVV (M' := MX5_placeBy) (d' := e + 3) (As := [.int a1, .int a3, .int a2]) (rest := []) dX5_place_109 cvX5_91 okX5_placeBy rfl (Nat.le_of_ble_eq_true rfl) BS_225 (Nat.le_of_ble_eq_true rfl) (Nat.le_of_ble_eq_true rfl) hci_5 (Nat.le_of_ble_eq_true rfl) (by show e + 3 + 1 ≤ e + 4; omega) h (fun s1 h => ?_)
    refine JT_iinc (q := 3) (v := (a3 + 1)) (lv' := [(3, .int (a3 + 1)), (0, .ref 225), (1, .int a1), (2, .int a2)]) dX5_place_112 rfl (by rfl) (Nat.le_of_ble_eq_true rfl) rfl ?_
    refine JT_goto (tgt := 100) dX5_place_115 (by decide) ?_
    exact JT_sub [1, 2, 3, 0] rfl h
set_option maxRecDepth 20000 in
theorem bX5_place_118 {e : Nat} (a1 : Int32) (a2 : Int32) {s : SM} {Q : SM → Prop} (h : vp_in a1 6 ∧ KV MX5_place (e + 3) [.ref 225, .int (a1 + (1 : Int32)), .int a2] (pI s 229 (a1).toNatClampNeg (4 : Int32)) (fun s2 => Q s2)) : BV MX5_place (e + 4) 118 [(0, .ref 225), (1, .int a1), (2, .int a2)] s Q := by
  refine JT_aload_n (q := 0) dX5_place_118 rfl rfl ?_
  refine JS_getR (x := 229) dX5_place_119 flX5_21 BS_225 (Nat.le_of_ble_eq_true rfl) (Nat.le_of_ble_eq_true rfl) (Or.inr ⟨_, ct_5_5⟩) RF_225_5 ?_
  refine JT_iload_n (q := 1) dX5_place_122 rfl rfl ?_
  refine JT_iconst (v := 4) dX5_place_123 ic_4 ?_
  obtain ⟨o1, h⟩ := h
  refine JS_iast dX5_place_124 BS_229 (Nat.le_of_ble_eq_true rfl) (Nat.le_of_ble_eq_true rfl) o1 ?_
  refine JT_aload_n (q := 0) dX5_place_125 rfl rfl ?_
  refine JT_iload_n (q := 1) dX5_place_126 rfl rfl ?_
  refine JT_iconst (v := 1) dX5_place_127 ic_1 ?_
  refine JT_iadd dX5_place_128 ?_
  refine JT_iload_n (q := 2) dX5_place_129 rfl rfl ?_
  refine JS_callVV (M' := MX5_place) (d' := e + 3) (As := [.int (a1 + (1 : Int32)), .int a2]) (rest := []) dX5_place_130 cvX5_83 okX5_place rfl (Nat.le_of_ble_eq_true rfl) BS_225 (Nat.le_of_ble_eq_true rfl) (Nat.le_of_ble_eq_true rfl) hci_5 (Nat.le_of_ble_eq_true rfl) (by show e + 3 + 1 ≤ e + 4; omega) h (fun s2 h => ?_)
  exact JS_vret dX5_place_133 rfl h
set_option maxRecDepth 20000 in
theorem bX5_place {e : Nat} (a1 : Int32) (a2 : Int32) {s : SM} {Q : SM → Prop} (h : (((gI s 225 9) < ((a2 + (gI s 225 0)) - a1) → (((gI s 225 0) ≤ a1 → BV MX5_place (e + 4) 30 [(0, .ref 225), (1, .int a1), (2, .int a2)] s Q) ∧ (¬ (gI s 225 0) ≤ a1 → ((a1 < (6 : Int32) → vp_in a1 6 ∧ vp_in a1 6 ∧ (((gI s 226 (a1).toNatClampNeg) = (gI s 227 (a1).toNatClampNeg) → BV MX5_place (e + 4) 118 [(0, .ref 225), (1, .int a1), (2, .int a2)] s Q) ∧ (¬ (gI s 226 (a1).toNatClampNeg) = (gI s 227 (a1).toNatClampNeg) → ∃ Lx3 Px3, gD s 1 = some Lx3 ∧ (Lx3, Px3) ∈ LX ∧ vp_in a1 6 ∧ KI MX4_lives 0 [.ref Lx3, .int (gI s 226 (a1).toNatClampNeg)] s (fun x6 s5 => ((x6 = 0 → BV MX5_place (e + 4) 118 [(0, .ref 225), (1, .int a1), (2, .int a2)] s5 Q) ∧ (¬ x6 = 0 → ∃ Lx7 Px7, gD s5 1 = some Lx7 ∧ (Lx7, Px7) ∈ LX ∧ vp_in a1 6 ∧ KI MX4_lives 0 [.ref Lx7, .int (gI s5 227 (a1).toNatClampNeg)] s5 (fun x10 s9 => ((x10 = 0 → BV MX5_place (e + 4) 118 [(0, .ref 225), (1, .int a1), (2, .int a2)] s9 Q) ∧ (¬ x10 = 0 → BV MX5_place (e + 4) 100 [(0, .ref 225), (1, .int a1), (2, .int a2), (3, .int (0 : Int32))] s9 Q))))))))) ∧ (¬ a1 < (6 : Int32) → BV MX5_place (e + 4) 30 [(0, .ref 225), (1, .int a1), (2, .int a2)] s Q))))) ∧ (¬ (gI s 225 9) < ((a2 + (gI s 225 0)) - a1) → Q s))) : KV MX5_place (e + 4) [.ref 225, .int a1, .int a2] s Q := by
  show BV MX5_place (e + 4) 0 [(0, .ref 225), (1, .int a1), (2, .int a2)] s Q
  refine JT_iload_n (q := 2) dX5_place_0 rfl rfl ?_
  refine JT_aload_n (q := 0) dX5_place_1 rfl rfl ?_
  refine JS_getI dX5_place_2 flX5_58 BS_225 (Nat.le_of_ble_eq_true rfl) (Nat.le_of_ble_eq_true rfl) (Or.inl ct_5_0) ?_
  refine JT_iadd dX5_place_5 ?_
  refine JT_iload_n (q := 1) dX5_place_6 rfl rfl ?_
  refine JT_isub dX5_place_7 ?_
  refine JT_aload_n (q := 0) dX5_place_8 rfl rfl ?_
  refine JS_getI dX5_place_9 flX5_75 BS_225 (Nat.le_of_ble_eq_true rfl) (Nat.le_of_ble_eq_true rfl) (Or.inl ct_5_9) ?_
  refine JT_icmp_gt (tgt := 16) dX5_place_12 (by decide) (fun hc16 => ?_) (fun hc16 => ?_)
  · have h := h.1 hc16
    refine JT_iload_n (q := 1) dX5_place_16 rfl rfl ?_
    refine JT_aload_n (q := 0) dX5_place_17 rfl rfl ?_
    refine JS_getI dX5_place_18 flX5_58 BS_225 (Nat.le_of_ble_eq_true rfl) (Nat.le_of_ble_eq_true rfl) (Or.inl ct_5_0) ?_
    refine JT_icmp_ge (tgt := 30) dX5_place_21 (by decide) (fun hc15 => ?_) (fun hc15 => ?_)
    · have h := h.1 hc15
      exact JT_sub [0, 1, 2] rfl h
    · have h := h.2 hc15
      refine JT_iload_n (q := 1) dX5_place_24 rfl rfl ?_
      refine JT_bipush (v := 6) dX5_place_25 bp_6 ?_
      refine JT_icmp_lt (tgt := 51) dX5_place_27 (by decide) (fun hc14 => ?_) (fun hc14 => ?_)
      · have h := h.1 hc14
        refine JT_aload_n (q := 0) dX5_place_51 rfl rfl ?_
        refine JS_getR (x := 226) dX5_place_52 flX5_9 BS_225 (Nat.le_of_ble_eq_true rfl) (Nat.le_of_ble_eq_true rfl) (Or.inr ⟨_, ct_5_2⟩) RF_225_2 ?_
        refine JT_iload_n (q := 1) dX5_place_55 rfl rfl ?_
        obtain ⟨o1, h⟩ := h
        refine JS_iald dX5_place_56 BS_226 (Nat.le_of_ble_eq_true rfl) (Nat.le_of_ble_eq_true rfl) o1 ?_
        refine JT_aload_n (q := 0) dX5_place_57 rfl rfl ?_
        refine JS_getR (x := 227) dX5_place_58 flX5_15 BS_225 (Nat.le_of_ble_eq_true rfl) (Nat.le_of_ble_eq_true rfl) (Or.inr ⟨_, ct_5_3⟩) RF_225_3 ?_
        refine JT_iload_n (q := 1) dX5_place_61 rfl rfl ?_
        obtain ⟨o2, h⟩ := h
        refine JS_iald dX5_place_62 BS_227 (Nat.le_of_ble_eq_true rfl) (Nat.le_of_ble_eq_true rfl) o2 ?_
        refine JT_icmp_eq (tgt := 118) dX5_place_63 (by decide) (fun hc13 => ?_) (fun hc13 => ?_)
        · have h := h.1 hc13
          exact JT_sub [0, 1, 2] rfl h
        · have h := h.2 hc13
          refine JT_aload_n (q := 0) dX5_place_66 rfl rfl ?_
          obtain ⟨Lx3, Px3, hrx3, hLx3, h⟩ := h
          refine JS_getR dX5_place_67 flX5_71 BS_225 (Nat.le_of_ble_eq_true rfl) (Nat.le_of_ble_eq_true rfl) (Or.inl ⟨_, ct_5_10⟩) (RF_225_10.trans hrx3) ?_
          refine JT_aload_n (q := 0) dX5_place_70 rfl rfl ?_
          refine JS_getR (x := 226) dX5_place_71 flX5_9 BS_225 (Nat.le_of_ble_eq_true rfl) (Nat.le_of_ble_eq_true rfl) (Or.inr ⟨_, ct_5_2⟩) RF_225_2 ?_
          refine JT_iload_n (q := 1) dX5_place_74 rfl rfl ?_
          obtain ⟨o4, h⟩ := h
          refine JS_iald dX5_place_75 BS_226 (Nat.le_of_ble_eq_true rfl) (Nat.le_of_ble_eq_true rfl) o4 ?_
          refine JS_callVI (M' := MX4_lives) (d' := 0) (As := [.int (gI s 226 (a1).toNatClampNeg)]) (rest := []) dX5_place_76 cvX5_87 okX4_lives rfl (Nat.le_of_ble_eq_true rfl) (lxB hLx3) (lx2 hLx3) (lxN hLx3) hci_4 (Nat.le_of_ble_eq_true rfl) (by show 0 + 1 ≤ e + 4; omega) h (fun x6 s5 h => ?_)
          refine JT_if_eq (tgt := 118) dX5_place_79 (by decide) (fun hc12 => ?_) (fun hc12 => ?_)
          · have h := h.1 hc12
            exact JT_sub [0, 1, 2] rfl h
          · have h := h.2 hc12
            refine JT_aload_n (q := 0) dX5_place_82 rfl rfl ?_
            obtain ⟨Lx7, Px7, hrx7, hLx7, h⟩ := h
            refine JS_getR dX5_place_83 flX5_71 BS_225 (Nat.le_of_ble_eq_true rfl) (Nat.le_of_ble_eq_true rfl) (Or.inl ⟨_, ct_5_10⟩) (RF_225_10.trans hrx7) ?_
            refine JT_aload_n (q := 0) dX5_place_86 rfl rfl ?_
            refine JS_getR (x := 227) dX5_place_87 flX5_15 BS_225 (Nat.le_of_ble_eq_true rfl) (Nat.le_of_ble_eq_true rfl) (Or.inr ⟨_, ct_5_3⟩) RF_225_3 ?_
            refine JT_iload_n (q := 1) dX5_place_90 rfl rfl ?_
            obtain ⟨o8, h⟩ := h
            refine JS_iald dX5_place_91 BS_227 (Nat.le_of_ble_eq_true rfl) (Nat.le_of_ble_eq_true rfl) o8 ?_
            refine JS_callVI (M' := MX4_lives) (d' := 0) (As := [.int (gI s5 227 (a1).toNatClampNeg)]) (rest := []) dX5_place_92 cvX5_87 okX4_lives rfl (Nat.le_of_ble_eq_true rfl) (lxB hLx7) (lx2 hLx7) (lxN hLx7) hci_4 (Nat.le_of_ble_eq_true rfl) (by show 0 + 1 ≤ e + 4; omega) h (fun x10 s9 h => ?_)
            refine JT_if_eq (tgt := 118) dX5_place_95 (by decide) (fun hc11 => ?_) (fun hc11 => ?_)
            · have h := h.1 hc11
              exact JT_sub [0, 1, 2] rfl h
            · have h := h.2 hc11
              refine JT_iconst (v := 0) dX5_place_98 ic_0 ?_
              refine JT_istore_n (lv' := [(3, .int (0 : Int32)), (0, .ref 225), (1, .int a1), (2, .int a2)]) dX5_place_99 rfl (Nat.le_of_ble_eq_true rfl) rfl ?_
              exact JT_sub [1, 2, 3, 0] rfl h
      · have h := h.2 hc14
        exact JT_sub [0, 1, 2] rfl h
  · have h := h.2 hc16
    exact JS_vret dX5_place_15 rfl h
set_option maxRecDepth 20000 in
theorem bX5_search_48 {L1 P1 : Nat} (hL1 : (L1, P1) ∈ LX) (a2 : Int32) (a3 : Int32) {s : SM} {Q : Int32 → SM → Prop} (h : KV MX5_place 20 [.ref 225, .int (0 : Int32), .int (0 : Int32)] s (fun s1 => Q (gI s1 225 9) s1)) : BI MX5_search 21 48 [(0, .ref 225), (1, .ref L1), (2, .int a2), (3, .int a3)] s Q := by
  refine JT_aload_n (q := 0) dX5_search_48 rfl rfl ?_
  refine JT_iconst (v := 0) dX5_search_49 ic_0 ?_
  refine JT_iconst (v := 0) dX5_search_50 ic_0 ?_
  refine JS_callVV (M' := MX5_place) (d' := 20) (As := [.int (0 : Int32), .int (0 : Int32)]) (rest := []) dX5_search_51 cvX5_83 okX5_place rfl (Nat.le_of_ble_eq_true rfl) BS_225 (Nat.le_of_ble_eq_true rfl) (Nat.le_of_ble_eq_true rfl) hci_5 (Nat.le_of_ble_eq_true rfl) (Nat.le_of_ble_eq_true rfl) h (fun s1 h => ?_)
  refine JT_aload_n (q := 0) dX5_search_54 rfl rfl ?_
  refine JS_getI dX5_search_55 flX5_75 BS_225 (Nat.le_of_ble_eq_true rfl) (Nat.le_of_ble_eq_true rfl) (Or.inl ct_5_9) ?_
  exact JS_iret dX5_search_58 rfl rfl h
set_option maxRecDepth 20000 in
theorem bX5_search {L1 P1 : Nat} (hL1 : (L1, P1) ∈ LX) (a2 : Int32) (a3 : Int32) {s : SM} {Q : Int32 → SM → Prop} (h : ∃ Lx1 Px1, gD (pI (pD s 1 L1) 225 9 (-1 : Int32)) 1 = some Lx1 ∧ (Lx1, Px1) ∈ LX ∧ (∀ s2, s2 = (cI (pI (pD s 1 L1) 225 9 (-1 : Int32)) 232 (va_cpy (gI (pI (pD s 1 L1) 225 9 (-1 : Int32)) (Lx1 + 7)) (gI (pI (pD s 1 L1) 225 9 (-1 : Int32)) 232) ((0 : Int32)).toNatClampNeg ((0 : Int32)).toNatClampNeg ((9 : Int32)).toNatClampNeg)) → ((a2 < 0 → BI MX5_search 21 48 [(0, .ref 225), (1, .ref L1), (2, .int a2), (3, .int a3)] s2 Q) ∧ (¬ a2 < 0 → (((9 : Int32) ≤ a2 → BI MX5_search 21 48 [(0, .ref 225), (1, .ref L1), (2, .int a2), (3, .int a3)] s2 Q) ∧ (¬ (9 : Int32) ≤ a2 → vp_in a2 9 ∧ vp_in a2 9 ∧ BI MX5_search 21 48 [(0, .ref 225), (1, .ref L1), (2, .int a2), (3, .int a3)] (pI s2 232 (a2).toNatClampNeg ((gI s2 232 (a2).toNatClampNeg) + a3)) Q)))))) : KI MX5_search 21 [.ref 225, .ref L1, .int a2, .int a3] s Q := by
  show BI MX5_search 21 0 [(0, .ref 225), (1, .ref L1), (2, .int a2), (3, .int a3)] s Q
  refine JT_aload_n (q := 0) dX5_search_0 rfl rfl ?_
  refine JT_aload_n (q := 1) dX5_search_1 rfl rfl ?_
  refine JS_putD (kk := 1) dX5_search_2 flX5_71 BS_225 (Nat.le_of_ble_eq_true rfl) (Nat.le_of_ble_eq_true rfl) (Or.inl ⟨_, ct_5_10⟩) rfl ?_
  refine JT_aload_n (q := 0) dX5_search_5 rfl rfl ?_
  refine JT_iconst (v := -1) dX5_search_6 ic_m1 ?_
  refine JS_putI dX5_search_7 flX5_75 BS_225 (Nat.le_of_ble_eq_true rfl) (Nat.le_of_ble_eq_true rfl) ct_5_9 ?_
  refine JT_aload_n (q := 0) dX5_search_10 rfl rfl ?_
  obtain ⟨Lx1, Px1, hrx1, hLx1, h⟩ := h
  refine JS_getR dX5_search_11 flX5_71 BS_225 (Nat.le_of_ble_eq_true rfl) (Nat.le_of_ble_eq_true rfl) (Or.inl ⟨_, ct_5_10⟩) (RF_225_10.trans hrx1) ?_
  refine JS_getR (x := (Lx1 + 7)) dX5_search_14 flX5_78 (lxB hLx1) (lx2 hLx1) (lxN hLx1) (Or.inr ⟨_, ct_4_6⟩) (lxR6 hLx1) ?_
  refine JT_iconst (v := 0) dX5_search_17 ic_0 ?_
  refine JT_aload_n (q := 0) dX5_search_18 rfl rfl ?_
  refine JS_getR (x := 232) dX5_search_19 flX5_30 BS_225 (Nat.le_of_ble_eq_true rfl) (Nat.le_of_ble_eq_true rfl) (Or.inr ⟨_, ct_5_8⟩) RF_225_8 ?_
  refine JT_iconst (v := 0) dX5_search_22 ic_0 ?_
  refine JT_bipush (v := 9) dX5_search_23 bp_9 ?_
  refine JS_copyI (d2 := 20) (na := 9) (nb := 9) dX5_search_25 mlX5_65 BS_232 (Nat.le_of_ble_eq_true rfl) (Nat.le_of_ble_eq_true rfl) (lxB7 hLx1) (lx2k hLx1 _) (lxNk hLx1 (Nat.le_of_ble_eq_true rfl)) (by decide) (by decide) (by decide) (by decide) (by decide) (Nat.le_of_ble_eq_true rfl) rfl ?_
  obtain ⟨s2, hs2⟩ : ∃ z, z = (cI (pI (pD s 1 L1) 225 9 (-1 : Int32)) 232 (va_cpy (gI (pI (pD s 1 L1) 225 9 (-1 : Int32)) (Lx1 + 7)) (gI (pI (pD s 1 L1) 225 9 (-1 : Int32)) 232) ((0 : Int32)).toNatClampNeg ((0 : Int32)).toNatClampNeg ((9 : Int32)).toNatClampNeg)) := ⟨_, rfl⟩
  replace h := h s2 hs2
  rw [← hs2]
  refine JT_iload_n (q := 2) dX5_search_28 rfl rfl ?_
  refine JT_if_lt (tgt := 48) dX5_search_29 (by decide) (fun hc6 => ?_) (fun hc6 => ?_)
  · have h := h.1 hc6
    exact JT_sub [0, 1, 2, 3] rfl h
  · have h := h.2 hc6
    refine JT_iload_n (q := 2) dX5_search_32 rfl rfl ?_
    refine JT_bipush (v := 9) dX5_search_33 bp_9 ?_
    refine JT_icmp_ge (tgt := 48) dX5_search_35 (by decide) (fun hc5 => ?_) (fun hc5 => ?_)
    · have h := h.1 hc5
      exact JT_sub [0, 1, 2, 3] rfl h
    · have h := h.2 hc5
      refine JT_aload_n (q := 0) dX5_search_38 rfl rfl ?_
      refine JS_getR (x := 232) dX5_search_39 flX5_30 BS_225 (Nat.le_of_ble_eq_true rfl) (Nat.le_of_ble_eq_true rfl) (Or.inr ⟨_, ct_5_8⟩) RF_225_8 ?_
      refine JT_iload_n (q := 2) dX5_search_42 rfl rfl ?_
      refine JT_dup2 dX5_search_43 rfl rfl ?_
      obtain ⟨o3, h⟩ := h
      refine JS_iald dX5_search_44 BS_232 (Nat.le_of_ble_eq_true rfl) (Nat.le_of_ble_eq_true rfl) o3 ?_
      refine JT_iload_n (q := 3) dX5_search_45 rfl rfl ?_
      refine JT_iadd dX5_search_46 ?_
      obtain ⟨o4, h⟩ := h
      refine JS_iast dX5_search_47 BS_232 (Nat.le_of_ble_eq_true rfl) (Nat.le_of_ble_eq_true rfl) o4 ?_
      exact JT_sub [0, 1, 2, 3] rfl h
set_option maxRecDepth 20000 in
theorem bX11_pack  {s : SM} {Q : Int32 → SM → Prop} (h : KI MX5_take 3 [.ref 225, .ref 3, .ref 5] s (fun x2 s1 => ((¬ x2 = 0 → KI MX5_search 21 [.ref 225, .ref 31, .int (-1 : Int32), .int (0 : Int32)] (pI s1 3 1 (0 : Int32)) (fun x4 s3 => Q x4 (mX5_keepTold s3 ))) ∧ (x2 = 0 → Q (-1 : Int32) (pI s1 3 1 (0 : Int32)))))) : KI MX11_pack 22 [.ref 2] s Q := by
  show BI MX11_pack 22 0 [(0, .ref 2)] s Q
  refine JT_aload_n (q := 0) dX11_pack_0 rfl rfl ?_
  refine JS_getR (x := 225) dX11_pack_1 flX11_72 BS_2 (Nat.le_of_ble_eq_true rfl) (Nat.le_of_ble_eq_true rfl) (Or.inl ⟨_, ct_11_10⟩) RF_2_10 ?_
  refine JT_aload_n (q := 0) dX11_pack_4 rfl rfl ?_
  refine JS_getR (x := 3) dX11_pack_5 flX11_10 BS_2 (Nat.le_of_ble_eq_true rfl) (Nat.le_of_ble_eq_true rfl) (Or.inl ⟨_, ct_11_0⟩) RF_2_0 ?_
  refine JT_aload_n (q := 0) dX11_pack_8 rfl rfl ?_
  refine JS_getR (x := 5) dX11_pack_9 flX11_19 BS_2 (Nat.le_of_ble_eq_true rfl) (Nat.le_of_ble_eq_true rfl) (Or.inl ⟨_, ct_11_1⟩) RF_2_1 ?_
  refine JS_callVI (M' := MX5_take) (d' := 3) (As := [.ref 3, .ref 5]) (rest := []) dX11_pack_12 cvX11_381 okX5_take rfl (Nat.le_of_ble_eq_true rfl) BS_225 (Nat.le_of_ble_eq_true rfl) (Nat.le_of_ble_eq_true rfl) hci_5 (Nat.le_of_ble_eq_true rfl) (Nat.le_of_ble_eq_true rfl) h (fun x2 s1 h => ?_)
  refine JT_istore_n (lv' := [(1, .int x2), (0, .ref 2)]) dX11_pack_15 rfl (Nat.le_of_ble_eq_true rfl) rfl ?_
  refine JT_aload_n (q := 1) dX11_pack_16 rfl rfl ?_
  refine JS_getR (x := 3) dX11_pack_17 flX11_10 BS_2 (Nat.le_of_ble_eq_true rfl) (Nat.le_of_ble_eq_true rfl) (Or.inl ⟨_, ct_11_0⟩) RF_2_0 ?_
  refine JT_iconst (v := 0) dX11_pack_20 ic_0 ?_
  refine JS_putI dX11_pack_21 flX11_104 BS_3 (Nat.le_of_ble_eq_true rfl) (Nat.le_of_ble_eq_true rfl) ct_9_1 ?_
  refine JT_iload_n (q := 0) dX11_pack_24 rfl rfl ?_
  refine JT_if_ne (tgt := 30) dX11_pack_25 (by decide) (fun hc6 => ?_) (fun hc6 => ?_)
  · have h := h.1 hc6
    refine JT_aload_n (q := 1) dX11_pack_30 rfl rfl ?_
    refine JS_getR (x := 225) dX11_pack_31 flX11_72 BS_2 (Nat.le_of_ble_eq_true rfl) (Nat.le_of_ble_eq_true rfl) (Or.inl ⟨_, ct_11_10⟩) RF_2_10 ?_
    refine JT_aload_n (q := 1) dX11_pack_34 rfl rfl ?_
    refine JS_getR (x := 31) dX11_pack_35 flX11_41 BS_2 (Nat.le_of_ble_eq_true rfl) (Nat.le_of_ble_eq_true rfl) (Or.inl ⟨_, ct_11_5⟩) RF_2_5 ?_
    refine JT_iconst (v := -1) dX11_pack_38 ic_m1 ?_
    refine JT_iconst (v := 0) dX11_pack_39 ic_0 ?_
    refine JS_callVI (M' := MX5_search) (d' := 21) (As := [.ref 31, .int (-1 : Int32), .int (0 : Int32)]) (rest := []) dX11_pack_40 cvX11_384 okX5_search rfl (Nat.le_of_ble_eq_true rfl) BS_225 (Nat.le_of_ble_eq_true rfl) (Nat.le_of_ble_eq_true rfl) hci_5 (Nat.le_of_ble_eq_true rfl) (Nat.le_of_ble_eq_true rfl) h (fun x4 s3 h => ?_)
    refine JT_istore_n (lv' := [(2, .int x4), (1, .int x2), (0, .ref 2)]) dX11_pack_43 rfl (Nat.le_of_ble_eq_true rfl) rfl ?_
    refine JT_aload_n (q := 2) dX11_pack_44 rfl rfl ?_
    refine JS_getR (x := 225) dX11_pack_45 flX11_72 BS_2 (Nat.le_of_ble_eq_true rfl) (Nat.le_of_ble_eq_true rfl) (Or.inl ⟨_, ct_11_10⟩) RF_2_10 ?_
    refine JS_callVV (M' := MX5_keepTold) (d' := 1) (As := []) (rest := []) (P := (fun wm9 => (mX5_keepTold s3 ) = wm9)) dX11_pack_48 cvX11_388 okX5_keepTold rfl (Nat.le_of_ble_eq_true rfl) BS_225 (Nat.le_of_ble_eq_true rfl) (Nat.le_of_ble_eq_true rfl) hci_5 (Nat.le_of_ble_eq_true rfl) (Nat.le_of_ble_eq_true rfl) (pX5_keepTold    rfl) (fun wm9 hq9 => ?_)
    subst hq9
    refine JT_iload_n (q := 0) dX11_pack_51 rfl rfl ?_
    exact JS_iret dX11_pack_52 rfl rfl h
  · have h := h.2 hc6
    refine JT_iconst (v := -1) dX11_pack_28 ic_m1 ?_
    exact JS_iret dX11_pack_29 rfl rfl h
set_option maxRecDepth 20000 in
theorem bX11_price (a1 : Int32) (a2 : Int32) {s : SM} {Q : Int32 → SM → Prop} (h : (((vX6_hasBody s 5 a1) = 0 → Q (-1 : Int32) s) ∧ (¬ (vX6_hasBody s 5 a1) = 0 → ((a2 < (1 : Int32) → Q (-1 : Int32) s) ∧ (¬ a2 < (1 : Int32) → (((99 : Int32) < a2 → Q (-1 : Int32) s) ∧ (¬ (99 : Int32) < a2 → ((¬ (vX5_isPackedIn s 5) = 0 → KI MX5_search 21 [.ref 225, .ref 31, .int a1, .int a2] s (fun x2 s1 => KI MX5_search 21 [.ref 225, .ref 31, .int (-1 : Int32), .int (0 : Int32)] s1 (fun x4 s3 => Q (x2 - x4) s3))) ∧ ((vX5_isPackedIn s 5) = 0 → Q (-1 : Int32) s))))))))) : KI MX11_price 22 [.ref 2, .int a1, .int a2] s Q := by
  show BI MX11_price 22 0 [(0, .ref 2), (1, .int a1), (2, .int a2)] s Q
  refine JT_aload_n (q := 0) dX11_price_0 rfl rfl ?_
  refine JS_getR (x := 5) dX11_price_1 flX11_19 BS_2 (Nat.le_of_ble_eq_true rfl) (Nat.le_of_ble_eq_true rfl) (Or.inl ⟨_, ct_11_1⟩) RF_2_1 ?_
  refine JT_iload_n (q := 1) dX11_price_4 rfl rfl ?_
  refine JS_callVI (M' := MX6_hasBody) (d' := 0) (As := [.int a1]) (rest := []) (P := (fun zv9 wm9 => (vX6_hasBody s 5 a1) = zv9 ∧ s = wm9)) dX11_price_5 cvX11_172 okX6_hasBody rfl (Nat.le_of_ble_eq_true rfl) BS_5 (Nat.le_of_ble_eq_true rfl) (Nat.le_of_ble_eq_true rfl) hci_6 (Nat.le_of_ble_eq_true rfl) (Nat.le_of_ble_eq_true rfl) (pX6_hasBody hp_5 (a1)  ⟨rfl, rfl⟩) (fun zv9 wm9 hq9 => ?_)
  obtain ⟨rfl, rfl⟩ := hq9
  refine JT_if_eq (tgt := 36) dX11_price_8 (by decide) (fun hc9 => ?_) (fun hc9 => ?_)
  · have h := h.1 hc9
    refine JT_iconst (v := -1) dX11_price_36 ic_m1 ?_
    exact JS_iret dX11_price_37 rfl rfl h
  · have h := h.2 hc9
    refine JT_iload_n (q := 2) dX11_price_11 rfl rfl ?_
    refine JT_iconst (v := 1) dX11_price_12 ic_1 ?_
    refine JT_icmp_lt (tgt := 36) dX11_price_13 (by decide) (fun hc8 => ?_) (fun hc8 => ?_)
    · have h := h.1 hc8
      refine JT_iconst (v := -1) dX11_price_36 ic_m1 ?_
      exact JS_iret dX11_price_37 rfl rfl h
    · have h := h.2 hc8
      refine JT_iload_n (q := 2) dX11_price_16 rfl rfl ?_
      refine JT_bipush (v := 99) dX11_price_17 bp_99 ?_
      refine JT_icmp_gt (tgt := 36) dX11_price_19 (by decide) (fun hc7 => ?_) (fun hc7 => ?_)
      · have h := h.1 hc7
        refine JT_iconst (v := -1) dX11_price_36 ic_m1 ?_
        exact JS_iret dX11_price_37 rfl rfl h
      · have h := h.2 hc7
        refine JT_aload_n (q := 0) dX11_price_22 rfl rfl ?_
        refine JS_getR (x := 225) dX11_price_23 flX11_72 BS_2 (Nat.le_of_ble_eq_true rfl) (Nat.le_of_ble_eq_true rfl) (Or.inl ⟨_, ct_11_10⟩) RF_2_10 ?_
        refine JT_aload_n (q := 0) dX11_price_26 rfl rfl ?_
        refine JS_getR (x := 5) dX11_price_27 flX11_19 BS_2 (Nat.le_of_ble_eq_true rfl) (Nat.le_of_ble_eq_true rfl) (Or.inl ⟨_, ct_11_1⟩) RF_2_1 ?_
        refine JS_callVI (M' := MX5_isPackedIn) (d' := 0) (As := [.ref 5]) (rest := []) (P := (fun zv9 wm9 => (vX5_isPackedIn s 5) = zv9 ∧ s = wm9)) dX11_price_30 cvX11_394 okX5_isPackedIn rfl (Nat.le_of_ble_eq_true rfl) BS_225 (Nat.le_of_ble_eq_true rfl) (Nat.le_of_ble_eq_true rfl) hci_5 (Nat.le_of_ble_eq_true rfl) (Nat.le_of_ble_eq_true rfl) (pX5_isPackedIn hp_5   ⟨rfl, rfl⟩) (fun zv9 wm9 hq9 => ?_)
        obtain ⟨rfl, rfl⟩ := hq9
        refine JT_if_ne (tgt := 38) dX11_price_33 (by decide) (fun hc5 => ?_) (fun hc5 => ?_)
        · have h := h.1 hc5
          refine JT_aload_n (q := 0) dX11_price_38 rfl rfl ?_
          refine JS_getR (x := 225) dX11_price_39 flX11_72 BS_2 (Nat.le_of_ble_eq_true rfl) (Nat.le_of_ble_eq_true rfl) (Or.inl ⟨_, ct_11_10⟩) RF_2_10 ?_
          refine JT_aload_n (q := 0) dX11_price_42 rfl rfl ?_
          refine JS_getR (x := 31) dX11_price_43 flX11_41 BS_2 (Nat.le_of_ble_eq_true rfl) (Nat.le_of_ble_eq_true rfl) (Or.inl ⟨_, ct_11_5⟩) RF_2_5 ?_
          refine JT_iload_n (q := 1) dX11_price_46 rfl rfl ?_
          refine JT_iload_n (q := 2) dX11_price_47 rfl rfl ?_
          refine JS_callVI (M' := MX5_search) (d' := 21) (As := [.ref 31, .int a1, .int a2]) (rest := []) dX11_price_48 cvX11_384 okX5_search rfl (Nat.le_of_ble_eq_true rfl) BS_225 (Nat.le_of_ble_eq_true rfl) (Nat.le_of_ble_eq_true rfl) hci_5 (Nat.le_of_ble_eq_true rfl) (Nat.le_of_ble_eq_true rfl) h (fun x2 s1 h => ?_)
          refine JT_aload_n (q := 0) dX11_price_51 rfl rfl ?_
          refine JS_getR (x := 225) dX11_price_52 flX11_72 BS_2 (Nat.le_of_ble_eq_true rfl) (Nat.le_of_ble_eq_true rfl) (Or.inl ⟨_, ct_11_10⟩) RF_2_10 ?_
          refine JT_aload_n (q := 0) dX11_price_55 rfl rfl ?_
          refine JS_getR (x := 31) dX11_price_56 flX11_41 BS_2 (Nat.le_of_ble_eq_true rfl) (Nat.le_of_ble_eq_true rfl) (Or.inl ⟨_, ct_11_5⟩) RF_2_5 ?_
          refine JT_iconst (v := -1) dX11_price_59 ic_m1 ?_
          refine JT_iconst (v := 0) dX11_price_60 ic_0 ?_
          refine JS_callVI (M' := MX5_search) (d' := 21) (As := [.ref 31, .int (-1 : Int32), .int (0 : Int32)]) (rest := [.int x2]) dX11_price_61 cvX11_384 okX5_search rfl (Nat.le_of_ble_eq_true rfl) BS_225 (Nat.le_of_ble_eq_true rfl) (Nat.le_of_ble_eq_true rfl) hci_5 (Nat.le_of_ble_eq_true rfl) (Nat.le_of_ble_eq_true rfl) h (fun x4 s3 h => ?_)
          refine JT_isub dX11_price_64 ?_
          exact JS_iret dX11_price_65 rfl rfl h
        · have h := h.2 hc5
          refine JT_iconst (v := -1) dX11_price_36 ic_m1 ?_
          exact JS_iret dX11_price_37 rfl rfl h
