set_option maxRecDepth 1000000 in
theorem bX11_deal (a1 : Int32) (a2 : Int32) {s : SM} {Q : Option Int32 → SM → Prop} (h : ((¬ (vX4_hasDeal s 31 5 a1) = 0 → ((a2 = 0 → vp_in a1 60 ∧ Q (some (gI s 32 (a1).toNatClampNeg)) s) ∧ (a2 = 1 → vp_in a1 60 ∧ Q (some (gI s 33 (a1).toNatClampNeg)) s) ∧ (a2 = 2 → vp_in a1 60 ∧ Q (some (gI s 34 (a1).toNatClampNeg)) s) ∧ (a2 = 3 → vp_in a1 60 ∧ Q (some (gI s 35 (a1).toNatClampNeg)) s) ∧ (a2 = 4 → vp_in a1 60 ∧ Q (some (gI s 36 (a1).toNatClampNeg)) s) ∧ (a2 = 5 → vp_in a1 60 ∧ Q (some (gI s 37 (a1).toNatClampNeg)) s) ∧ (a2 = 6 → rX4_bearer s 31 5 a1 (0 : Int32) ∧ Q (some (vX4_bearer s 31 5 a1 (0 : Int32))) s) ∧ (a2 = 7 → rX4_bearer s 31 5 a1 (1 : Int32) ∧ Q (some (vX4_bearer s 31 5 a1 (1 : Int32))) s) ∧ (a2 = 8 → rX4_isKnown s 31 5 a1 ∧ Q (some (if (vX4_isKnown s 31 5 a1) = 0 then (0 : Int32) else (1 : Int32))) s) ∧ (a2 = 9 → rX4_valueOf s 31 5 a1 ∧ Q (some (vX4_valueOf s 31 5 a1)) s) ∧ ((a2.toInt < 0 ∨ 9 < a2.toInt) → Q none s))) ∧ ((vX4_hasDeal s 31 5 a1) = 0 → Q none s))) : KX MX11_deal 4 [.ref 2, .int a1, .int a2] s Q := by
  show BXX MX11_deal 4 0 [(0, .ref 2), (1, .int a1), (2, .int a2)] s Q
  refine JT_aload_n (q := 0) dX11_deal_0 rfl rfl ?_
  refine JS_getR (x := 31) dX11_deal_1 flX11_41 BS_2 (Nat.le_of_ble_eq_true rfl) (Nat.le_of_ble_eq_true rfl) (Or.inl ⟨_, ct_11_5⟩) RF_2_5 ?_
  refine JT_iload_n (q := 1) dX11_deal_4 rfl rfl ?_
  refine JS_callVI (M' := MX4_hasDeal) (d' := 0) (As := [.int a1]) (rest := []) (P := (fun zv9 wm9 => (vX4_hasDeal s 31 5 a1) = zv9 ∧ s = wm9)) dX11_deal_5 cvX11_211 okX4_hasDeal rfl (Nat.le_of_ble_eq_true rfl) BS_31 (Nat.le_of_ble_eq_true rfl) (Nat.le_of_ble_eq_true rfl) hci_4 (Nat.le_of_ble_eq_true rfl) (Nat.le_of_ble_eq_true rfl) (pX4_hasDeal hL_31 (a1)  ⟨rfl, rfl⟩) (fun zv9 wm9 hq9 => ?_)
  obtain ⟨rfl, rfl⟩ := hq9
  refine JT_if_ne (tgt := 19) dX11_deal_8 (by decide) (fun hc15 => ?_) (fun hc15 => ?_)
  · have h := h.1 hc15
    refine JT_iload_n (q := 2) dX11_deal_19 rfl rfl ?_
    by_cases ho1 : (a2).toInt < 0 ∨ 9 < (a2).toInt
    · have h := h.2.2.2.2.2.2.2.2.2.2 ho1
      refine JT_tableOut (tgt := 182) dX11_deal_20 ho1 (by decide) ?_
      exact JS_throw ⟨dX11_deal_182, dX11_deal_185, dX11_deal_186, dX11_deal_189⟩ h
    · have hk14 : (a2).toInt = 0 ∨ (a2).toInt = 1 ∨ (a2).toInt = 2 ∨ (a2).toInt = 3 ∨ (a2).toInt = 4 ∨ (a2).toInt = 5 ∨ (a2).toInt = 6 ∨ (a2).toInt = 7 ∨ (a2).toInt = 8 ∨ (a2).toInt = 9 := by omega
      rcases hk14 with hk14 | hk14 | hk14 | hk14 | hk14 | hk14 | hk14 | hk14 | hk14 | hk14
      · have h := h.1 (i32_of_toInt hk14)
        refine JT_tableIn (tgt := 76) dX11_deal_20 (by omega) (by omega) (by rw [hk14]; rfl) (by decide) ?_
        refine JT_aload_n (q := 0) dX11_deal_76 rfl rfl ?_
        refine JS_getR (x := 31) dX11_deal_77 flX11_41 BS_2 (Nat.le_of_ble_eq_true rfl) (Nat.le_of_ble_eq_true rfl) (Or.inl ⟨_, ct_11_5⟩) RF_2_5 ?_
        refine JS_getR (x := 32) dX11_deal_80 flX11_214 BS_31 (Nat.le_of_ble_eq_true rfl) (Nat.le_of_ble_eq_true rfl) (Or.inr ⟨_, ct_4_0⟩) RF_31_0 ?_
        refine JT_iload_n (q := 1) dX11_deal_83 rfl rfl ?_
        obtain ⟨o2, h⟩ := h
        refine JS_iald dX11_deal_84 BS_32 (Nat.le_of_ble_eq_true rfl) (Nat.le_of_ble_eq_true rfl) o2 ?_
        exact JS_iretx dX11_deal_85 rfl rfl h
      · have h := h.2.1 (i32_of_toInt hk14)
        refine JT_tableIn (tgt := 86) dX11_deal_20 (by omega) (by omega) (by rw [hk14]; rfl) (by decide) ?_
        refine JT_aload_n (q := 0) dX11_deal_86 rfl rfl ?_
        refine JS_getR (x := 31) dX11_deal_87 flX11_41 BS_2 (Nat.le_of_ble_eq_true rfl) (Nat.le_of_ble_eq_true rfl) (Or.inl ⟨_, ct_11_5⟩) RF_2_5 ?_
        refine JS_getR (x := 33) dX11_deal_90 flX11_217 BS_31 (Nat.le_of_ble_eq_true rfl) (Nat.le_of_ble_eq_true rfl) (Or.inr ⟨_, ct_4_1⟩) RF_31_1 ?_
        refine JT_iload_n (q := 1) dX11_deal_93 rfl rfl ?_
        obtain ⟨o3, h⟩ := h
        refine JS_iald dX11_deal_94 BS_33 (Nat.le_of_ble_eq_true rfl) (Nat.le_of_ble_eq_true rfl) o3 ?_
        exact JS_iretx dX11_deal_95 rfl rfl h
      · have h := h.2.2.1 (i32_of_toInt hk14)
        refine JT_tableIn (tgt := 96) dX11_deal_20 (by omega) (by omega) (by rw [hk14]; rfl) (by decide) ?_
        refine JT_aload_n (q := 0) dX11_deal_96 rfl rfl ?_
        refine JS_getR (x := 31) dX11_deal_97 flX11_41 BS_2 (Nat.le_of_ble_eq_true rfl) (Nat.le_of_ble_eq_true rfl) (Or.inl ⟨_, ct_11_5⟩) RF_2_5 ?_
        refine JS_getR (x := 34) dX11_deal_100 flX11_220 BS_31 (Nat.le_of_ble_eq_true rfl) (Nat.le_of_ble_eq_true rfl) (Or.inr ⟨_, ct_4_2⟩) RF_31_2 ?_
        refine JT_iload_n (q := 1) dX11_deal_103 rfl rfl ?_
        obtain ⟨o4, h⟩ := h
        refine JS_iald dX11_deal_104 BS_34 (Nat.le_of_ble_eq_true rfl) (Nat.le_of_ble_eq_true rfl) o4 ?_
        exact JS_iretx dX11_deal_105 rfl rfl h
      · have h := h.2.2.2.1 (i32_of_toInt hk14)
        refine JT_tableIn (tgt := 106) dX11_deal_20 (by omega) (by omega) (by rw [hk14]; rfl) (by decide) ?_
        refine JT_aload_n (q := 0) dX11_deal_106 rfl rfl ?_
        refine JS_getR (x := 31) dX11_deal_107 flX11_41 BS_2 (Nat.le_of_ble_eq_true rfl) (Nat.le_of_ble_eq_true rfl) (Or.inl ⟨_, ct_11_5⟩) RF_2_5 ?_
        refine JS_getR (x := 35) dX11_deal_110 flX11_223 BS_31 (Nat.le_of_ble_eq_true rfl) (Nat.le_of_ble_eq_true rfl) (Or.inr ⟨_, ct_4_3⟩) RF_31_3 ?_
        refine JT_iload_n (q := 1) dX11_deal_113 rfl rfl ?_
        obtain ⟨o5, h⟩ := h
        refine JS_iald dX11_deal_114 BS_35 (Nat.le_of_ble_eq_true rfl) (Nat.le_of_ble_eq_true rfl) o5 ?_
        exact JS_iretx dX11_deal_115 rfl rfl h
      · have h := h.2.2.2.2.1 (i32_of_toInt hk14)
        refine JT_tableIn (tgt := 116) dX11_deal_20 (by omega) (by omega) (by rw [hk14]; rfl) (by decide) ?_
        refine JT_aload_n (q := 0) dX11_deal_116 rfl rfl ?_
        refine JS_getR (x := 31) dX11_deal_117 flX11_41 BS_2 (Nat.le_of_ble_eq_true rfl) (Nat.le_of_ble_eq_true rfl) (Or.inl ⟨_, ct_11_5⟩) RF_2_5 ?_
        refine JS_getR (x := 36) dX11_deal_120 flX11_226 BS_31 (Nat.le_of_ble_eq_true rfl) (Nat.le_of_ble_eq_true rfl) (Or.inr ⟨_, ct_4_4⟩) RF_31_4 ?_
        refine JT_iload_n (q := 1) dX11_deal_123 rfl rfl ?_
        obtain ⟨o6, h⟩ := h
        refine JS_iald dX11_deal_124 BS_36 (Nat.le_of_ble_eq_true rfl) (Nat.le_of_ble_eq_true rfl) o6 ?_
        exact JS_iretx dX11_deal_125 rfl rfl h
      · have h := h.2.2.2.2.2.1 (i32_of_toInt hk14)
        refine JT_tableIn (tgt := 126) dX11_deal_20 (by omega) (by omega) (by rw [hk14]; rfl) (by decide) ?_
        refine JT_aload_n (q := 0) dX11_deal_126 rfl rfl ?_
        refine JS_getR (x := 31) dX11_deal_127 flX11_41 BS_2 (Nat.le_of_ble_eq_true rfl) (Nat.le_of_ble_eq_true rfl) (Or.inl ⟨_, ct_11_5⟩) RF_2_5 ?_
        refine JS_getR (x := 37) dX11_deal_130 flX11_229 BS_31 (Nat.le_of_ble_eq_true rfl) (Nat.le_of_ble_eq_true rfl) (Or.inr ⟨_, ct_4_5⟩) RF_31_5 ?_
        refine JT_iload_n (q := 1) dX11_deal_133 rfl rfl ?_
        obtain ⟨o7, h⟩ := h
        refine JS_iald dX11_deal_134 BS_37 (Nat.le_of_ble_eq_true rfl) (Nat.le_of_ble_eq_true rfl) o7 ?_
        exact JS_iretx dX11_deal_135 rfl rfl h
      · have h := h.2.2.2.2.2.2.1 (i32_of_toInt hk14)
        refine JT_tableIn (tgt := 136) dX11_deal_20 (by omega) (by omega) (by rw [hk14]; rfl) (by decide) ?_
        refine JT_aload_n (q := 0) dX11_deal_136 rfl rfl ?_
        refine JS_getR (x := 31) dX11_deal_137 flX11_41 BS_2 (Nat.le_of_ble_eq_true rfl) (Nat.le_of_ble_eq_true rfl) (Or.inl ⟨_, ct_11_5⟩) RF_2_5 ?_
        refine JT_iload_n (q := 1) dX11_deal_140 rfl rfl ?_
        refine JT_iconst (v := 0) dX11_deal_141 ic_0 ?_
        obtain ⟨o8, h⟩ := h
        refine JS_callVI (M' := MX4_bearer) (d' := 0) (As := [.int a1, .int (0 : Int32)]) (rest := []) (P := (fun zv9 wm9 => (vX4_bearer s 31 5 a1 (0 : Int32)) = zv9 ∧ s = wm9)) dX11_deal_142 cvX11_232 okX4_bearer rfl (Nat.le_of_ble_eq_true rfl) BS_31 (Nat.le_of_ble_eq_true rfl) (Nat.le_of_ble_eq_true rfl) hci_4 (Nat.le_of_ble_eq_true rfl) (Nat.le_of_ble_eq_true rfl) (pX4_bearer hL_31 (a1) ((0 : Int32)) o8 ⟨rfl, rfl⟩) (fun zv9 wm9 hq9 => ?_)
        obtain ⟨rfl, rfl⟩ := hq9
        exact JS_iretx dX11_deal_145 rfl rfl h
      · have h := h.2.2.2.2.2.2.2.1 (i32_of_toInt hk14)
        refine JT_tableIn (tgt := 146) dX11_deal_20 (by omega) (by omega) (by rw [hk14]; rfl) (by decide) ?_
        refine JT_aload_n (q := 0) dX11_deal_146 rfl rfl ?_
        refine JS_getR (x := 31) dX11_deal_147 flX11_41 BS_2 (Nat.le_of_ble_eq_true rfl) (Nat.le_of_ble_eq_true rfl) (Or.inl ⟨_, ct_11_5⟩) RF_2_5 ?_
        refine JT_iload_n (q := 1) dX11_deal_150 rfl rfl ?_
        refine JT_iconst (v := 1) dX11_deal_151 ic_1 ?_
        obtain ⟨o9, h⟩ := h
        refine JS_callVI (M' := MX4_bearer) (d' := 0) (As := [.int a1, .int (1 : Int32)]) (rest := []) (P := (fun zv9 wm9 => (vX4_bearer s 31 5 a1 (1 : Int32)) = zv9 ∧ s = wm9)) dX11_deal_152 cvX11_232 okX4_bearer rfl (Nat.le_of_ble_eq_true rfl) BS_31 (Nat.le_of_ble_eq_true rfl) (Nat.le_of_ble_eq_true rfl) hci_4 (Nat.le_of_ble_eq_true rfl) (Nat.le_of_ble_eq_true rfl) (pX4_bearer hL_31 (a1) ((1 : Int32)) o9 ⟨rfl, rfl⟩) (fun zv9 wm9 hq9 => ?_)
        obtain ⟨rfl, rfl⟩ := hq9
        exact JS_iretx dX11_deal_155 rfl rfl h
      · have h := h.2.2.2.2.2.2.2.2.1 (i32_of_toInt hk14)
        refine JT_tableIn (tgt := 156) dX11_deal_20 (by omega) (by omega) (by rw [hk14]; rfl) (by decide) ?_
        refine JT_aload_n (q := 0) dX11_deal_156 rfl rfl ?_
        refine JS_getR (x := 31) dX11_deal_157 flX11_41 BS_2 (Nat.le_of_ble_eq_true rfl) (Nat.le_of_ble_eq_true rfl) (Or.inl ⟨_, ct_11_5⟩) RF_2_5 ?_
        refine JT_iload_n (q := 1) dX11_deal_160 rfl rfl ?_
        obtain ⟨o12, h⟩ := h
        refine JS_callVI (M' := MX4_isKnown) (d' := 3) (As := [.int a1]) (rest := []) (P := (fun zv9 wm9 => (vX4_isKnown s 31 5 a1) = zv9 ∧ s = wm9)) dX11_deal_161 cvX11_235 okX4_isKnown rfl (Nat.le_of_ble_eq_true rfl) BS_31 (Nat.le_of_ble_eq_true rfl) (Nat.le_of_ble_eq_true rfl) hci_4 (Nat.le_of_ble_eq_true rfl) (Nat.le_of_ble_eq_true rfl) (pX4_isKnown hL_31 (a1) o12 ⟨rfl, rfl⟩) (fun zv9 wm9 hq9 => ?_)
        obtain ⟨rfl, rfl⟩ := hq9
        have hj10 : ∀ v : Int32, v = (if (vX4_isKnown s 31 5 a1) = 0 then (0 : Int32) else (1 : Int32)) → JT MX11_deal 4 0 0 172 [(0, .ref 2), (1, .int a1), (2, .int a2)] [.int v] (std s) (KQx MX11_deal Q) := by
          intro v hv
          subst hv
          exact JS_iretx dX11_deal_172 rfl rfl h
        refine JT_if_eq (tgt := 171) dX11_deal_164 (by decide) (fun hc11 => ?_) (fun hc11 => ?_)
        · refine JT_iconst (v := 0) dX11_deal_171 ic_0 ?_
          exact hj10 _ (by rw [if_pos hc11])
        · refine JT_iconst (v := 1) dX11_deal_167 ic_1 ?_
          refine JT_goto (tgt := 172) dX11_deal_168 (by decide) ?_
          exact hj10 _ (by rw [if_neg hc11])
      · have h := h.2.2.2.2.2.2.2.2.2.1 (i32_of_toInt hk14)
        refine JT_tableIn (tgt := 173) dX11_deal_20 (by omega) (by omega) (by rw [hk14]; rfl) (by decide) ?_
        refine JT_aload_n (q := 0) dX11_deal_173 rfl rfl ?_
        refine JS_getR (x := 31) dX11_deal_174 flX11_41 BS_2 (Nat.le_of_ble_eq_true rfl) (Nat.le_of_ble_eq_true rfl) (Or.inl ⟨_, ct_11_5⟩) RF_2_5 ?_
        refine JT_iload_n (q := 1) dX11_deal_177 rfl rfl ?_
        obtain ⟨o13, h⟩ := h
        refine JS_callVI (M' := MX4_valueOf) (d' := 1) (As := [.int a1]) (rest := []) (P := (fun zv9 wm9 => (vX4_valueOf s 31 5 a1) = zv9 ∧ s = wm9)) dX11_deal_178 cvX11_238 okX4_valueOf rfl (Nat.le_of_ble_eq_true rfl) BS_31 (Nat.le_of_ble_eq_true rfl) (Nat.le_of_ble_eq_true rfl) hci_4 (Nat.le_of_ble_eq_true rfl) (Nat.le_of_ble_eq_true rfl) (pX4_valueOf hL_31 (a1) o13 ⟨rfl, rfl⟩) (fun zv9 wm9 hq9 => ?_)
        obtain ⟨rfl, rfl⟩ := hq9
        exact JS_iretx dX11_deal_181 rfl rfl h
  · have h := h.2 hc15
    exact JS_throw ⟨dX11_deal_11, dX11_deal_14, dX11_deal_15, dX11_deal_18⟩ h
set_option maxRecDepth 1000000 in
theorem pX11_deal (a1 : Int32) (a2 : Int32) {s : SM} {Q : Option Int32 → SM → Prop} (hr : rX11_deal s a1 a2) (h : Q (vX11_deal s a1 a2) s) : KX MX11_deal 4 [.ref 2, .int a1, .int a2] s Q := by
  refine bX11_deal a1 a2 ?_
  unfold rX11_deal at hr
  unfold vX11_deal at h
  refine ⟨fun c => ?_, fun c => ?_⟩
  · replace hr := hr c
    replace h := qln c h
    refine ⟨fun c => ?_, fun c => ?_, fun c => ?_, fun c => ?_, fun c => ?_, fun c => ?_, fun c => ?_, fun c => ?_, fun c => ?_, fun c => ?_, fun c => ?_⟩
    · replace hr := hr.1 c
      replace h := qlp c h
      refine ⟨hr, ?_⟩
      first | exact h | contradiction
    · replace hr := hr.2.1 c
      have n0 : ¬ a2 = (0 : Int32) := by rw [c]; decide
      replace h := qln n0 h
      replace h := qlp c h
      refine ⟨hr, ?_⟩
      first | exact h | contradiction
    · replace hr := hr.2.2.1 c
      have n0 : ¬ a2 = (0 : Int32) := by rw [c]; decide
      replace h := qln n0 h
      have n1 : ¬ a2 = (1 : Int32) := by rw [c]; decide
      replace h := qln n1 h
      replace h := qlp c h
      refine ⟨hr, ?_⟩
      first | exact h | contradiction
    · replace hr := hr.2.2.2.1 c
      have n0 : ¬ a2 = (0 : Int32) := by rw [c]; decide
      replace h := qln n0 h
      have n1 : ¬ a2 = (1 : Int32) := by rw [c]; decide
      replace h := qln n1 h
      have n2 : ¬ a2 = (2 : Int32) := by rw [c]; decide
      replace h := qln n2 h
      replace h := qlp c h
      refine ⟨hr, ?_⟩
      first | exact h | contradiction
    · replace hr := hr.2.2.2.2.1 c
      have n0 : ¬ a2 = (0 : Int32) := by rw [c]; decide
      replace h := qln n0 h
      have n1 : ¬ a2 = (1 : Int32) := by rw [c]; decide
      replace h := qln n1 h
      have n2 : ¬ a2 = (2 : Int32) := by rw [c]; decide
      replace h := qln n2 h
      have n3 : ¬ a2 = (3 : Int32) := by rw [c]; decide
      replace h := qln n3 h
      replace h := qlp c h
      refine ⟨hr, ?_⟩
      first | exact h | contradiction
    · replace hr := hr.2.2.2.2.2.1 c
      have n0 : ¬ a2 = (0 : Int32) := by rw [c]; decide
      replace h := qln n0 h
      have n1 : ¬ a2 = (1 : Int32) := by rw [c]; decide
      replace h := qln n1 h
      have n2 : ¬ a2 = (2 : Int32) := by rw [c]; decide
      replace h := qln n2 h
      have n3 : ¬ a2 = (3 : Int32) := by rw [c]; decide
      replace h := qln n3 h
      have n4 : ¬ a2 = (4 : Int32) := by rw [c]; decide
      replace h := qln n4 h
      replace h := qlp c h
      refine ⟨hr, ?_⟩
      first | exact h | contradiction
    · replace hr := hr.2.2.2.2.2.2.1 c
      have n0 : ¬ a2 = (0 : Int32) := by rw [c]; decide
      replace h := qln n0 h
      have n1 : ¬ a2 = (1 : Int32) := by rw [c]; decide
      replace h := qln n1 h
      have n2 : ¬ a2 = (2 : Int32) := by rw [c]; decide
      replace h := qln n2 h
      have n3 : ¬ a2 = (3 : Int32) := by rw [c]; decide
      replace h := qln n3 h
      have n4 : ¬ a2 = (4 : Int32) := by rw [c]; decide
      replace h := qln n4 h
      have n5 : ¬ a2 = (5 : Int32) := by rw [c]; decide
      replace h := qln n5 h
      replace h := qlp c h
      refine ⟨hr, ?_⟩
      first | exact h | contradiction
    · replace hr := hr.2.2.2.2.2.2.2.1 c
      have n0 : ¬ a2 = (0 : Int32) := by rw [c]; decide
      replace h := qln n0 h
      have n1 : ¬ a2 = (1 : Int32) := by rw [c]; decide
      replace h := qln n1 h
      have n2 : ¬ a2 = (2 : Int32) := by rw [c]; decide
      replace h := qln n2 h
      have n3 : ¬ a2 = (3 : Int32) := by rw [c]; decide
      replace h := qln n3 h
      have n4 : ¬ a2 = (4 : Int32) := by rw [c]; decide
      replace h := qln n4 h
      have n5 : ¬ a2 = (5 : Int32) := by rw [c]; decide
      replace h := qln n5 h
      have n6 : ¬ a2 = (6 : Int32) := by rw [c]; decide
      replace h := qln n6 h
      replace h := qlp c h
      refine ⟨hr, ?_⟩
      first | exact h | contradiction
    · replace hr := hr.2.2.2.2.2.2.2.2.1 c
      have n0 : ¬ a2 = (0 : Int32) := by rw [c]; decide
      replace h := qln n0 h
      have n1 : ¬ a2 = (1 : Int32) := by rw [c]; decide
      replace h := qln n1 h
      have n2 : ¬ a2 = (2 : Int32) := by rw [c]; decide
      replace h := qln n2 h
      have n3 : ¬ a2 = (3 : Int32) := by rw [c]; decide
      replace h := qln n3 h
      have n4 : ¬ a2 = (4 : Int32) := by rw [c]; decide
      replace h := qln n4 h
      have n5 : ¬ a2 = (5 : Int32) := by rw [c]; decide
      replace h := qln n5 h
      have n6 : ¬ a2 = (6 : Int32) := by rw [c]; decide
      replace h := qln n6 h
      have n7 : ¬ a2 = (7 : Int32) := by rw [c]; decide
      replace h := qln n7 h
      replace h := qlp c h
      refine ⟨hr, ?_⟩
      first | exact h | contradiction
    · replace hr := hr.2.2.2.2.2.2.2.2.2 c
      have n0 : ¬ a2 = (0 : Int32) := by rw [c]; decide
      replace h := qln n0 h
      have n1 : ¬ a2 = (1 : Int32) := by rw [c]; decide
      replace h := qln n1 h
      have n2 : ¬ a2 = (2 : Int32) := by rw [c]; decide
      replace h := qln n2 h
      have n3 : ¬ a2 = (3 : Int32) := by rw [c]; decide
      replace h := qln n3 h
      have n4 : ¬ a2 = (4 : Int32) := by rw [c]; decide
      replace h := qln n4 h
      have n5 : ¬ a2 = (5 : Int32) := by rw [c]; decide
      replace h := qln n5 h
      have n6 : ¬ a2 = (6 : Int32) := by rw [c]; decide
      replace h := qln n6 h
      have n7 : ¬ a2 = (7 : Int32) := by rw [c]; decide
      replace h := qln n7 h
      have n8 : ¬ a2 = (8 : Int32) := by rw [c]; decide
      replace h := qln n8 h
      replace h := qlp c h
      refine ⟨hr, ?_⟩
      first | exact h | contradiction
    · have n0 : ¬ a2 = (0 : Int32) := by intro e9; rw [e9] at c; revert c; decide
      replace h := qln n0 h
      have n1 : ¬ a2 = (1 : Int32) := by intro e9; rw [e9] at c; revert c; decide
      replace h := qln n1 h
      have n2 : ¬ a2 = (2 : Int32) := by intro e9; rw [e9] at c; revert c; decide
      replace h := qln n2 h
      have n3 : ¬ a2 = (3 : Int32) := by intro e9; rw [e9] at c; revert c; decide
      replace h := qln n3 h
      have n4 : ¬ a2 = (4 : Int32) := by intro e9; rw [e9] at c; revert c; decide
      replace h := qln n4 h
      have n5 : ¬ a2 = (5 : Int32) := by intro e9; rw [e9] at c; revert c; decide
      replace h := qln n5 h
      have n6 : ¬ a2 = (6 : Int32) := by intro e9; rw [e9] at c; revert c; decide
      replace h := qln n6 h
      have n7 : ¬ a2 = (7 : Int32) := by intro e9; rw [e9] at c; revert c; decide
      replace h := qln n7 h
      have n8 : ¬ a2 = (8 : Int32) := by intro e9; rw [e9] at c; revert c; decide
      replace h := qln n8 h
      have n9 : ¬ a2 = (9 : Int32) := by intro e9; rw [e9] at c; revert c; decide
      replace h := qln n9 h
      first | exact h | contradiction
  · replace h := qlp c h
    first | exact h | contradiction
set_option maxRecDepth 1000000 in
theorem bX11_scar (a1 : Int32) (a2 : Int32) {s : SM} {Q : Int32 → SM → Prop} (h : ((¬ (vX11_isSide s a2) = 0 → rX2_note s 31 5 ∧ rX4_tryScar (mX2_note s 31 5) 31 5 a1 a2 ∧ ((¬ (vX4_tryScar (mX2_note s 31 5) 31 5 a1 a2) = 0 → Q (vX4_tryScar (mX2_note s 31 5) 31 5 a1 a2) (mX4_tryScar (mX2_note s 31 5) 31 5 a1 a2)) ∧ ((vX4_tryScar (mX2_note s 31 5) 31 5 a1 a2) = 0 → Q (vX4_tryScar (mX2_note s 31 5) 31 5 a1 a2) (mX2_keepNoted (mX4_tryScar (mX2_note s 31 5) 31 5 a1 a2) )))) ∧ ((vX11_isSide s a2) = 0 → Q (-1 : Int32) s))) : KI MX11_scar 4 [.ref 2, .int a1, .int a2] s Q := by
  show BI MX11_scar 4 0 [(0, .ref 2), (1, .int a1), (2, .int a2)] s Q
  refine JT_iload_n (q := 2) dX11_scar_0 rfl rfl ?_
  refine JS_callSI (M' := MX11_isSide) (d' := 0) (As := [.int a2]) (rest := []) (P := (fun zv9 wm9 => (vX11_isSide s a2) = zv9 ∧ s = wm9)) dX11_scar_1 cvX11_241 okX11_isSide rfl (Nat.le_of_ble_eq_true rfl) (Nat.le_of_ble_eq_true rfl) (Nat.le_of_ble_eq_true rfl) (pX11_isSide  (a2)  ⟨rfl, rfl⟩) (fun zv9 wm9 hq9 => ?_)
  obtain ⟨rfl, rfl⟩ := hq9
  refine JT_if_ne (tgt := 9) dX11_scar_4 (by decide) (fun hc5 => ?_) (fun hc5 => ?_)
  · have h := h.1 hc5
    refine JT_aload_n (q := 0) dX11_scar_9 rfl rfl ?_
    refine JS_getR (x := 55) dX11_scar_10 flX11_51 BS_2 (Nat.le_of_ble_eq_true rfl) (Nat.le_of_ble_eq_true rfl) (Or.inl ⟨_, ct_11_7⟩) RF_2_7 ?_
    refine JT_aload_n (q := 0) dX11_scar_13 rfl rfl ?_
    refine JS_getR (x := 31) dX11_scar_14 flX11_41 BS_2 (Nat.le_of_ble_eq_true rfl) (Nat.le_of_ble_eq_true rfl) (Or.inl ⟨_, ct_11_5⟩) RF_2_5 ?_
    obtain ⟨o4, h⟩ := h
    refine JS_callVV (M' := MX2_note) (d' := 2) (As := [.ref 31]) (rest := []) (P := (fun wm9 => (mX2_note s 31 5) = wm9)) dX11_scar_17 cvX11_300 okX2_note rfl (Nat.le_of_ble_eq_true rfl) BS_55 (Nat.le_of_ble_eq_true rfl) (Nat.le_of_ble_eq_true rfl) hci_2 (Nat.le_of_ble_eq_true rfl) (Nat.le_of_ble_eq_true rfl) (pX2_note hL_31  o4 rfl) (fun wm9 hq9 => ?_)
    subst hq9
    refine JT_aload_n (q := 0) dX11_scar_20 rfl rfl ?_
    refine JS_getR (x := 31) dX11_scar_21 flX11_41 BS_2 (Nat.le_of_ble_eq_true rfl) (Nat.le_of_ble_eq_true rfl) (Or.inl ⟨_, ct_11_5⟩) RF_2_5 ?_
    refine JT_iload_n (q := 1) dX11_scar_24 rfl rfl ?_
    refine JT_iload_n (q := 2) dX11_scar_25 rfl rfl ?_
    obtain ⟨o3, h⟩ := h
    refine JS_callVI (M' := MX4_tryScar) (d' := 3) (As := [.int a1, .int a2]) (rest := []) (P := (fun zv9 wm9 => (vX4_tryScar (mX2_note s 31 5) 31 5 a1 a2) = zv9 ∧ (mX4_tryScar (mX2_note s 31 5) 31 5 a1 a2) = wm9)) dX11_scar_26 cvX11_314 okX4_tryScar rfl (Nat.le_of_ble_eq_true rfl) BS_31 (Nat.le_of_ble_eq_true rfl) (Nat.le_of_ble_eq_true rfl) hci_4 (Nat.le_of_ble_eq_true rfl) (Nat.le_of_ble_eq_true rfl) (pX4_tryScar hL_31 (a1) (a2) o3 ⟨rfl, rfl⟩) (fun zv9 wm9 hq9 => ?_)
    obtain ⟨rfl, rfl⟩ := hq9
    refine JT_istore_n (lv' := [(3, .int (vX4_tryScar (mX2_note s 31 5) 31 5 a1 a2)), (0, .ref 2), (1, .int a1), (2, .int a2)]) dX11_scar_29 rfl (Nat.le_of_ble_eq_true rfl) rfl ?_
    refine JT_iload_n (q := 0) dX11_scar_30 rfl rfl ?_
    refine JT_if_ne (tgt := 41) dX11_scar_31 (by decide) (fun hc2 => ?_) (fun hc2 => ?_)
    · have h := h.1 hc2
      refine JT_iload_n (q := 0) dX11_scar_41 rfl rfl ?_
      exact JS_iret dX11_scar_42 rfl rfl h
    · have h := h.2 hc2
      refine JT_aload_n (q := 1) dX11_scar_34 rfl rfl ?_
      refine JS_getR (x := 55) dX11_scar_35 flX11_51 BS_2 (Nat.le_of_ble_eq_true rfl) (Nat.le_of_ble_eq_true rfl) (Or.inl ⟨_, ct_11_7⟩) RF_2_7 ?_
      refine JS_callVV (M' := MX2_keepNoted) (d' := 1) (As := []) (rest := []) (P := (fun wm9 => (mX2_keepNoted (mX4_tryScar (mX2_note s 31 5) 31 5 a1 a2) ) = wm9)) dX11_scar_38 cvX11_308 okX2_keepNoted rfl (Nat.le_of_ble_eq_true rfl) BS_55 (Nat.le_of_ble_eq_true rfl) (Nat.le_of_ble_eq_true rfl) hci_2 (Nat.le_of_ble_eq_true rfl) (Nat.le_of_ble_eq_true rfl) (pX2_keepNoted    rfl) (fun wm9 hq9 => ?_)
      subst hq9
      refine JT_iload_n (q := 0) dX11_scar_41 rfl rfl ?_
      exact JS_iret dX11_scar_42 rfl rfl h
  · have h := h.2 hc5
    refine JT_iconst (v := -1) dX11_scar_7 ic_m1 ?_
    exact JS_iret dX11_scar_8 rfl rfl h
set_option maxRecDepth 1000000 in
theorem pX11_scar (a1 : Int32) (a2 : Int32) {s : SM} {Q : Int32 → SM → Prop} (hr : rX11_scar s a1 a2) (h : Q (vX11_scar s a1 a2) (mX11_scar s a1 a2)) : KI MX11_scar 4 [.ref 2, .int a1, .int a2] s Q := by
  refine bX11_scar a1 a2 ?_
  unfold rX11_scar at hr
  unfold vX11_scar mX11_scar at h
  refine ⟨fun c => ?_, fun c => ?_⟩
  · replace hr := hr c
    replace h := q2n c h
    refine ⟨hr.1, ?_⟩
    replace hr := hr.2
    refine ⟨hr, ?_⟩
    refine ⟨fun c => ?_, fun c => ?_⟩
    · replace h := qrn c h
      first | exact h | contradiction
    · replace h := qrp c h
      first | exact h | contradiction
  · replace h := q2p c h
    first | exact h | contradiction
set_option maxRecDepth 1000000 in
theorem bX11_settled  {s : SM} {Q : Int32 → SM → Prop} (h : rX8_payments s 31 5 ∧ Q (vX8_payments s 31 5) (mX8_payments s 31 5)) : KI MX11_settled 4 [.ref 2] s Q := by
  show BI MX11_settled 4 0 [(0, .ref 2)] s Q
  refine JT_aload_n (q := 0) dX11_settled_0 rfl rfl ?_
  refine JS_getR (x := 240) dX11_settled_1 flX11_86 BS_2 (Nat.le_of_ble_eq_true rfl) (Nat.le_of_ble_eq_true rfl) (Or.inl ⟨_, ct_11_12⟩) RF_2_12 ?_
  refine JT_aload_n (q := 0) dX11_settled_4 rfl rfl ?_
  refine JS_getR (x := 31) dX11_settled_5 flX11_41 BS_2 (Nat.le_of_ble_eq_true rfl) (Nat.le_of_ble_eq_true rfl) (Or.inl ⟨_, ct_11_5⟩) RF_2_5 ?_
  obtain ⟨o1, h⟩ := h
  refine JS_callVI (M' := MX8_payments) (d' := 3) (As := [.ref 31]) (rest := []) (P := (fun zv9 wm9 => (vX8_payments s 31 5) = zv9 ∧ (mX8_payments s 31 5) = wm9)) dX11_settled_8 cvX11_263 okX8_payments rfl (Nat.le_of_ble_eq_true rfl) BS_240 (Nat.le_of_ble_eq_true rfl) (Nat.le_of_ble_eq_true rfl) hci_8 (Nat.le_of_ble_eq_true rfl) (Nat.le_of_ble_eq_true rfl) (pX8_payments hL_31  o1 ⟨rfl, rfl⟩) (fun zv9 wm9 hq9 => ?_)
  obtain ⟨rfl, rfl⟩ := hq9
  exact JS_iret dX11_settled_11 rfl rfl h
set_option maxRecDepth 1000000 in
theorem pX11_settled  {s : SM} {Q : Int32 → SM → Prop} (hr : rX11_settled s ) (h : Q (vX11_settled s ) (mX11_settled s )) : KI MX11_settled 4 [.ref 2] s Q := by
  refine bX11_settled  ?_
  unfold rX11_settled at hr
  unfold vX11_settled mX11_settled at h
  refine ⟨hr, ?_⟩
  first | exact h | contradiction
set_option maxRecDepth 1000000 in
theorem bX11_strike (a1 : Int32) {s : SM} {Q : Int32 → SM → Prop} (h : rX2_note s 31 5 ∧ rX4_tryStrike (mX2_note s 31 5) 31 5 a1 ∧ ((¬ (vX4_tryStrike (mX2_note s 31 5) 31 5 a1) = 0 → Q (vX4_tryStrike (mX2_note s 31 5) 31 5 a1) (mX4_tryStrike (mX2_note s 31 5) 31 5 a1)) ∧ ((vX4_tryStrike (mX2_note s 31 5) 31 5 a1) = 0 → Q (vX4_tryStrike (mX2_note s 31 5) 31 5 a1) (mX2_keepNoted (mX4_tryStrike (mX2_note s 31 5) 31 5 a1) )))) : KI MX11_strike 4 [.ref 2, .int a1] s Q := by
  show BI MX11_strike 4 0 [(0, .ref 2), (1, .int a1)] s Q
  refine JT_aload_n (q := 0) dX11_strike_0 rfl rfl ?_
  refine JS_getR (x := 55) dX11_strike_1 flX11_51 BS_2 (Nat.le_of_ble_eq_true rfl) (Nat.le_of_ble_eq_true rfl) (Or.inl ⟨_, ct_11_7⟩) RF_2_7 ?_
  refine JT_aload_n (q := 0) dX11_strike_4 rfl rfl ?_
  refine JS_getR (x := 31) dX11_strike_5 flX11_41 BS_2 (Nat.le_of_ble_eq_true rfl) (Nat.le_of_ble_eq_true rfl) (Or.inl ⟨_, ct_11_5⟩) RF_2_5 ?_
  obtain ⟨o4, h⟩ := h
  refine JS_callVV (M' := MX2_note) (d' := 2) (As := [.ref 31]) (rest := []) (P := (fun wm9 => (mX2_note s 31 5) = wm9)) dX11_strike_8 cvX11_300 okX2_note rfl (Nat.le_of_ble_eq_true rfl) BS_55 (Nat.le_of_ble_eq_true rfl) (Nat.le_of_ble_eq_true rfl) hci_2 (Nat.le_of_ble_eq_true rfl) (Nat.le_of_ble_eq_true rfl) (pX2_note hL_31  o4 rfl) (fun wm9 hq9 => ?_)
  subst hq9
  refine JT_aload_n (q := 0) dX11_strike_11 rfl rfl ?_
  refine JS_getR (x := 31) dX11_strike_12 flX11_41 BS_2 (Nat.le_of_ble_eq_true rfl) (Nat.le_of_ble_eq_true rfl) (Or.inl ⟨_, ct_11_5⟩) RF_2_5 ?_
  refine JT_iload_n (q := 1) dX11_strike_15 rfl rfl ?_
  obtain ⟨o3, h⟩ := h
  refine JS_callVI (M' := MX4_tryStrike) (d' := 3) (As := [.int a1]) (rest := []) (P := (fun zv9 wm9 => (vX4_tryStrike (mX2_note s 31 5) 31 5 a1) = zv9 ∧ (mX4_tryStrike (mX2_note s 31 5) 31 5 a1) = wm9)) dX11_strike_16 cvX11_311 okX4_tryStrike rfl (Nat.le_of_ble_eq_true rfl) BS_31 (Nat.le_of_ble_eq_true rfl) (Nat.le_of_ble_eq_true rfl) hci_4 (Nat.le_of_ble_eq_true rfl) (Nat.le_of_ble_eq_true rfl) (pX4_tryStrike hL_31 (a1) o3 ⟨rfl, rfl⟩) (fun zv9 wm9 hq9 => ?_)
  obtain ⟨rfl, rfl⟩ := hq9
  refine JT_istore_n (lv' := [(2, .int (vX4_tryStrike (mX2_note s 31 5) 31 5 a1)), (0, .ref 2), (1, .int a1)]) dX11_strike_19 rfl (Nat.le_of_ble_eq_true rfl) rfl ?_
  refine JT_iload_n (q := 0) dX11_strike_20 rfl rfl ?_
  refine JT_if_ne (tgt := 31) dX11_strike_21 (by decide) (fun hc2 => ?_) (fun hc2 => ?_)
  · have h := h.1 hc2
    refine JT_iload_n (q := 0) dX11_strike_31 rfl rfl ?_
    exact JS_iret dX11_strike_32 rfl rfl h
  · have h := h.2 hc2
    refine JT_aload_n (q := 1) dX11_strike_24 rfl rfl ?_
    refine JS_getR (x := 55) dX11_strike_25 flX11_51 BS_2 (Nat.le_of_ble_eq_true rfl) (Nat.le_of_ble_eq_true rfl) (Or.inl ⟨_, ct_11_7⟩) RF_2_7 ?_
    refine JS_callVV (M' := MX2_keepNoted) (d' := 1) (As := []) (rest := []) (P := (fun wm9 => (mX2_keepNoted (mX4_tryStrike (mX2_note s 31 5) 31 5 a1) ) = wm9)) dX11_strike_28 cvX11_308 okX2_keepNoted rfl (Nat.le_of_ble_eq_true rfl) BS_55 (Nat.le_of_ble_eq_true rfl) (Nat.le_of_ble_eq_true rfl) hci_2 (Nat.le_of_ble_eq_true rfl) (Nat.le_of_ble_eq_true rfl) (pX2_keepNoted    rfl) (fun wm9 hq9 => ?_)
    subst hq9
    refine JT_iload_n (q := 0) dX11_strike_31 rfl rfl ?_
    exact JS_iret dX11_strike_32 rfl rfl h
set_option maxRecDepth 1000000 in
theorem pX11_strike (a1 : Int32) {s : SM} {Q : Int32 → SM → Prop} (hr : rX11_strike s a1) (h : Q (vX11_strike s a1) (mX11_strike s a1)) : KI MX11_strike 4 [.ref 2, .int a1] s Q := by
  refine bX11_strike a1 ?_
  unfold rX11_strike at hr
  unfold vX11_strike mX11_strike at h
  refine ⟨hr.1, ?_⟩
  replace hr := hr.2
  refine ⟨hr, ?_⟩
  refine ⟨fun c => ?_, fun c => ?_⟩
  · replace h := qrn c h
    first | exact h | contradiction
  · replace h := qrp c h
    first | exact h | contradiction
set_option maxRecDepth 1000000 in
theorem bX12_bestPack_5 (a1 : Int32) (a2 : Int32) (a3 : Int32) (a4 : Int32) {s : SM} {Q : Int32 → SM → Prop} (h : (((gI s 248 45) ≤ a4 → BI MX12_bestPack 4 31 [(0, .ref 248), (1, .int a1), (2, .int a2), (3, .int a3), (4, .int (1 : Int32))] s Q) ∧ (¬ (gI s 248 45) ≤ a4 → vp_in a4 6 ∧ BI MX12_bestPack 4 5 [(0, .ref 248), (1, .int a1), (2, .int a2), (3, .int a3), (4, .int (a4 + 1))] (pI s 266 (a4).toNatClampNeg (0 : Int32)) Q))) : BI MX12_bestPack 4 5 [(0, .ref 248), (1, .int a1), (2, .int a2), (3, .int a3), (4, .int a4)] s Q := by
  refine JT_iload (q := 4) dX12_bestPack_5 rfl ?_
  refine JT_aload_n (q := 0) dX12_bestPack_7 rfl rfl ?_
  refine JS_getI dX12_bestPack_8 flX12_419 BS_248 (Nat.le_of_ble_eq_true rfl) (Nat.le_of_ble_eq_true rfl) (Or.inl ct_12_45) ?_
  refine JT_icmp_ge (tgt := 28) dX12_bestPack_11 (by decide) (fun hc2 => ?_) (fun hc2 => ?_)
  · have h := h.1 hc2
    refine JT_iconst (v := 1) dX12_bestPack_28 ic_1 ?_
    refine JT_istore (lv' := [(4, .int (1 : Int32)), (0, .ref 248), (1, .int a1), (2, .int a2), (3, .int a3)]) dX12_bestPack_29 (Nat.le_of_ble_eq_true rfl) rfl ?_
    exact JT_sub [1, 2, 3, 4, 0] rfl h
  · have h := h.2 hc2
    refine JT_aload_n (q := 0) dX12_bestPack_14 rfl rfl ?_
    refine JS_getR (x := 266) dX12_bestPack_15 flX12_83 BS_248 (Nat.le_of_ble_eq_true rfl) (Nat.le_of_ble_eq_true rfl) (Or.inr ⟨_, ct_12_41⟩) RF_248_41 ?_
    refine JT_iload (q := 4) dX12_bestPack_18 rfl ?_
    refine JT_iconst (v := 0) dX12_bestPack_20 ic_0 ?_
    obtain ⟨o1, h⟩ := h
    refine JS_iast dX12_bestPack_21 BS_266 (Nat.le_of_ble_eq_true rfl) (Nat.le_of_ble_eq_true rfl) o1 ?_
    refine JT_iinc (q := 4) (v := (a4 + 1)) (lv' := [(4, .int (a4 + 1)), (0, .ref 248), (1, .int a1), (2, .int a2), (3, .int a3)]) dX12_bestPack_22 rfl (by rfl) (Nat.le_of_ble_eq_true rfl) rfl ?_
    refine JT_goto (tgt := 5) dX12_bestPack_25 (by decide) ?_
    exact JT_sub [1, 2, 3, 4, 0] rfl h
set_option maxRecDepth 1000000 in
theorem bX12_bestPack_31 (a1 : Int32) (a2 : Int32) (a3 : Int32) (a4 : Int32) {s : SM} {Q : Int32 → SM → Prop} (h : ((a4 = 0 → Q a3 s) ∧ (¬ a4 = 0 → BI MX12_bestPack 4 42 [(0, .ref 248), (1, .int a1), (2, .int a2), (3, .int a3), (4, .int a4), (5, .int (0 : Int32)), (6, .int (0 : Int32))] s Q))) : BI MX12_bestPack 4 31 [(0, .ref 248), (1, .int a1), (2, .int a2), (3, .int a3), (4, .int a4)] s Q := by
  refine JT_iload (q := 4) dX12_bestPack_31 rfl ?_
  refine JT_if_eq (tgt := 197) dX12_bestPack_33 (by decide) (fun hc1 => ?_) (fun hc1 => ?_)
  · have h := h.1 hc1
    refine JT_iload_n (q := 3) dX12_bestPack_197 rfl rfl ?_
    exact JS_iret dX12_bestPack_198 rfl rfl h
  · have h := h.2 hc1
    refine JT_iconst (v := 0) dX12_bestPack_36 ic_0 ?_
    refine JT_istore (lv' := [(5, .int (0 : Int32)), (0, .ref 248), (1, .int a1), (2, .int a2), (3, .int a3), (4, .int a4)]) dX12_bestPack_37 (Nat.le_of_ble_eq_true rfl) rfl ?_
    refine JT_iconst (v := 0) dX12_bestPack_39 ic_0 ?_
    refine JT_istore (lv' := [(6, .int (0 : Int32)), (5, .int (0 : Int32)), (0, .ref 248), (1, .int a1), (2, .int a2), (3, .int a3), (4, .int a4)]) dX12_bestPack_40 (Nat.le_of_ble_eq_true rfl) rfl ?_
    exact JT_sub [2, 3, 4, 5, 6, 1, 0] rfl h
set_option maxRecDepth 1000000 in
theorem bX12_bestPack_42 (a1 : Int32) (a2 : Int32) (a3 : Int32) (a4 : Int32) (a5 : Int32) (a6 : Int32) {s : SM} {Q : Int32 → SM → Prop} (h : (((gI s 248 45) ≤ a6 → ((a5 ≤ a3 → BI MX12_bestPack 4 136 [(0, .ref 248), (1, .int a1), (2, .int a2), (3, .int a3), (4, .int a4), (5, .int a5), (6, .int ((gI s 248 45) - (1 : Int32)))] s Q) ∧ (¬ a5 ≤ a3 → rX12_arePacked s a1 a2 ∧ (((vX12_arePacked s a1 a2) = 0 → BI MX12_bestPack 4 136 [(0, .ref 248), (1, .int a1), (2, .int a2), (3, .int a3), (4, .int a4), (5, .int a5), (6, .int ((gI (mX12_arePacked s a1 a2) 248 45) - (1 : Int32)))] (mX12_arePacked s a1 a2) Q) ∧ (¬ (vX12_arePacked s a1 a2) = 0 → BI MX12_bestPack 4 99 [(0, .ref 248), (1, .int a1), (2, .int a2), (3, .int a5), (4, .int a4), (5, .int a5), (6, .int (0 : Int32))] (mX12_arePacked s a1 a2) Q))))) ∧ (¬ (gI s 248 45) ≤ a6 → vp_in a6 6 ∧ BI MX12_bestPack 4 42 [(0, .ref 248), (1, .int a1), (2, .int a2), (3, .int a3), (4, .int a4), (5, .int (a5 + (if (4 : Int32) ≤ (gI s 266 (a6).toNatClampNeg) then (0 : Int32) else (1 : Int32)))), (6, .int (a6 + 1))] s Q))) : BI MX12_bestPack 4 42 [(0, .ref 248), (1, .int a1), (2, .int a2), (3, .int a3), (4, .int a4), (5, .int a5), (6, .int a6)] s Q := by
  refine JT_iload (q := 6) dX12_bestPack_42 rfl ?_
  refine JT_aload_n (q := 0) dX12_bestPack_44 rfl rfl ?_
  refine JS_getI dX12_bestPack_45 flX12_419 BS_248 (Nat.le_of_ble_eq_true rfl) (Nat.le_of_ble_eq_true rfl) (Or.inl ct_12_45) ?_
  refine JT_icmp_ge (tgt := 78) dX12_bestPack_48 (by decide) (fun hc7 => ?_) (fun hc7 => ?_)
  · have h := h.1 hc7
    refine JT_iload (q := 5) dX12_bestPack_78 rfl ?_
    refine JT_iload_n (q := 3) dX12_bestPack_80 rfl rfl ?_
    refine JT_icmp_le (tgt := 128) dX12_bestPack_81 (by decide) (fun hc3 => ?_) (fun hc3 => ?_)
    · have h := h.1 hc3
      refine JT_aload_n (q := 0) dX12_bestPack_128 rfl rfl ?_
      refine JS_getI dX12_bestPack_129 flX12_419 BS_248 (Nat.le_of_ble_eq_true rfl) (Nat.le_of_ble_eq_true rfl) (Or.inl ct_12_45) ?_
      refine JT_iconst (v := 1) dX12_bestPack_132 ic_1 ?_
      refine JT_isub dX12_bestPack_133 ?_
      refine JT_istore (lv' := [(6, .int ((gI s 248 45) - (1 : Int32))), (0, .ref 248), (1, .int a1), (2, .int a2), (3, .int a3), (4, .int a4), (5, .int a5)]) dX12_bestPack_134 (Nat.le_of_ble_eq_true rfl) rfl ?_
      exact JT_sub [1, 2, 3, 4, 5, 6, 0] rfl h
    · have h := h.2 hc3
      refine JT_aload_n (q := 0) dX12_bestPack_84 rfl rfl ?_
      refine JT_iload_n (q := 1) dX12_bestPack_85 rfl rfl ?_
      refine JT_iload_n (q := 2) dX12_bestPack_86 rfl rfl ?_
      obtain ⟨o2, h⟩ := h
      refine JS_callVI (M' := MX12_arePacked) (d' := 3) (As := [.int a1, .int a2]) (rest := []) (P := (fun zv9 wm9 => (vX12_arePacked s a1 a2) = zv9 ∧ (mX12_arePacked s a1 a2) = wm9)) dX12_bestPack_87 cvX12_424 okX12_arePacked rfl (Nat.le_of_ble_eq_true rfl) BS_248 (Nat.le_of_ble_eq_true rfl) (Nat.le_of_ble_eq_true rfl) hci_12 (Nat.le_of_ble_eq_true rfl) (Nat.le_of_ble_eq_true rfl) (pX12_arePacked  (a1) (a2) o2 ⟨rfl, rfl⟩) (fun zv9 wm9 hq9 => ?_)
      obtain ⟨rfl, rfl⟩ := hq9
      refine JT_if_eq (tgt := 128) dX12_bestPack_90 (by decide) (fun hc1 => ?_) (fun hc1 => ?_)
      · have h := h.1 hc1
        refine JT_aload_n (q := 0) dX12_bestPack_128 rfl rfl ?_
        refine JS_getI dX12_bestPack_129 flX12_419 BS_248 (Nat.le_of_ble_eq_true rfl) (Nat.le_of_ble_eq_true rfl) (Or.inl ct_12_45) ?_
        refine JT_iconst (v := 1) dX12_bestPack_132 ic_1 ?_
        refine JT_isub dX12_bestPack_133 ?_
        refine JT_istore (lv' := [(6, .int ((gI (mX12_arePacked s a1 a2) 248 45) - (1 : Int32))), (0, .ref 248), (1, .int a1), (2, .int a2), (3, .int a3), (4, .int a4), (5, .int a5)]) dX12_bestPack_134 (Nat.le_of_ble_eq_true rfl) rfl ?_
        exact JT_sub [1, 2, 3, 4, 5, 6, 0] rfl h
      · have h := h.2 hc1
        refine JT_iload (q := 5) dX12_bestPack_93 rfl ?_
        refine JT_istore_n (lv' := [(3, .int a5), (0, .ref 248), (1, .int a1), (2, .int a2), (4, .int a4), (5, .int a5), (6, .int a6)]) dX12_bestPack_95 rfl (Nat.le_of_ble_eq_true rfl) rfl ?_
        refine JT_iconst (v := 0) dX12_bestPack_96 ic_0 ?_
        refine JT_istore (lv' := [(6, .int (0 : Int32)), (3, .int a5), (0, .ref 248), (1, .int a1), (2, .int a2), (4, .int a4), (5, .int a5)]) dX12_bestPack_97 (Nat.le_of_ble_eq_true rfl) rfl ?_
        exact JT_sub [2, 3, 4, 1, 5, 6, 0] rfl h
  · have h := h.2 hc7
    refine JT_iload (q := 5) dX12_bestPack_51 rfl ?_
    refine JT_aload_n (q := 0) dX12_bestPack_53 rfl rfl ?_
    refine JS_getR (x := 266) dX12_bestPack_54 flX12_83 BS_248 (Nat.le_of_ble_eq_true rfl) (Nat.le_of_ble_eq_true rfl) (Or.inr ⟨_, ct_12_41⟩) RF_248_41 ?_
    refine JT_iload (q := 6) dX12_bestPack_57 rfl ?_
    obtain ⟨o4, h⟩ := h
    refine JS_iald dX12_bestPack_59 BS_266 (Nat.le_of_ble_eq_true rfl) (Nat.le_of_ble_eq_true rfl) o4 ?_
    refine JT_iconst (v := 4) dX12_bestPack_60 ic_4 ?_
    have hj5 : ∀ v : Int32, v = (if (4 : Int32) ≤ (gI s 266 (a6).toNatClampNeg) then (0 : Int32) else (1 : Int32)) → JT MX12_bestPack 4 0 0 69 [(0, .ref 248), (1, .int a1), (2, .int a2), (3, .int a3), (4, .int a4), (5, .int a5), (6, .int a6)] [.int v, .int a5] (std s) (KQ Q) := by
      intro v hv
      subst hv
      refine JT_iadd dX12_bestPack_69 ?_
      refine JT_istore (lv' := [(5, .int (a5 + (if (4 : Int32) ≤ (gI s 266 (a6).toNatClampNeg) then (0 : Int32) else (1 : Int32)))), (0, .ref 248), (1, .int a1), (2, .int a2), (3, .int a3), (4, .int a4), (6, .int a6)]) dX12_bestPack_70 (Nat.le_of_ble_eq_true rfl) rfl ?_
      refine JT_iinc (q := 6) (v := (a6 + 1)) (lv' := [(6, .int (a6 + 1)), (5, .int (a5 + (if (4 : Int32) ≤ (gI s 266 (a6).toNatClampNeg) then (0 : Int32) else (1 : Int32)))), (0, .ref 248), (1, .int a1), (2, .int a2), (3, .int a3), (4, .int a4)]) dX12_bestPack_72 rfl (by rfl) (Nat.le_of_ble_eq_true rfl) rfl ?_
      refine JT_goto (tgt := 42) dX12_bestPack_75 (by decide) ?_
      exact JT_sub [2, 3, 4, 5, 6, 1, 0] rfl h
    refine JT_icmp_ge (tgt := 68) dX12_bestPack_61 (by decide) (fun hc6 => ?_) (fun hc6 => ?_)
    · refine JT_iconst (v := 0) dX12_bestPack_68 ic_0 ?_
      exact hj5 _ (by rw [if_pos hc6])
    · refine JT_iconst (v := 1) dX12_bestPack_64 ic_1 ?_
      refine JT_goto (tgt := 69) dX12_bestPack_65 (by decide) ?_
      exact hj5 _ (by rw [if_neg hc6])
set_option maxRecDepth 1000000 in
theorem bX12_bestPack_99 (a1 : Int32) (a2 : Int32) (a3 : Int32) (a4 : Int32) (a5 : Int32) (a6 : Int32) {s : SM} {Q : Int32 → SM → Prop} (h : (((gI s 248 45) ≤ a6 → BI MX12_bestPack 4 136 [(0, .ref 248), (1, .int a1), (2, .int a2), (3, .int a3), (4, .int a4), (5, .int a5), (6, .int ((gI s 248 45) - (1 : Int32)))] s Q) ∧ (¬ (gI s 248 45) ≤ a6 → vp_in a6 6 ∧ vp_in a6 6 ∧ BI MX12_bestPack 4 99 [(0, .ref 248), (1, .int a1), (2, .int a2), (3, .int a3), (4, .int a4), (5, .int a5), (6, .int (a6 + 1))] (pI s 267 (a6).toNatClampNeg (gI s 266 (a6).toNatClampNeg)) Q))) : BI MX12_bestPack 4 99 [(0, .ref 248), (1, .int a1), (2, .int a2), (3, .int a3), (4, .int a4), (5, .int a5), (6, .int a6)] s Q := by
  refine JT_iload (q := 6) dX12_bestPack_99 rfl ?_
  refine JT_aload_n (q := 0) dX12_bestPack_101 rfl rfl ?_
  refine JS_getI dX12_bestPack_102 flX12_419 BS_248 (Nat.le_of_ble_eq_true rfl) (Nat.le_of_ble_eq_true rfl) (Or.inl ct_12_45) ?_
  refine JT_icmp_ge (tgt := 128) dX12_bestPack_105 (by decide) (fun hc3 => ?_) (fun hc3 => ?_)
  · have h := h.1 hc3
    refine JT_aload_n (q := 0) dX12_bestPack_128 rfl rfl ?_
    refine JS_getI dX12_bestPack_129 flX12_419 BS_248 (Nat.le_of_ble_eq_true rfl) (Nat.le_of_ble_eq_true rfl) (Or.inl ct_12_45) ?_
    refine JT_iconst (v := 1) dX12_bestPack_132 ic_1 ?_
    refine JT_isub dX12_bestPack_133 ?_
    refine JT_istore (lv' := [(6, .int ((gI s 248 45) - (1 : Int32))), (0, .ref 248), (1, .int a1), (2, .int a2), (3, .int a3), (4, .int a4), (5, .int a5)]) dX12_bestPack_134 (Nat.le_of_ble_eq_true rfl) rfl ?_
    exact JT_sub [1, 2, 3, 4, 5, 6, 0] rfl h
  · have h := h.2 hc3
    refine JT_aload_n (q := 0) dX12_bestPack_108 rfl rfl ?_
    refine JS_getR (x := 267) dX12_bestPack_109 flX12_86 BS_248 (Nat.le_of_ble_eq_true rfl) (Nat.le_of_ble_eq_true rfl) (Or.inr ⟨_, ct_12_42⟩) RF_248_42 ?_
    refine JT_iload (q := 6) dX12_bestPack_112 rfl ?_
    refine JT_aload_n (q := 0) dX12_bestPack_114 rfl rfl ?_
    refine JS_getR (x := 266) dX12_bestPack_115 flX12_83 BS_248 (Nat.le_of_ble_eq_true rfl) (Nat.le_of_ble_eq_true rfl) (Or.inr ⟨_, ct_12_41⟩) RF_248_41 ?_
    refine JT_iload (q := 6) dX12_bestPack_118 rfl ?_
    obtain ⟨o1, h⟩ := h
    refine JS_iald dX12_bestPack_120 BS_266 (Nat.le_of_ble_eq_true rfl) (Nat.le_of_ble_eq_true rfl) o1 ?_
    obtain ⟨o2, h⟩ := h
    refine JS_iast dX12_bestPack_121 BS_267 (Nat.le_of_ble_eq_true rfl) (Nat.le_of_ble_eq_true rfl) o2 ?_
    refine JT_iinc (q := 6) (v := (a6 + 1)) (lv' := [(6, .int (a6 + 1)), (0, .ref 248), (1, .int a1), (2, .int a2), (3, .int a3), (4, .int a4), (5, .int a5)]) dX12_bestPack_122 rfl (by rfl) (Nat.le_of_ble_eq_true rfl) rfl ?_
    refine JT_goto (tgt := 99) dX12_bestPack_125 (by decide) ?_
    exact JT_sub [1, 2, 3, 4, 5, 6, 0] rfl h
set_option maxRecDepth 1000000 in
theorem bX12_bestPack_136 (a1 : Int32) (a2 : Int32) (a3 : Int32) (a4 : Int32) (a5 : Int32) (a6 : Int32) {s : SM} {Q : Int32 → SM → Prop} (h : ((a6 < 0 → BI MX12_bestPack 4 166 [(0, .ref 248), (1, .int a1), (2, .int a2), (3, .int a3), (4, .int a4), (5, .int a5), (6, .int a6)] s Q) ∧ (¬ a6 < 0 → vp_in a6 6 ∧ ((¬ (gI s 266 (a6).toNatClampNeg) = (4 : Int32) → BI MX12_bestPack 4 166 [(0, .ref 248), (1, .int a1), (2, .int a2), (3, .int a3), (4, .int a4), (5, .int a5), (6, .int a6)] s Q) ∧ ((gI s 266 (a6).toNatClampNeg) = (4 : Int32) → vp_in a6 6 ∧ BI MX12_bestPack 4 136 [(0, .ref 248), (1, .int a1), (2, .int a2), (3, .int a3), (4, .int a4), (5, .int a5), (6, .int (a6 + (-1)))] (pI s 266 (a6).toNatClampNeg (0 : Int32)) Q))))) : BI MX12_bestPack 4 136 [(0, .ref 248), (1, .int a1), (2, .int a2), (3, .int a3), (4, .int a4), (5, .int a5), (6, .int a6)] s Q := by
  refine JT_iload (q := 6) dX12_bestPack_136 rfl ?_
  refine JT_if_lt (tgt := 166) dX12_bestPack_138 (by decide) (fun hc4 => ?_) (fun hc4 => ?_)
  · have h := h.1 hc4
    exact JT_sub [0, 1, 2, 3, 4, 5, 6] rfl h
  · have h := h.2 hc4
    refine JT_aload_n (q := 0) dX12_bestPack_141 rfl rfl ?_
    refine JS_getR (x := 266) dX12_bestPack_142 flX12_83 BS_248 (Nat.le_of_ble_eq_true rfl) (Nat.le_of_ble_eq_true rfl) (Or.inr ⟨_, ct_12_41⟩) RF_248_41 ?_
    refine JT_iload (q := 6) dX12_bestPack_145 rfl ?_
    obtain ⟨o1, h⟩ := h
    refine JS_iald dX12_bestPack_147 BS_266 (Nat.le_of_ble_eq_true rfl) (Nat.le_of_ble_eq_true rfl) o1 ?_
    refine JT_iconst (v := 4) dX12_bestPack_148 ic_4 ?_
    refine JT_icmp_ne (tgt := 166) dX12_bestPack_149 (by decide) (fun hc3 => ?_) (fun hc3 => ?_)
    · have h := h.1 hc3
      exact JT_sub [0, 1, 2, 3, 4, 5, 6] rfl h
    · have h := h.2 hc3
      refine JT_aload_n (q := 0) dX12_bestPack_152 rfl rfl ?_
      refine JS_getR (x := 266) dX12_bestPack_153 flX12_83 BS_248 (Nat.le_of_ble_eq_true rfl) (Nat.le_of_ble_eq_true rfl) (Or.inr ⟨_, ct_12_41⟩) RF_248_41 ?_
      refine JT_iload (q := 6) dX12_bestPack_156 rfl ?_
      refine JT_iconst (v := 0) dX12_bestPack_158 ic_0 ?_
      obtain ⟨o2, h⟩ := h
      refine JS_iast dX12_bestPack_159 BS_266 (Nat.le_of_ble_eq_true rfl) (Nat.le_of_ble_eq_true rfl) o2 ?_
      refine JT_iinc (q := 6) (v := (a6 + (-1))) (lv' := [(6, .int (a6 + (-1))), (0, .ref 248), (1, .int a1), (2, .int a2), (3, .int a3), (4, .int a4), (5, .int a5)]) dX12_bestPack_160 rfl (by rfl) (Nat.le_of_ble_eq_true rfl) rfl ?_
      refine JT_goto (tgt := 136) dX12_bestPack_163 (by decide) ?_
      exact JT_sub [1, 2, 3, 4, 5, 6, 0] rfl h
set_option maxRecDepth 1000000 in
theorem bX12_bestPack_166 (a1 : Int32) (a2 : Int32) (a3 : Int32) (a4 : Int32) (a5 : Int32) (a6 : Int32) {s : SM} {Q : Int32 → SM → Prop} (h : (((if a6 < 0 then (0 : Int32) else (1 : Int32)) = 0 → BI MX12_bestPack 4 31 [(0, .ref 248), (1, .int a1), (2, .int a2), (3, .int a3), (4, .int (if a6 < 0 then (0 : Int32) else (1 : Int32)))] s Q) ∧ (¬ (if a6 < 0 then (0 : Int32) else (1 : Int32)) = 0 → vp_in a6 6 ∧ vp_in a6 6 ∧ BI MX12_bestPack 4 31 [(0, .ref 248), (1, .int a1), (2, .int a2), (3, .int a3), (4, .int (if a6 < 0 then (0 : Int32) else (1 : Int32)))] (pI s 266 (a6).toNatClampNeg ((gI s 266 (a6).toNatClampNeg) + (1 : Int32))) Q))) : BI MX12_bestPack 4 166 [(0, .ref 248), (1, .int a1), (2, .int a2), (3, .int a3), (4, .int a4), (5, .int a5), (6, .int a6)] s Q := by
  refine JT_iload (q := 6) dX12_bestPack_166 rfl ?_
  have hj4 : ∀ v : Int32, v = (if a6 < 0 then (0 : Int32) else (1 : Int32)) → JT MX12_bestPack 4 0 0 176 [(0, .ref 248), (1, .int a1), (2, .int a2), (3, .int a3), (4, .int a4), (5, .int a5), (6, .int a6)] [.int v] (std s) (KQ Q) := by
    intro v hv
    subst hv
    refine JT_istore (lv' := [(4, .int (if a6 < 0 then (0 : Int32) else (1 : Int32))), (0, .ref 248), (1, .int a1), (2, .int a2), (3, .int a3), (5, .int a5), (6, .int a6)]) dX12_bestPack_176 (Nat.le_of_ble_eq_true rfl) rfl ?_
    refine JT_iload (q := 0) dX12_bestPack_178 rfl ?_
    refine JT_if_eq (tgt := 194) dX12_bestPack_180 (by decide) (fun hc3 => ?_) (fun hc3 => ?_)
    · have h := h.1 hc3
      refine JT_goto (tgt := 31) dX12_bestPack_194 (by decide) ?_
      exact JT_sub [1, 2, 3, 4, 0] rfl h
    · have h := h.2 hc3
      refine JT_aload_n (q := 1) dX12_bestPack_183 rfl rfl ?_
      refine JS_getR (x := 266) dX12_bestPack_184 flX12_83 BS_248 (Nat.le_of_ble_eq_true rfl) (Nat.le_of_ble_eq_true rfl) (Or.inr ⟨_, ct_12_41⟩) RF_248_41 ?_
      refine JT_iload (q := 6) dX12_bestPack_187 rfl ?_
      refine JT_dup2 dX12_bestPack_189 rfl rfl ?_
      obtain ⟨o1, h⟩ := h
      refine JS_iald dX12_bestPack_190 BS_266 (Nat.le_of_ble_eq_true rfl) (Nat.le_of_ble_eq_true rfl) o1 ?_
      refine JT_iconst (v := 1) dX12_bestPack_191 ic_1 ?_
      refine JT_iadd dX12_bestPack_192 ?_
      obtain ⟨o2, h⟩ := h
      refine JS_iast dX12_bestPack_193 BS_266 (Nat.le_of_ble_eq_true rfl) (Nat.le_of_ble_eq_true rfl) o2 ?_
      refine JT_goto (tgt := 31) dX12_bestPack_194 (by decide) ?_
      exact JT_sub [1, 2, 3, 4, 0] rfl h
  refine JT_if_lt (tgt := 175) dX12_bestPack_168 (by decide) (fun hc5 => ?_) (fun hc5 => ?_)
  · refine JT_iconst (v := 0) dX12_bestPack_175 ic_0 ?_
    exact hj4 _ (by rw [if_pos hc5])
  · refine JT_iconst (v := 1) dX12_bestPack_171 ic_1 ?_
    refine JT_goto (tgt := 176) dX12_bestPack_172 (by decide) ?_
    exact hj4 _ (by rw [if_neg hc5])
set_option maxRecDepth 1000000 in
theorem bX12_bestPack (a1 : Int32) (a2 : Int32) {s : SM} {Q : Int32 → SM → Prop} (h : BI MX12_bestPack 4 5 [(0, .ref 248), (1, .int a1), (2, .int a2), (3, .int (-1 : Int32)), (4, .int (0 : Int32))] s Q) : KI MX12_bestPack 4 [.ref 248, .int a1, .int a2] s Q := by
  show BI MX12_bestPack 4 0 [(0, .ref 248), (1, .int a1), (2, .int a2)] s Q
  refine JT_iconst (v := -1) dX12_bestPack_0 ic_m1 ?_
  refine JT_istore_n (lv' := [(3, .int (-1 : Int32)), (0, .ref 248), (1, .int a1), (2, .int a2)]) dX12_bestPack_1 rfl (Nat.le_of_ble_eq_true rfl) rfl ?_
  refine JT_iconst (v := 0) dX12_bestPack_2 ic_0 ?_
  refine JT_istore (lv' := [(4, .int (0 : Int32)), (3, .int (-1 : Int32)), (0, .ref 248), (1, .int a1), (2, .int a2)]) dX12_bestPack_3 (Nat.le_of_ble_eq_true rfl) rfl ?_
  exact JT_sub [2, 3, 4, 1, 0] rfl h
set_option maxRecDepth 1000000 in
theorem gX12_bestPack  : ∀ n : Nat, (∀ (a1 : Int32) (a2 : Int32) (a3 : Int32) (a4 : Int32) (s : SM) (Q : Int32 → SM → Prop), ((qX12_bestPack n).1 s a1 a2 a3 a4) → Q ((lX12_bestPack n).1 s a1 a2 a3 a4).1 ((lX12_bestPack n).1 s a1 a2 a3 a4).2 → BI MX12_bestPack 4 5 [(0, .ref 248), (1, .int a1), (2, .int a2), (3, .int a3), (4, .int a4)] s Q) ∧ (∀ (a1 : Int32) (a2 : Int32) (a3 : Int32) (a4 : Int32) (s : SM) (Q : Int32 → SM → Prop), ((qX12_bestPack n).2.1 s a1 a2 a3 a4) → Q ((lX12_bestPack n).2.1 s a1 a2 a3 a4).1 ((lX12_bestPack n).2.1 s a1 a2 a3 a4).2 → BI MX12_bestPack 4 31 [(0, .ref 248), (1, .int a1), (2, .int a2), (3, .int a3), (4, .int a4)] s Q) ∧ (∀ (a1 : Int32) (a2 : Int32) (a3 : Int32) (a4 : Int32) (a5 : Int32) (a6 : Int32) (s : SM) (Q : Int32 → SM → Prop), ((qX12_bestPack n).2.2.1 s a1 a2 a3 a4 a5 a6) → Q ((lX12_bestPack n).2.2.1 s a1 a2 a3 a4 a5 a6).1 ((lX12_bestPack n).2.2.1 s a1 a2 a3 a4 a5 a6).2 → BI MX12_bestPack 4 42 [(0, .ref 248), (1, .int a1), (2, .int a2), (3, .int a3), (4, .int a4), (5, .int a5), (6, .int a6)] s Q) ∧ (∀ (a1 : Int32) (a2 : Int32) (a3 : Int32) (a4 : Int32) (a5 : Int32) (a6 : Int32) (s : SM) (Q : Int32 → SM → Prop), ((qX12_bestPack n).2.2.2.1 s a1 a2 a3 a4 a5 a6) → Q ((lX12_bestPack n).2.2.2.1 s a1 a2 a3 a4 a5 a6).1 ((lX12_bestPack n).2.2.2.1 s a1 a2 a3 a4 a5 a6).2 → BI MX12_bestPack 4 99 [(0, .ref 248), (1, .int a1), (2, .int a2), (3, .int a3), (4, .int a4), (5, .int a5), (6, .int a6)] s Q) ∧ (∀ (a1 : Int32) (a2 : Int32) (a3 : Int32) (a4 : Int32) (a5 : Int32) (a6 : Int32) (s : SM) (Q : Int32 → SM → Prop), ((qX12_bestPack n).2.2.2.2.1 s a1 a2 a3 a4 a5 a6) → Q ((lX12_bestPack n).2.2.2.2.1 s a1 a2 a3 a4 a5 a6).1 ((lX12_bestPack n).2.2.2.2.1 s a1 a2 a3 a4 a5 a6).2 → BI MX12_bestPack 4 136 [(0, .ref 248), (1, .int a1), (2, .int a2), (3, .int a3), (4, .int a4), (5, .int a5), (6, .int a6)] s Q) ∧ (∀ (a1 : Int32) (a2 : Int32) (a3 : Int32) (a4 : Int32) (a5 : Int32) (a6 : Int32) (s : SM) (Q : Int32 → SM → Prop), ((qX12_bestPack n).2.2.2.2.2 s a1 a2 a3 a4 a5 a6) → Q ((lX12_bestPack n).2.2.2.2.2 s a1 a2 a3 a4 a5 a6).1 ((lX12_bestPack n).2.2.2.2.2 s a1 a2 a3 a4 a5 a6).2 → BI MX12_bestPack 4 166 [(0, .ref 248), (1, .int a1), (2, .int a2), (3, .int a3), (4, .int a4), (5, .int a5), (6, .int a6)] s Q) := by
  intro n
  induction n with
  | zero => exact ⟨fun _ _ _ _ _ _ hq _ => absurd hq id, fun _ _ _ _ _ _ hq _ => absurd hq id, fun _ _ _ _ _ _ _ _ hq _ => absurd hq id, fun _ _ _ _ _ _ _ _ hq _ => absurd hq id, fun _ _ _ _ _ _ _ _ hq _ => absurd hq id, fun _ _ _ _ _ _ _ _ hq _ => absurd hq id⟩
  | succ n ih =>
    refine ⟨?_, ?_, ?_, ?_, ?_, ?_⟩
    · intro a1 a2 a3 a4 s Q hr h
      replace hr : uX12_bestPack_5 (qX12_bestPack n) s a1 a2 a3 a4 := hr
      replace h : Q (tX12_bestPack_5 (lX12_bestPack n) s a1 a2 a3 a4).1 (tX12_bestPack_5 (lX12_bestPack n) s a1 a2 a3 a4).2 := h
      unfold uX12_bestPack_5 at hr
      unfold tX12_bestPack_5 at h
      refine bX12_bestPack_5 a1 a2 a3 a4 ?_
      refine ⟨fun c => ?_, fun c => ?_⟩
      · replace hr := hr.1 c
        replace h := q3p c h
        first | exact ih.2.1 a1 a2 a3 (1 : Int32) _ Q hr h | contradiction
      · replace hr := hr.2 c
        replace h := q3n c h
        refine ⟨hr.1, ?_⟩
        replace hr := hr.2
        first | exact ih.1 a1 a2 a3 (a4 + 1) _ Q hr h | contradiction
    · intro a1 a2 a3 a4 s Q hr h
      replace hr : uX12_bestPack_31 (qX12_bestPack n) s a1 a2 a3 a4 := hr
      replace h : Q (tX12_bestPack_31 (lX12_bestPack n) s a1 a2 a3 a4).1 (tX12_bestPack_31 (lX12_bestPack n) s a1 a2 a3 a4).2 := h
      unfold uX12_bestPack_31 at hr
      unfold tX12_bestPack_31 at h
      refine bX12_bestPack_31 a1 a2 a3 a4 ?_
      refine ⟨fun c => ?_, fun c => ?_⟩
      · replace h := q3p c h
        first | exact h | contradiction
      · replace hr := hr c
        replace h := q3n c h
        first | exact ih.2.2.1 a1 a2 a3 a4 (0 : Int32) (0 : Int32) _ Q hr h | contradiction
    · intro a1 a2 a3 a4 a5 a6 s Q hr h
      replace hr : uX12_bestPack_42 (qX12_bestPack n) s a1 a2 a3 a4 a5 a6 := hr
      replace h : Q (tX12_bestPack_42 (lX12_bestPack n) s a1 a2 a3 a4 a5 a6).1 (tX12_bestPack_42 (lX12_bestPack n) s a1 a2 a3 a4 a5 a6).2 := h
      unfold uX12_bestPack_42 at hr
      unfold tX12_bestPack_42 at h
      refine bX12_bestPack_42 a1 a2 a3 a4 a5 a6 ?_
      refine ⟨fun c => ?_, fun c => ?_⟩
      · replace hr := hr.1 c
        replace h := q3p c h
        refine ⟨fun c => ?_, fun c => ?_⟩
        · replace hr := hr.1 c
          replace h := q3p c h
          first | exact ih.2.2.2.2.1 a1 a2 a3 a4 a5 ((gI s 248 45) - (1 : Int32)) _ Q hr h | contradiction
        · replace hr := hr.2 c
          replace h := q3n c h
          refine ⟨hr.1, ?_⟩
          replace hr := hr.2
          refine ⟨fun c => ?_, fun c => ?_⟩
          · replace hr := hr.1 c
            replace h := q3p c h
            first | exact ih.2.2.2.2.1 a1 a2 a3 a4 a5 ((gI (mX12_arePacked s a1 a2) 248 45) - (1 : Int32)) _ Q hr h | contradiction
          · replace hr := hr.2 c
            replace h := q3n c h
            first | exact ih.2.2.2.1 a1 a2 a5 a4 a5 (0 : Int32) _ Q hr h | contradiction
      · replace hr := hr.2 c
        replace h := q3n c h
        refine ⟨hr.1, ?_⟩
        replace hr := hr.2
        first | exact ih.2.2.1 a1 a2 a3 a4 (a5 + (if (4 : Int32) ≤ (gI s 266 (a6).toNatClampNeg) then (0 : Int32) else (1 : Int32))) (a6 + 1) _ Q hr h | contradiction
    · intro a1 a2 a3 a4 a5 a6 s Q hr h
      replace hr : uX12_bestPack_99 (qX12_bestPack n) s a1 a2 a3 a4 a5 a6 := hr
      replace h : Q (tX12_bestPack_99 (lX12_bestPack n) s a1 a2 a3 a4 a5 a6).1 (tX12_bestPack_99 (lX12_bestPack n) s a1 a2 a3 a4 a5 a6).2 := h
      unfold uX12_bestPack_99 at hr
      unfold tX12_bestPack_99 at h
      refine bX12_bestPack_99 a1 a2 a3 a4 a5 a6 ?_
      refine ⟨fun c => ?_, fun c => ?_⟩
      · replace hr := hr.1 c
        replace h := q3p c h
        first | exact ih.2.2.2.2.1 a1 a2 a3 a4 a5 ((gI s 248 45) - (1 : Int32)) _ Q hr h | contradiction
      · replace hr := hr.2 c
        replace h := q3n c h
        refine ⟨hr.1, ?_⟩
        replace hr := hr.2
        refine ⟨hr.1, ?_⟩
        replace hr := hr.2
        first | exact ih.2.2.2.1 a1 a2 a3 a4 a5 (a6 + 1) _ Q hr h | contradiction
    · intro a1 a2 a3 a4 a5 a6 s Q hr h
      replace hr : uX12_bestPack_136 (qX12_bestPack n) s a1 a2 a3 a4 a5 a6 := hr
      replace h : Q (tX12_bestPack_136 (lX12_bestPack n) s a1 a2 a3 a4 a5 a6).1 (tX12_bestPack_136 (lX12_bestPack n) s a1 a2 a3 a4 a5 a6).2 := h
      unfold uX12_bestPack_136 at hr
      unfold tX12_bestPack_136 at h
      refine bX12_bestPack_136 a1 a2 a3 a4 a5 a6 ?_
      refine ⟨fun c => ?_, fun c => ?_⟩
      · replace hr := hr.1 c
        replace h := q3p c h
        first | exact ih.2.2.2.2.2 a1 a2 a3 a4 a5 a6 _ Q hr h | contradiction
      · replace hr := hr.2 c
        replace h := q3n c h
        refine ⟨hr.1, ?_⟩
        replace hr := hr.2
        refine ⟨fun c => ?_, fun c => ?_⟩
        · replace hr := hr.1 c
          replace h := q3n c h
          first | exact ih.2.2.2.2.2 a1 a2 a3 a4 a5 a6 _ Q hr h | contradiction
        · replace hr := hr.2 c
          replace h := q3p c h
          refine ⟨hr.1, ?_⟩
          replace hr := hr.2
          first | exact ih.2.2.2.2.1 a1 a2 a3 a4 a5 (a6 + (-1)) _ Q hr h | contradiction
    · intro a1 a2 a3 a4 a5 a6 s Q hr h
      replace hr : uX12_bestPack_166 (qX12_bestPack n) s a1 a2 a3 a4 a5 a6 := hr
      replace h : Q (tX12_bestPack_166 (lX12_bestPack n) s a1 a2 a3 a4 a5 a6).1 (tX12_bestPack_166 (lX12_bestPack n) s a1 a2 a3 a4 a5 a6).2 := h
      unfold uX12_bestPack_166 at hr
      unfold tX12_bestPack_166 at h
      refine bX12_bestPack_166 a1 a2 a3 a4 a5 a6 ?_
      refine ⟨fun c => ?_, fun c => ?_⟩
      · replace hr := hr.1 c
        replace h := q3p c h
        first | exact ih.2.1 a1 a2 a3 (if a6 < 0 then (0 : Int32) else (1 : Int32)) _ Q hr h | contradiction
      · replace hr := hr.2 c
        replace h := q3n c h
        refine ⟨hr.1, ?_⟩
        replace hr := hr.2
        refine ⟨hr.1, ?_⟩
        replace hr := hr.2
        first | exact ih.2.1 a1 a2 a3 (if a6 < 0 then (0 : Int32) else (1 : Int32)) _ Q hr h | contradiction
set_option maxRecDepth 1000000 in
theorem pX12_bestPack (a1 : Int32) (a2 : Int32) {s : SM} {Q : Int32 → SM → Prop} (hr : rX12_bestPack s a1 a2) (h : Q (vX12_bestPack s a1 a2) (mX12_bestPack s a1 a2)) : KI MX12_bestPack 4 [.ref 248, .int a1, .int a2] s Q := by
  replace h : Q (fX12_bestPack s a1 a2).1 (fX12_bestPack s a1 a2).2 := h
  unfold rX12_bestPack at hr
  unfold fX12_bestPack at h
  refine bX12_bestPack a1 a2 ?_
  first | exact (gX12_bestPack  FU).1 a1 a2 (-1 : Int32) (0 : Int32) _ Q hr h | contradiction
set_option maxRecDepth 1000000 in
theorem bX12_body (a1 : Int32) (a2 : Int32) {s : SM} {Q : Int32 → SM → Prop} (h : (((vX12_isBody s a1) = 0 → rX12_throwsIf s (1 : Int32) ∧ (((vX12_throwsIf s (1 : Int32)) = 0 → ((a2 = 0 → vp_in ((4 : Int32) + a1) 787 ∧ Q (gI (mX12_throwsIf s (1 : Int32)) 250 (((4 : Int32) + a1)).toNatClampNeg) (mX12_throwsIf s (1 : Int32))) ∧ (a2 = 1 → vp_in ((13 : Int32) + a1) 787 ∧ Q (gI (mX12_throwsIf s (1 : Int32)) 250 (((13 : Int32) + a1)).toNatClampNeg) (mX12_throwsIf s (1 : Int32))) ∧ (a2 = 2 → Q (if (vX12_isLiving (mX12_throwsIf s (1 : Int32)) a1) = 0 then (0 : Int32) else (1 : Int32)) (mX12_throwsIf s (1 : Int32))) ∧ (a2 = 3 → rX12_leftOf (mX12_throwsIf s (1 : Int32)) a1 ∧ Q (vX12_leftOf (mX12_throwsIf s (1 : Int32)) a1) (mX12_throwsIf s (1 : Int32))) ∧ (a2 = 4 → rX12_netOf (mX12_throwsIf s (1 : Int32)) a1 ∧ Q (vX12_netOf (mX12_throwsIf s (1 : Int32)) a1) (mX12_throwsIf s (1 : Int32))) ∧ (a2 = 5 → rX12_marksOn (mX12_throwsIf s (1 : Int32)) a1 (99 : Int32) ∧ Q (vX12_marksOn (mX12_throwsIf s (1 : Int32)) a1 (99 : Int32)) (mX12_throwsIf s (1 : Int32))) ∧ ((a2.toInt < 0 ∨ 5 < a2.toInt) → vp_in ((37 : Int32) + a1) 787 ∧ Q (gI (mX12_throwsIf s (1 : Int32)) 250 (((37 : Int32) + a1)).toNatClampNeg) (mX12_throwsIf s (1 : Int32))))) ∧ (¬ (vX12_throwsIf s (1 : Int32)) = 0 → Q (0 : Int32) (mX12_throwsIf s (1 : Int32))))) ∧ (¬ (vX12_isBody s a1) = 0 → rX12_throwsIf s (if (vX12_isIn s a2 (0 : Int32) (6 : Int32)) = 0 then (1 : Int32) else (0 : Int32)) ∧ (((vX12_throwsIf s (if (vX12_isIn s a2 (0 : Int32) (6 : Int32)) = 0 then (1 : Int32) else (0 : Int32))) = 0 → ((a2 = 0 → vp_in ((4 : Int32) + a1) 787 ∧ Q (gI (mX12_throwsIf s (if (vX12_isIn s a2 (0 : Int32) (6 : Int32)) = 0 then (1 : Int32) else (0 : Int32))) 250 (((4 : Int32) + a1)).toNatClampNeg) (mX12_throwsIf s (if (vX12_isIn s a2 (0 : Int32) (6 : Int32)) = 0 then (1 : Int32) else (0 : Int32)))) ∧ (a2 = 1 → vp_in ((13 : Int32) + a1) 787 ∧ Q (gI (mX12_throwsIf s (if (vX12_isIn s a2 (0 : Int32) (6 : Int32)) = 0 then (1 : Int32) else (0 : Int32))) 250 (((13 : Int32) + a1)).toNatClampNeg) (mX12_throwsIf s (if (vX12_isIn s a2 (0 : Int32) (6 : Int32)) = 0 then (1 : Int32) else (0 : Int32)))) ∧ (a2 = 2 → Q (if (vX12_isLiving (mX12_throwsIf s (if (vX12_isIn s a2 (0 : Int32) (6 : Int32)) = 0 then (1 : Int32) else (0 : Int32))) a1) = 0 then (0 : Int32) else (1 : Int32)) (mX12_throwsIf s (if (vX12_isIn s a2 (0 : Int32) (6 : Int32)) = 0 then (1 : Int32) else (0 : Int32)))) ∧ (a2 = 3 → rX12_leftOf (mX12_throwsIf s (if (vX12_isIn s a2 (0 : Int32) (6 : Int32)) = 0 then (1 : Int32) else (0 : Int32))) a1 ∧ Q (vX12_leftOf (mX12_throwsIf s (if (vX12_isIn s a2 (0 : Int32) (6 : Int32)) = 0 then (1 : Int32) else (0 : Int32))) a1) (mX12_throwsIf s (if (vX12_isIn s a2 (0 : Int32) (6 : Int32)) = 0 then (1 : Int32) else (0 : Int32)))) ∧ (a2 = 4 → rX12_netOf (mX12_throwsIf s (if (vX12_isIn s a2 (0 : Int32) (6 : Int32)) = 0 then (1 : Int32) else (0 : Int32))) a1 ∧ Q (vX12_netOf (mX12_throwsIf s (if (vX12_isIn s a2 (0 : Int32) (6 : Int32)) = 0 then (1 : Int32) else (0 : Int32))) a1) (mX12_throwsIf s (if (vX12_isIn s a2 (0 : Int32) (6 : Int32)) = 0 then (1 : Int32) else (0 : Int32)))) ∧ (a2 = 5 → rX12_marksOn (mX12_throwsIf s (if (vX12_isIn s a2 (0 : Int32) (6 : Int32)) = 0 then (1 : Int32) else (0 : Int32))) a1 (99 : Int32) ∧ Q (vX12_marksOn (mX12_throwsIf s (if (vX12_isIn s a2 (0 : Int32) (6 : Int32)) = 0 then (1 : Int32) else (0 : Int32))) a1 (99 : Int32)) (mX12_throwsIf s (if (vX12_isIn s a2 (0 : Int32) (6 : Int32)) = 0 then (1 : Int32) else (0 : Int32)))) ∧ ((a2.toInt < 0 ∨ 5 < a2.toInt) → vp_in ((37 : Int32) + a1) 787 ∧ Q (gI (mX12_throwsIf s (if (vX12_isIn s a2 (0 : Int32) (6 : Int32)) = 0 then (1 : Int32) else (0 : Int32))) 250 (((37 : Int32) + a1)).toNatClampNeg) (mX12_throwsIf s (if (vX12_isIn s a2 (0 : Int32) (6 : Int32)) = 0 then (1 : Int32) else (0 : Int32)))))) ∧ (¬ (vX12_throwsIf s (if (vX12_isIn s a2 (0 : Int32) (6 : Int32)) = 0 then (1 : Int32) else (0 : Int32))) = 0 → Q (0 : Int32) (mX12_throwsIf s (if (vX12_isIn s a2 (0 : Int32) (6 : Int32)) = 0 then (1 : Int32) else (0 : Int32)))))))) : KI MX12_body 4 [.ref 248, .int a1, .int a2] s Q := by
  show BI MX12_body 4 0 [(0, .ref 248), (1, .int a1), (2, .int a2)] s Q
  refine JT_aload_n (q := 0) dX12_body_0 rfl rfl ?_
  refine JT_aload_n (q := 0) dX12_body_1 rfl rfl ?_
  refine JT_iload_n (q := 1) dX12_body_2 rfl rfl ?_
  refine JS_callVI (M' := MX12_isBody) (d' := 1) (As := [.int a1]) (rest := [.ref 248]) (P := (fun zv9 wm9 => (vX12_isBody s a1) = zv9 ∧ s = wm9)) dX12_body_3 cvX12_287 okX12_isBody rfl (Nat.le_of_ble_eq_true rfl) BS_248 (Nat.le_of_ble_eq_true rfl) (Nat.le_of_ble_eq_true rfl) hci_12 (Nat.le_of_ble_eq_true rfl) (Nat.le_of_ble_eq_true rfl) (pX12_isBody  (a1)  ⟨rfl, rfl⟩) (fun zv9 wm9 hq9 => ?_)
  obtain ⟨rfl, rfl⟩ := hq9
  refine JT_if_eq (tgt := 19) dX12_body_6 (by decide) (fun hc30 => ?_) (fun hc30 => ?_)
  · have h := h.1 hc30
    refine JT_iconst (v := 1) dX12_body_19 ic_1 ?_
    refine JT_goto (tgt := 24) dX12_body_20 (by decide) ?_
    obtain ⟨o13, h⟩ := h
    refine JS_callVI (M' := MX12_throwsIf) (d' := 0) (As := [.int (1 : Int32)]) (rest := []) (P := (fun zv9 wm9 => (vX12_throwsIf s (1 : Int32)) = zv9 ∧ (mX12_throwsIf s (1 : Int32)) = wm9)) dX12_body_24 cvX12_290 okX12_throwsIf rfl (Nat.le_of_ble_eq_true rfl) BS_248 (Nat.le_of_ble_eq_true rfl) (Nat.le_of_ble_eq_true rfl) hci_12 (Nat.le_of_ble_eq_true rfl) (Nat.le_of_ble_eq_true rfl) (pX12_throwsIf  ((1 : Int32)) o13 ⟨rfl, rfl⟩) (fun zv9 wm9 hq9 => ?_)
    obtain ⟨rfl, rfl⟩ := hq9
    refine JT_if_eq (tgt := 32) dX12_body_27 (by decide) (fun hc12 => ?_) (fun hc12 => ?_)
    · have h := h.1 hc12
      refine JT_iload_n (q := 2) dX12_body_32 rfl rfl ?_
      by_cases ho1 : (a2).toInt < 0 ∨ 5 < (a2).toInt
      · have h := h.2.2.2.2.2.2 ho1
        refine JT_tableOut (tgt := 125) dX12_body_33 ho1 (by decide) ?_
        refine JT_aload_n (q := 0) dX12_body_125 rfl rfl ?_
        refine JS_getR (x := 250) dX12_body_126 flX12_33 BS_248 (Nat.le_of_ble_eq_true rfl) (Nat.le_of_ble_eq_true rfl) (Or.inr ⟨_, ct_12_6⟩) RF_248_6 ?_
        refine JT_bipush (v := 37) dX12_body_129 bp_37 ?_
        refine JT_iload_n (q := 1) dX12_body_131 rfl rfl ?_
        refine JT_iadd dX12_body_132 ?_
        obtain ⟨o2, h⟩ := h
        refine JS_iald dX12_body_133 BS_250 (Nat.le_of_ble_eq_true rfl) (Nat.le_of_ble_eq_true rfl) o2 ?_
        exact JS_iret dX12_body_134 rfl rfl h
      · have hk11 : (a2).toInt = 0 ∨ (a2).toInt = 1 ∨ (a2).toInt = 2 ∨ (a2).toInt = 3 ∨ (a2).toInt = 4 ∨ (a2).toInt = 5 := by omega
        rcases hk11 with hk11 | hk11 | hk11 | hk11 | hk11 | hk11
        · have h := h.1 (i32_of_toInt hk11)
          refine JT_tableIn (tgt := 72) dX12_body_33 (by omega) (by omega) (by rw [hk11]; rfl) (by decide) ?_
          refine JT_aload_n (q := 0) dX12_body_72 rfl rfl ?_
          refine JS_getR (x := 250) dX12_body_73 flX12_33 BS_248 (Nat.le_of_ble_eq_true rfl) (Nat.le_of_ble_eq_true rfl) (Or.inr ⟨_, ct_12_6⟩) RF_248_6 ?_
          refine JT_iconst (v := 4) dX12_body_76 ic_4 ?_
          refine JT_iload_n (q := 1) dX12_body_77 rfl rfl ?_
          refine JT_iadd dX12_body_78 ?_
          obtain ⟨o3, h⟩ := h
          refine JS_iald dX12_body_79 BS_250 (Nat.le_of_ble_eq_true rfl) (Nat.le_of_ble_eq_true rfl) o3 ?_
          exact JS_iret dX12_body_80 rfl rfl h
        · have h := h.2.1 (i32_of_toInt hk11)
          refine JT_tableIn (tgt := 81) dX12_body_33 (by omega) (by omega) (by rw [hk11]; rfl) (by decide) ?_
          refine JT_aload_n (q := 0) dX12_body_81 rfl rfl ?_
          refine JS_getR (x := 250) dX12_body_82 flX12_33 BS_248 (Nat.le_of_ble_eq_true rfl) (Nat.le_of_ble_eq_true rfl) (Or.inr ⟨_, ct_12_6⟩) RF_248_6 ?_
          refine JT_bipush (v := 13) dX12_body_85 bp_13 ?_
          refine JT_iload_n (q := 1) dX12_body_87 rfl rfl ?_
          refine JT_iadd dX12_body_88 ?_
          obtain ⟨o4, h⟩ := h
          refine JS_iald dX12_body_89 BS_250 (Nat.le_of_ble_eq_true rfl) (Nat.le_of_ble_eq_true rfl) o4 ?_
          exact JS_iret dX12_body_90 rfl rfl h
        · have h := h.2.2.1 (i32_of_toInt hk11)
          refine JT_tableIn (tgt := 91) dX12_body_33 (by omega) (by omega) (by rw [hk11]; rfl) (by decide) ?_
          refine JT_aload_n (q := 0) dX12_body_91 rfl rfl ?_
          refine JT_iload_n (q := 1) dX12_body_92 rfl rfl ?_
          refine JS_callVI (M' := MX12_isLiving) (d' := 1) (As := [.int a1]) (rest := []) (P := (fun zv9 wm9 => (vX12_isLiving (mX12_throwsIf s (1 : Int32)) a1) = zv9 ∧ (mX12_throwsIf s (1 : Int32)) = wm9)) dX12_body_93 cvX12_294 okX12_isLiving rfl (Nat.le_of_ble_eq_true rfl) BS_248 (Nat.le_of_ble_eq_true rfl) (Nat.le_of_ble_eq_true rfl) hci_12 (Nat.le_of_ble_eq_true rfl) (Nat.le_of_ble_eq_true rfl) (pX12_isLiving  (a1)  ⟨rfl, rfl⟩) (fun zv9 wm9 hq9 => ?_)
          obtain ⟨rfl, rfl⟩ := hq9
          have hj5 : ∀ v : Int32, v = (if (vX12_isLiving (mX12_throwsIf s (1 : Int32)) a1) = 0 then (0 : Int32) else (1 : Int32)) → JT MX12_body 4 0 0 104 [(0, .ref 248), (1, .int a1), (2, .int a2)] [.int v] (std (mX12_throwsIf s (1 : Int32))) (KQ Q) := by
            intro v hv
            subst hv
            exact JS_iret dX12_body_104 rfl rfl h
          refine JT_if_eq (tgt := 103) dX12_body_96 (by decide) (fun hc6 => ?_) (fun hc6 => ?_)
          · refine JT_iconst (v := 0) dX12_body_103 ic_0 ?_
            exact hj5 _ (by rw [if_pos hc6])
          · refine JT_iconst (v := 1) dX12_body_99 ic_1 ?_
            refine JT_goto (tgt := 104) dX12_body_100 (by decide) ?_
            exact hj5 _ (by rw [if_neg hc6])
        · have h := h.2.2.2.1 (i32_of_toInt hk11)
          refine JT_tableIn (tgt := 105) dX12_body_33 (by omega) (by omega) (by rw [hk11]; rfl) (by decide) ?_
          refine JT_aload_n (q := 0) dX12_body_105 rfl rfl ?_
          refine JT_iload_n (q := 1) dX12_body_106 rfl rfl ?_
          obtain ⟨o8, h⟩ := h
          refine JS_callVI (M' := MX12_leftOf) (d' := 2) (As := [.int a1]) (rest := []) (P := (fun zv9 wm9 => (vX12_leftOf (mX12_throwsIf s (1 : Int32)) a1) = zv9 ∧ (mX12_throwsIf s (1 : Int32)) = wm9)) dX12_body_107 cvX12_297 okX12_leftOf rfl (Nat.le_of_ble_eq_true rfl) BS_248 (Nat.le_of_ble_eq_true rfl) (Nat.le_of_ble_eq_true rfl) hci_12 (Nat.le_of_ble_eq_true rfl) (Nat.le_of_ble_eq_true rfl) (pX12_leftOf  (a1) o8 ⟨rfl, rfl⟩) (fun zv9 wm9 hq9 => ?_)
          obtain ⟨rfl, rfl⟩ := hq9
          exact JS_iret dX12_body_110 rfl rfl h
        · have h := h.2.2.2.2.1 (i32_of_toInt hk11)
          refine JT_tableIn (tgt := 111) dX12_body_33 (by omega) (by omega) (by rw [hk11]; rfl) (by decide) ?_
          refine JT_aload_n (q := 0) dX12_body_111 rfl rfl ?_
          refine JT_iload_n (q := 1) dX12_body_112 rfl rfl ?_
          obtain ⟨o9, h⟩ := h
          refine JS_callVI (M' := MX12_netOf) (d' := 3) (As := [.int a1]) (rest := []) (P := (fun zv9 wm9 => (vX12_netOf (mX12_throwsIf s (1 : Int32)) a1) = zv9 ∧ (mX12_throwsIf s (1 : Int32)) = wm9)) dX12_body_113 cvX12_300 okX12_netOf rfl (Nat.le_of_ble_eq_true rfl) BS_248 (Nat.le_of_ble_eq_true rfl) (Nat.le_of_ble_eq_true rfl) hci_12 (Nat.le_of_ble_eq_true rfl) (Nat.le_of_ble_eq_true rfl) (pX12_netOf  (a1) o9 ⟨rfl, rfl⟩) (fun zv9 wm9 hq9 => ?_)
          obtain ⟨rfl, rfl⟩ := hq9
          exact JS_iret dX12_body_116 rfl rfl h
        · have h := h.2.2.2.2.2.1 (i32_of_toInt hk11)
          refine JT_tableIn (tgt := 117) dX12_body_33 (by omega) (by omega) (by rw [hk11]; rfl) (by decide) ?_
          refine JT_aload_n (q := 0) dX12_body_117 rfl rfl ?_
          refine JT_iload_n (q := 1) dX12_body_118 rfl rfl ?_
          refine JT_bipush (v := 99) dX12_body_119 bp_99 ?_
          obtain ⟨o10, h⟩ := h
          refine JS_callVI (M' := MX12_marksOn) (d' := 1) (As := [.int a1, .int (99 : Int32)]) (rest := []) (P := (fun zv9 wm9 => (vX12_marksOn (mX12_throwsIf s (1 : Int32)) a1 (99 : Int32)) = zv9 ∧ (mX12_throwsIf s (1 : Int32)) = wm9)) dX12_body_121 cvX12_303 okX12_marksOn rfl (Nat.le_of_ble_eq_true rfl) BS_248 (Nat.le_of_ble_eq_true rfl) (Nat.le_of_ble_eq_true rfl) hci_12 (Nat.le_of_ble_eq_true rfl) (Nat.le_of_ble_eq_true rfl) (pX12_marksOn  (a1) ((99 : Int32)) o10 ⟨rfl, rfl⟩) (fun zv9 wm9 hq9 => ?_)
          obtain ⟨rfl, rfl⟩ := hq9
          exact JS_iret dX12_body_124 rfl rfl h
    · have h := h.2 hc12
      refine JT_iconst (v := 0) dX12_body_30 ic_0 ?_
      exact JS_iret dX12_body_31 rfl rfl h
  · have h := h.2 hc30
    refine JT_iload_n (q := 2) dX12_body_9 rfl rfl ?_
    refine JT_iconst (v := 0) dX12_body_10 ic_0 ?_
    refine JT_bipush (v := 6) dX12_body_11 bp_6 ?_
    refine JS_callSI (M' := MX12_isIn) (d' := 0) (As := [.int a2, .int (0 : Int32), .int (6 : Int32)]) (rest := [.ref 248]) (P := (fun zv9 wm9 => (vX12_isIn s a2 (0 : Int32) (6 : Int32)) = zv9 ∧ s = wm9)) dX12_body_13 cvX12_202 okX12_isIn rfl (Nat.le_of_ble_eq_true rfl) (Nat.le_of_ble_eq_true rfl) (Nat.le_of_ble_eq_true rfl) (pX12_isIn  (a2) ((0 : Int32)) ((6 : Int32))  ⟨rfl, rfl⟩) (fun zv9 wm9 hq9 => ?_)
    obtain ⟨rfl, rfl⟩ := hq9
    have hj27 : ∀ v : Int32, v = (if (vX12_isIn s a2 (0 : Int32) (6 : Int32)) = 0 then (1 : Int32) else (0 : Int32)) → JT MX12_body 4 0 0 24 [(0, .ref 248), (1, .int a1), (2, .int a2)] [.int v, .ref 248] (std s) (KQ Q) := by
      intro v hv
      subst hv
      obtain ⟨o26, h⟩ := h
      refine JS_callVI (M' := MX12_throwsIf) (d' := 0) (As := [.int (if (vX12_isIn s a2 (0 : Int32) (6 : Int32)) = 0 then (1 : Int32) else (0 : Int32))]) (rest := []) (P := (fun zv9 wm9 => (vX12_throwsIf s (if (vX12_isIn s a2 (0 : Int32) (6 : Int32)) = 0 then (1 : Int32) else (0 : Int32))) = zv9 ∧ (mX12_throwsIf s (if (vX12_isIn s a2 (0 : Int32) (6 : Int32)) = 0 then (1 : Int32) else (0 : Int32))) = wm9)) dX12_body_24 cvX12_290 okX12_throwsIf rfl (Nat.le_of_ble_eq_true rfl) BS_248 (Nat.le_of_ble_eq_true rfl) (Nat.le_of_ble_eq_true rfl) hci_12 (Nat.le_of_ble_eq_true rfl) (Nat.le_of_ble_eq_true rfl) (pX12_throwsIf  ((if (vX12_isIn s a2 (0 : Int32) (6 : Int32)) = 0 then (1 : Int32) else (0 : Int32))) o26 ⟨rfl, rfl⟩) (fun zv9 wm9 hq9 => ?_)
      obtain ⟨rfl, rfl⟩ := hq9
      refine JT_if_eq (tgt := 32) dX12_body_27 (by decide) (fun hc25 => ?_) (fun hc25 => ?_)
      · have h := h.1 hc25
        refine JT_iload_n (q := 2) dX12_body_32 rfl rfl ?_
        by_cases ho14 : (a2).toInt < 0 ∨ 5 < (a2).toInt
        · have h := h.2.2.2.2.2.2 ho14
          refine JT_tableOut (tgt := 125) dX12_body_33 ho14 (by decide) ?_
          refine JT_aload_n (q := 0) dX12_body_125 rfl rfl ?_
          refine JS_getR (x := 250) dX12_body_126 flX12_33 BS_248 (Nat.le_of_ble_eq_true rfl) (Nat.le_of_ble_eq_true rfl) (Or.inr ⟨_, ct_12_6⟩) RF_248_6 ?_
          refine JT_bipush (v := 37) dX12_body_129 bp_37 ?_
          refine JT_iload_n (q := 1) dX12_body_131 rfl rfl ?_
          refine JT_iadd dX12_body_132 ?_
          obtain ⟨o15, h⟩ := h
          refine JS_iald dX12_body_133 BS_250 (Nat.le_of_ble_eq_true rfl) (Nat.le_of_ble_eq_true rfl) o15 ?_
          exact JS_iret dX12_body_134 rfl rfl h
        · have hk24 : (a2).toInt = 0 ∨ (a2).toInt = 1 ∨ (a2).toInt = 2 ∨ (a2).toInt = 3 ∨ (a2).toInt = 4 ∨ (a2).toInt = 5 := by omega
          rcases hk24 with hk24 | hk24 | hk24 | hk24 | hk24 | hk24
          · have h := h.1 (i32_of_toInt hk24)
            refine JT_tableIn (tgt := 72) dX12_body_33 (by omega) (by omega) (by rw [hk24]; rfl) (by decide) ?_
            refine JT_aload_n (q := 0) dX12_body_72 rfl rfl ?_
            refine JS_getR (x := 250) dX12_body_73 flX12_33 BS_248 (Nat.le_of_ble_eq_true rfl) (Nat.le_of_ble_eq_true rfl) (Or.inr ⟨_, ct_12_6⟩) RF_248_6 ?_
            refine JT_iconst (v := 4) dX12_body_76 ic_4 ?_
            refine JT_iload_n (q := 1) dX12_body_77 rfl rfl ?_
            refine JT_iadd dX12_body_78 ?_
            obtain ⟨o16, h⟩ := h
            refine JS_iald dX12_body_79 BS_250 (Nat.le_of_ble_eq_true rfl) (Nat.le_of_ble_eq_true rfl) o16 ?_
            exact JS_iret dX12_body_80 rfl rfl h
          · have h := h.2.1 (i32_of_toInt hk24)
            refine JT_tableIn (tgt := 81) dX12_body_33 (by omega) (by omega) (by rw [hk24]; rfl) (by decide) ?_
            refine JT_aload_n (q := 0) dX12_body_81 rfl rfl ?_
            refine JS_getR (x := 250) dX12_body_82 flX12_33 BS_248 (Nat.le_of_ble_eq_true rfl) (Nat.le_of_ble_eq_true rfl) (Or.inr ⟨_, ct_12_6⟩) RF_248_6 ?_
            refine JT_bipush (v := 13) dX12_body_85 bp_13 ?_
            refine JT_iload_n (q := 1) dX12_body_87 rfl rfl ?_
            refine JT_iadd dX12_body_88 ?_
            obtain ⟨o17, h⟩ := h
            refine JS_iald dX12_body_89 BS_250 (Nat.le_of_ble_eq_true rfl) (Nat.le_of_ble_eq_true rfl) o17 ?_
            exact JS_iret dX12_body_90 rfl rfl h
          · have h := h.2.2.1 (i32_of_toInt hk24)
            refine JT_tableIn (tgt := 91) dX12_body_33 (by omega) (by omega) (by rw [hk24]; rfl) (by decide) ?_
            refine JT_aload_n (q := 0) dX12_body_91 rfl rfl ?_
            refine JT_iload_n (q := 1) dX12_body_92 rfl rfl ?_
            refine JS_callVI (M' := MX12_isLiving) (d' := 1) (As := [.int a1]) (rest := []) (P := (fun zv9 wm9 => (vX12_isLiving (mX12_throwsIf s (if (vX12_isIn s a2 (0 : Int32) (6 : Int32)) = 0 then (1 : Int32) else (0 : Int32))) a1) = zv9 ∧ (mX12_throwsIf s (if (vX12_isIn s a2 (0 : Int32) (6 : Int32)) = 0 then (1 : Int32) else (0 : Int32))) = wm9)) dX12_body_93 cvX12_294 okX12_isLiving rfl (Nat.le_of_ble_eq_true rfl) BS_248 (Nat.le_of_ble_eq_true rfl) (Nat.le_of_ble_eq_true rfl) hci_12 (Nat.le_of_ble_eq_true rfl) (Nat.le_of_ble_eq_true rfl) (pX12_isLiving  (a1)  ⟨rfl, rfl⟩) (fun zv9 wm9 hq9 => ?_)
            obtain ⟨rfl, rfl⟩ := hq9
            have hj18 : ∀ v : Int32, v = (if (vX12_isLiving (mX12_throwsIf s (if (vX12_isIn s a2 (0 : Int32) (6 : Int32)) = 0 then (1 : Int32) else (0 : Int32))) a1) = 0 then (0 : Int32) else (1 : Int32)) → JT MX12_body 4 0 0 104 [(0, .ref 248), (1, .int a1), (2, .int a2)] [.int v] (std (mX12_throwsIf s (if (vX12_isIn s a2 (0 : Int32) (6 : Int32)) = 0 then (1 : Int32) else (0 : Int32)))) (KQ Q) := by
              intro v hv
              subst hv
              exact JS_iret dX12_body_104 rfl rfl h
            refine JT_if_eq (tgt := 103) dX12_body_96 (by decide) (fun hc19 => ?_) (fun hc19 => ?_)
            · refine JT_iconst (v := 0) dX12_body_103 ic_0 ?_
              exact hj18 _ (by rw [if_pos hc19])
            · refine JT_iconst (v := 1) dX12_body_99 ic_1 ?_
              refine JT_goto (tgt := 104) dX12_body_100 (by decide) ?_
              exact hj18 _ (by rw [if_neg hc19])
          · have h := h.2.2.2.1 (i32_of_toInt hk24)
            refine JT_tableIn (tgt := 105) dX12_body_33 (by omega) (by omega) (by rw [hk24]; rfl) (by decide) ?_
            refine JT_aload_n (q := 0) dX12_body_105 rfl rfl ?_
            refine JT_iload_n (q := 1) dX12_body_106 rfl rfl ?_
            obtain ⟨o21, h⟩ := h
            refine JS_callVI (M' := MX12_leftOf) (d' := 2) (As := [.int a1]) (rest := []) (P := (fun zv9 wm9 => (vX12_leftOf (mX12_throwsIf s (if (vX12_isIn s a2 (0 : Int32) (6 : Int32)) = 0 then (1 : Int32) else (0 : Int32))) a1) = zv9 ∧ (mX12_throwsIf s (if (vX12_isIn s a2 (0 : Int32) (6 : Int32)) = 0 then (1 : Int32) else (0 : Int32))) = wm9)) dX12_body_107 cvX12_297 okX12_leftOf rfl (Nat.le_of_ble_eq_true rfl) BS_248 (Nat.le_of_ble_eq_true rfl) (Nat.le_of_ble_eq_true rfl) hci_12 (Nat.le_of_ble_eq_true rfl) (Nat.le_of_ble_eq_true rfl) (pX12_leftOf  (a1) o21 ⟨rfl, rfl⟩) (fun zv9 wm9 hq9 => ?_)
            obtain ⟨rfl, rfl⟩ := hq9
            exact JS_iret dX12_body_110 rfl rfl h
          · have h := h.2.2.2.2.1 (i32_of_toInt hk24)
            refine JT_tableIn (tgt := 111) dX12_body_33 (by omega) (by omega) (by rw [hk24]; rfl) (by decide) ?_
            refine JT_aload_n (q := 0) dX12_body_111 rfl rfl ?_
            refine JT_iload_n (q := 1) dX12_body_112 rfl rfl ?_
            obtain ⟨o22, h⟩ := h
            refine JS_callVI (M' := MX12_netOf) (d' := 3) (As := [.int a1]) (rest := []) (P := (fun zv9 wm9 => (vX12_netOf (mX12_throwsIf s (if (vX12_isIn s a2 (0 : Int32) (6 : Int32)) = 0 then (1 : Int32) else (0 : Int32))) a1) = zv9 ∧ (mX12_throwsIf s (if (vX12_isIn s a2 (0 : Int32) (6 : Int32)) = 0 then (1 : Int32) else (0 : Int32))) = wm9)) dX12_body_113 cvX12_300 okX12_netOf rfl (Nat.le_of_ble_eq_true rfl) BS_248 (Nat.le_of_ble_eq_true rfl) (Nat.le_of_ble_eq_true rfl) hci_12 (Nat.le_of_ble_eq_true rfl) (Nat.le_of_ble_eq_true rfl) (pX12_netOf  (a1) o22 ⟨rfl, rfl⟩) (fun zv9 wm9 hq9 => ?_)
            obtain ⟨rfl, rfl⟩ := hq9
            exact JS_iret dX12_body_116 rfl rfl h
          · have h := h.2.2.2.2.2.1 (i32_of_toInt hk24)
            refine JT_tableIn (tgt := 117) dX12_body_33 (by omega) (by omega) (by rw [hk24]; rfl) (by decide) ?_
            refine JT_aload_n (q := 0) dX12_body_117 rfl rfl ?_
            refine JT_iload_n (q := 1) dX12_body_118 rfl rfl ?_
            refine JT_bipush (v := 99) dX12_body_119 bp_99 ?_
            obtain ⟨o23, h⟩ := h
            refine JS_callVI (M' := MX12_marksOn) (d' := 1) (As := [.int a1, .int (99 : Int32)]) (rest := []) (P := (fun zv9 wm9 => (vX12_marksOn (mX12_throwsIf s (if (vX12_isIn s a2 (0 : Int32) (6 : Int32)) = 0 then (1 : Int32) else (0 : Int32))) a1 (99 : Int32)) = zv9 ∧ (mX12_throwsIf s (if (vX12_isIn s a2 (0 : Int32) (6 : Int32)) = 0 then (1 : Int32) else (0 : Int32))) = wm9)) dX12_body_121 cvX12_303 okX12_marksOn rfl (Nat.le_of_ble_eq_true rfl) BS_248 (Nat.le_of_ble_eq_true rfl) (Nat.le_of_ble_eq_true rfl) hci_12 (Nat.le_of_ble_eq_true rfl) (Nat.le_of_ble_eq_true rfl) (pX12_marksOn  (a1) ((99 : Int32)) o23 ⟨rfl, rfl⟩) (fun zv9 wm9 hq9 => ?_)
            obtain ⟨rfl, rfl⟩ := hq9
            exact JS_iret dX12_body_124 rfl rfl h
      · have h := h.2 hc25
        refine JT_iconst (v := 0) dX12_body_30 ic_0 ?_
        exact JS_iret dX12_body_31 rfl rfl h
    refine JT_if_ne (tgt := 23) dX12_body_16 (by decide) (fun hc28 => ?_) (fun hc28 => ?_)
    · refine JT_iconst (v := 0) dX12_body_23 ic_0 ?_
      exact hj27 _ (by rw [if_neg hc28])
    · refine JT_iconst (v := 1) dX12_body_19 ic_1 ?_
      refine JT_goto (tgt := 24) dX12_body_20 (by decide) ?_
      exact hj27 _ (by rw [if_pos hc28])
set_option maxRecDepth 1000000 in
theorem pX12_body (a1 : Int32) (a2 : Int32) {s : SM} {Q : Int32 → SM → Prop} (hr : rX12_body s a1 a2) (h : Q (vX12_body s a1 a2) (mX12_body s a1 a2)) : KI MX12_body 4 [.ref 248, .int a1, .int a2] s Q := by
  refine bX12_body a1 a2 ?_
  unfold rX12_body at hr
  unfold vX12_body mX12_body at h
  refine ⟨fun c => ?_, fun c => ?_⟩
  · replace hr := hr.1 c
    replace h := q2p c h
    refine ⟨hr.1, ?_⟩
    replace hr := hr.2
    refine ⟨fun c => ?_, fun c => ?_⟩
    · replace hr := hr c
      replace h := q2p c h
      refine ⟨fun c => ?_, fun c => ?_, fun c => ?_, fun c => ?_, fun c => ?_, fun c => ?_, fun c => ?_⟩
      · replace hr := hr.1 c
        replace h := q2p c h
        refine ⟨hr, ?_⟩
        first | exact h | contradiction
      · replace hr := hr.2.1 c
        have n0 : ¬ a2 = (0 : Int32) := by rw [c]; decide
        replace h := q2n n0 h
        replace h := q2p c h
        refine ⟨hr, ?_⟩
        first | exact h | contradiction
      · have n0 : ¬ a2 = (0 : Int32) := by rw [c]; decide
        replace h := q2n n0 h
        have n1 : ¬ a2 = (1 : Int32) := by rw [c]; decide
        replace h := q2n n1 h
        replace h := q2p c h
        first | exact h | contradiction
      · replace hr := hr.2.2.1 c
        have n0 : ¬ a2 = (0 : Int32) := by rw [c]; decide
        replace h := q2n n0 h
        have n1 : ¬ a2 = (1 : Int32) := by rw [c]; decide
        replace h := q2n n1 h
        have n2 : ¬ a2 = (2 : Int32) := by rw [c]; decide
        replace h := q2n n2 h
        replace h := q2p c h
        refine ⟨hr, ?_⟩
        first | exact h | contradiction
      · replace hr := hr.2.2.2.1 c
        have n0 : ¬ a2 = (0 : Int32) := by rw [c]; decide
        replace h := q2n n0 h
        have n1 : ¬ a2 = (1 : Int32) := by rw [c]; decide
        replace h := q2n n1 h
        have n2 : ¬ a2 = (2 : Int32) := by rw [c]; decide
        replace h := q2n n2 h
        have n3 : ¬ a2 = (3 : Int32) := by rw [c]; decide
        replace h := q2n n3 h
        replace h := q2p c h
        refine ⟨hr, ?_⟩
        first | exact h | contradiction
      · replace hr := hr.2.2.2.2.1 c
        have n0 : ¬ a2 = (0 : Int32) := by rw [c]; decide
        replace h := q2n n0 h
        have n1 : ¬ a2 = (1 : Int32) := by rw [c]; decide
        replace h := q2n n1 h
        have n2 : ¬ a2 = (2 : Int32) := by rw [c]; decide
        replace h := q2n n2 h
        have n3 : ¬ a2 = (3 : Int32) := by rw [c]; decide
        replace h := q2n n3 h
        have n4 : ¬ a2 = (4 : Int32) := by rw [c]; decide
        replace h := q2n n4 h
        replace h := q2p c h
        refine ⟨hr, ?_⟩
        first | exact h | contradiction
      · replace hr := hr.2.2.2.2.2 c
        have n0 : ¬ a2 = (0 : Int32) := by intro e9; rw [e9] at c; revert c; decide
        replace h := q2n n0 h
        have n1 : ¬ a2 = (1 : Int32) := by intro e9; rw [e9] at c; revert c; decide
        replace h := q2n n1 h
        have n2 : ¬ a2 = (2 : Int32) := by intro e9; rw [e9] at c; revert c; decide
        replace h := q2n n2 h
        have n3 : ¬ a2 = (3 : Int32) := by intro e9; rw [e9] at c; revert c; decide
        replace h := q2n n3 h
        have n4 : ¬ a2 = (4 : Int32) := by intro e9; rw [e9] at c; revert c; decide
        replace h := q2n n4 h
        have n5 : ¬ a2 = (5 : Int32) := by intro e9; rw [e9] at c; revert c; decide
        replace h := q2n n5 h
        refine ⟨hr, ?_⟩
        first | exact h | contradiction
    · replace h := q2n c h
      first | exact h | contradiction
  · replace hr := hr.2 c
    replace h := q2n c h
    refine ⟨hr.1, ?_⟩
    replace hr := hr.2
    refine ⟨fun c => ?_, fun c => ?_⟩
    · replace hr := hr c
      replace h := q2p c h
      refine ⟨fun c => ?_, fun c => ?_, fun c => ?_, fun c => ?_, fun c => ?_, fun c => ?_, fun c => ?_⟩
      · replace hr := hr.1 c
        replace h := q2p c h
        refine ⟨hr, ?_⟩
        first | exact h | contradiction
      · replace hr := hr.2.1 c
        have n0 : ¬ a2 = (0 : Int32) := by rw [c]; decide
        replace h := q2n n0 h
        replace h := q2p c h
        refine ⟨hr, ?_⟩
        first | exact h | contradiction
      · have n0 : ¬ a2 = (0 : Int32) := by rw [c]; decide
        replace h := q2n n0 h
        have n1 : ¬ a2 = (1 : Int32) := by rw [c]; decide
        replace h := q2n n1 h
        replace h := q2p c h
        first | exact h | contradiction
      · replace hr := hr.2.2.1 c
        have n0 : ¬ a2 = (0 : Int32) := by rw [c]; decide
        replace h := q2n n0 h
        have n1 : ¬ a2 = (1 : Int32) := by rw [c]; decide
        replace h := q2n n1 h
        have n2 : ¬ a2 = (2 : Int32) := by rw [c]; decide
        replace h := q2n n2 h
        replace h := q2p c h
        refine ⟨hr, ?_⟩
        first | exact h | contradiction
      · replace hr := hr.2.2.2.1 c
        have n0 : ¬ a2 = (0 : Int32) := by rw [c]; decide
        replace h := q2n n0 h
        have n1 : ¬ a2 = (1 : Int32) := by rw [c]; decide
        replace h := q2n n1 h
        have n2 : ¬ a2 = (2 : Int32) := by rw [c]; decide
        replace h := q2n n2 h
        have n3 : ¬ a2 = (3 : Int32) := by rw [c]; decide
        replace h := q2n n3 h
        replace h := q2p c h
        refine ⟨hr, ?_⟩
        first | exact h | contradiction
      · replace hr := hr.2.2.2.2.1 c
        have n0 : ¬ a2 = (0 : Int32) := by rw [c]; decide
        replace h := q2n n0 h
        have n1 : ¬ a2 = (1 : Int32) := by rw [c]; decide
        replace h := q2n n1 h
        have n2 : ¬ a2 = (2 : Int32) := by rw [c]; decide
        replace h := q2n n2 h
        have n3 : ¬ a2 = (3 : Int32) := by rw [c]; decide
        replace h := q2n n3 h
        have n4 : ¬ a2 = (4 : Int32) := by rw [c]; decide
        replace h := q2n n4 h
        replace h := q2p c h
        refine ⟨hr, ?_⟩
        first | exact h | contradiction
      · replace hr := hr.2.2.2.2.2 c
        have n0 : ¬ a2 = (0 : Int32) := by intro e9; rw [e9] at c; revert c; decide
        replace h := q2n n0 h
        have n1 : ¬ a2 = (1 : Int32) := by intro e9; rw [e9] at c; revert c; decide
        replace h := q2n n1 h
        have n2 : ¬ a2 = (2 : Int32) := by intro e9; rw [e9] at c; revert c; decide
        replace h := q2n n2 h
        have n3 : ¬ a2 = (3 : Int32) := by intro e9; rw [e9] at c; revert c; decide
        replace h := q2n n3 h
        have n4 : ¬ a2 = (4 : Int32) := by intro e9; rw [e9] at c; revert c; decide
        replace h := q2n n4 h
        have n5 : ¬ a2 = (5 : Int32) := by intro e9; rw [e9] at c; revert c; decide
        replace h := q2n n5 h
        refine ⟨hr, ?_⟩
        first | exact h | contradiction
    · replace h := q2n c h
      first | exact h | contradiction
set_option maxRecDepth 1000000 in
theorem bX12_book_26  {s : SM} {Q : Int32 → SM → Prop} (h : (((gI s 248 11) = 0 → BI MX12_book 4 81 [(0, .ref 248), (1, .int (0 : Int32))] (pI s 252 ((0 : Int32)).toNatClampNeg (gI s 248 36)) Q) ∧ (¬ (gI s 248 11) = 0 → rX12_bookLine s  ∧ (((vX12_bookLine s ) = 0 → Q ((-1 : Int32) - (gI (mX12_bookLine s ) 248 16)) (mX12_bookLine s )) ∧ (¬ (vX12_bookLine s ) = 0 → rX12_sign (mX12_bookLine s ) (59 : Int32) ∧ ((¬ (vX12_sign (mX12_bookLine s ) (59 : Int32)) = 0 → (∀ s1, s1 = (pI (mX12_sign (mX12_bookLine s ) (59 : Int32)) 248 36 ((gI (mX12_sign (mX12_bookLine s ) (59 : Int32)) 248 36) + (1 : Int32))) → BI MX12_book 4 26 [(0, .ref 248)] s1 Q)) ∧ ((vX12_sign (mX12_bookLine s ) (59 : Int32)) = 0 → Q ((-1 : Int32) - (gI (mX12_sign (mX12_bookLine s ) (59 : Int32)) 248 16)) (mX12_sign (mX12_bookLine s ) (59 : Int32))))))))) : BI MX12_book 4 26 [(0, .ref 248)] s Q := by
  refine JT_aload_n (q := 0) dX12_book_26 rfl rfl ?_
  refine JS_getI dX12_book_27 flX12_170 BS_248 (Nat.le_of_ble_eq_true rfl) (Nat.le_of_ble_eq_true rfl) (Or.inl ct_12_11) ?_
  refine JT_if_eq (tgt := 69) dX12_book_30 (by decide) (fun hc6 => ?_) (fun hc6 => ?_)
  · have h := h.1 hc6
    refine JT_aload_n (q := 0) dX12_book_69 rfl rfl ?_
    refine JS_getR (x := 252) dX12_book_70 flX12_40 BS_248 (Nat.le_of_ble_eq_true rfl) (Nat.le_of_ble_eq_true rfl) (Or.inr ⟨_, ct_12_8⟩) RF_248_8 ?_
    refine JT_iconst (v := 0) dX12_book_73 ic_0 ?_
    refine JT_aload_n (q := 0) dX12_book_74 rfl rfl ?_
    refine JS_getI dX12_book_75 flX12_401 BS_248 (Nat.le_of_ble_eq_true rfl) (Nat.le_of_ble_eq_true rfl) (Or.inl ct_12_36) ?_
    refine JS_iast dX12_book_78 BS_252 (Nat.le_of_ble_eq_true rfl) (Nat.le_of_ble_eq_true rfl) (by unfold vp_in; decide) ?_
    refine JT_iconst (v := 0) dX12_book_79 ic_0 ?_
    refine JT_istore_n (lv' := [(1, .int (0 : Int32)), (0, .ref 248)]) dX12_book_80 rfl (Nat.le_of_ble_eq_true rfl) rfl ?_
    exact JT_sub [1, 0] rfl h
  · have h := h.2 hc6
    refine JT_aload_n (q := 0) dX12_book_33 rfl rfl ?_
    obtain ⟨o5, h⟩ := h
    refine JS_callVI (M' := MX12_bookLine) (d' := 3) (As := []) (rest := []) (P := (fun zv9 wm9 => (vX12_bookLine s ) = zv9 ∧ (mX12_bookLine s ) = wm9)) dX12_book_34 cvX12_404 okX12_bookLine rfl (Nat.le_of_ble_eq_true rfl) BS_248 (Nat.le_of_ble_eq_true rfl) (Nat.le_of_ble_eq_true rfl) hci_12 (Nat.le_of_ble_eq_true rfl) (Nat.le_of_ble_eq_true rfl) (pX12_bookLine   o5 ⟨rfl, rfl⟩) (fun zv9 wm9 hq9 => ?_)
    obtain ⟨rfl, rfl⟩ := hq9
    refine JT_if_eq (tgt := 49) dX12_book_37 (by decide) (fun hc4 => ?_) (fun hc4 => ?_)
    · have h := h.1 hc4
      refine JT_iconst (v := -1) dX12_book_49 ic_m1 ?_
      refine JT_aload_n (q := 0) dX12_book_50 rfl rfl ?_
      refine JS_getI dX12_book_51 flX12_190 BS_248 (Nat.le_of_ble_eq_true rfl) (Nat.le_of_ble_eq_true rfl) (Or.inl ct_12_16) ?_
      refine JT_isub dX12_book_54 ?_
      exact JS_iret dX12_book_55 rfl rfl h
    · have h := h.2 hc4
      refine JT_aload_n (q := 0) dX12_book_40 rfl rfl ?_
      refine JT_bipush (v := 59) dX12_book_41 bp_59 ?_
      obtain ⟨o3, h⟩ := h
      refine JS_callVI (M' := MX12_sign) (d' := 2) (As := [.int (59 : Int32)]) (rest := []) (P := (fun zv9 wm9 => (vX12_sign (mX12_bookLine s ) (59 : Int32)) = zv9 ∧ (mX12_sign (mX12_bookLine s ) (59 : Int32)) = wm9)) dX12_book_43 cvX12_247 okX12_sign rfl (Nat.le_of_ble_eq_true rfl) BS_248 (Nat.le_of_ble_eq_true rfl) (Nat.le_of_ble_eq_true rfl) hci_12 (Nat.le_of_ble_eq_true rfl) (Nat.le_of_ble_eq_true rfl) (pX12_sign  ((59 : Int32)) o3 ⟨rfl, rfl⟩) (fun zv9 wm9 hq9 => ?_)
      obtain ⟨rfl, rfl⟩ := hq9
      refine JT_if_ne (tgt := 56) dX12_book_46 (by decide) (fun hc2 => ?_) (fun hc2 => ?_)
      · have h := h.1 hc2
        refine JT_aload_n (q := 0) dX12_book_56 rfl rfl ?_
        refine JT_dup dX12_book_57 rfl ?_
        refine JS_getI dX12_book_58 flX12_401 BS_248 (Nat.le_of_ble_eq_true rfl) (Nat.le_of_ble_eq_true rfl) (Or.inl ct_12_36) ?_
        refine JT_iconst (v := 1) dX12_book_61 ic_1 ?_
        refine JT_iadd dX12_book_62 ?_
        refine JS_putI dX12_book_63 flX12_401 BS_248 (Nat.le_of_ble_eq_true rfl) (Nat.le_of_ble_eq_true rfl) ct_12_36 ?_
        obtain ⟨s1, hs1⟩ : ∃ z, z = (pI (mX12_sign (mX12_bookLine s ) (59 : Int32)) 248 36 ((gI (mX12_sign (mX12_bookLine s ) (59 : Int32)) 248 36) + (1 : Int32))) := ⟨_, rfl⟩
        replace h := h s1 hs1
        rw [← hs1]
        refine JT_goto (tgt := 26) dX12_book_66 (by decide) ?_
        exact JT_sub [0] rfl h
      · have h := h.2 hc2
        refine JT_iconst (v := -1) dX12_book_49 ic_m1 ?_
        refine JT_aload_n (q := 0) dX12_book_50 rfl rfl ?_
        refine JS_getI dX12_book_51 flX12_190 BS_248 (Nat.le_of_ble_eq_true rfl) (Nat.le_of_ble_eq_true rfl) (Or.inl ct_12_16) ?_
        refine JT_isub dX12_book_54 ?_
        exact JS_iret dX12_book_55 rfl rfl h
set_option maxRecDepth 1000000 in
theorem bX12_book_81 (a1 : Int32) {s : SM} {Q : Int32 → SM → Prop} (h : ((((5 : Int32) * (gI s 248 36)) < a1 → Q (gI s 248 36) s) ∧ (¬ ((5 : Int32) * (gI s 248 36)) < a1 → vp_in a1 201 ∧ vp_in ((586 : Int32) + a1) 787 ∧ BI MX12_book 4 81 [(0, .ref 248), (1, .int (a1 + 1))] (pI s 250 (((586 : Int32) + a1)).toNatClampNeg (gI s 252 (a1).toNatClampNeg)) Q))) : BI MX12_book 4 81 [(0, .ref 248), (1, .int a1)] s Q := by
  refine JT_iload_n (q := 1) dX12_book_81 rfl rfl ?_
  refine JT_iconst (v := 5) dX12_book_82 ic_5 ?_
  refine JT_aload_n (q := 0) dX12_book_83 rfl rfl ?_
  refine JS_getI dX12_book_84 flX12_401 BS_248 (Nat.le_of_ble_eq_true rfl) (Nat.le_of_ble_eq_true rfl) (Or.inl ct_12_36) ?_
  refine JT_imul dX12_book_87 ?_
  refine JT_icmp_gt (tgt := 113) dX12_book_88 (by decide) (fun hc3 => ?_) (fun hc3 => ?_)
  · have h := h.1 hc3
    refine JT_aload_n (q := 0) dX12_book_113 rfl rfl ?_
    refine JS_getI dX12_book_114 flX12_401 BS_248 (Nat.le_of_ble_eq_true rfl) (Nat.le_of_ble_eq_true rfl) (Or.inl ct_12_36) ?_
    exact JS_iret dX12_book_117 rfl rfl h
  · have h := h.2 hc3
    refine JT_aload_n (q := 0) dX12_book_91 rfl rfl ?_
    refine JS_getR (x := 250) dX12_book_92 flX12_33 BS_248 (Nat.le_of_ble_eq_true rfl) (Nat.le_of_ble_eq_true rfl) (Or.inr ⟨_, ct_12_6⟩) RF_248_6 ?_
    refine JT_sipush (v := 586) dX12_book_95 sp_586 ?_
    refine JT_iload_n (q := 1) dX12_book_98 rfl rfl ?_
    refine JT_iadd dX12_book_99 ?_
    refine JT_aload_n (q := 0) dX12_book_100 rfl rfl ?_
    refine JS_getR (x := 252) dX12_book_101 flX12_40 BS_248 (Nat.le_of_ble_eq_true rfl) (Nat.le_of_ble_eq_true rfl) (Or.inr ⟨_, ct_12_8⟩) RF_248_8 ?_
    refine JT_iload_n (q := 1) dX12_book_104 rfl rfl ?_
    obtain ⟨o1, h⟩ := h
    refine JS_iald dX12_book_105 BS_252 (Nat.le_of_ble_eq_true rfl) (Nat.le_of_ble_eq_true rfl) o1 ?_
    obtain ⟨o2, h⟩ := h
    refine JS_iast dX12_book_106 BS_250 (Nat.le_of_ble_eq_true rfl) (Nat.le_of_ble_eq_true rfl) o2 ?_
    refine JT_iinc (q := 1) (v := (a1 + 1)) (lv' := [(1, .int (a1 + 1)), (0, .ref 248)]) dX12_book_107 rfl (by rfl) (Nat.le_of_ble_eq_true rfl) rfl ?_
    refine JT_goto (tgt := 81) dX12_book_110 (by decide) ?_
    exact JT_sub [1, 0] rfl h
set_option maxRecDepth 1000000 in
theorem bX12_book  {s : SM} {Q : Int32 → SM → Prop} (h : rX12_next (pI (pI (mX12_taken (pI s 248 0 (0 : Int32)) (600 : Int32)) 248 15 (0 : Int32)) 248 36 (0 : Int32))  ∧ BI MX12_book 4 26 [(0, .ref 248)] (mX12_next (pI (pI (mX12_taken (pI s 248 0 (0 : Int32)) (600 : Int32)) 248 15 (0 : Int32)) 248 36 (0 : Int32)) ) Q) : KI MX12_book 4 [.ref 248] s Q := by
  show BI MX12_book 4 0 [(0, .ref 248)] s Q
  refine JT_aload_n (q := 0) dX12_book_0 rfl rfl ?_
  refine JT_iconst (v := 0) dX12_book_1 ic_0 ?_
  refine JS_putI dX12_book_2 flX12_1 BS_248 (Nat.le_of_ble_eq_true rfl) (Nat.le_of_ble_eq_true rfl) ct_12_0 ?_
  refine JT_aload_n (q := 0) dX12_book_5 rfl rfl ?_
  refine JT_sipush (v := 600) dX12_book_6 sp_600 ?_
  refine JS_callVV (M' := MX12_taken) (d' := 0) (As := [.int (600 : Int32)]) (rest := []) (P := (fun wm9 => (mX12_taken (pI s 248 0 (0 : Int32)) (600 : Int32)) = wm9)) dX12_book_9 cvX12_238 okX12_taken rfl (Nat.le_of_ble_eq_true rfl) BS_248 (Nat.le_of_ble_eq_true rfl) (Nat.le_of_ble_eq_true rfl) hci_12 (Nat.le_of_ble_eq_true rfl) (Nat.le_of_ble_eq_true rfl) (pX12_taken  ((600 : Int32))  rfl) (fun wm9 hq9 => ?_)
  subst hq9
  refine JT_aload_n (q := 0) dX12_book_12 rfl rfl ?_
  refine JT_iconst (v := 0) dX12_book_13 ic_0 ?_
  refine JS_putI dX12_book_14 flX12_187 BS_248 (Nat.le_of_ble_eq_true rfl) (Nat.le_of_ble_eq_true rfl) ct_12_15 ?_
  refine JT_aload_n (q := 0) dX12_book_17 rfl rfl ?_
  refine JT_iconst (v := 0) dX12_book_18 ic_0 ?_
  refine JS_putI dX12_book_19 flX12_401 BS_248 (Nat.le_of_ble_eq_true rfl) (Nat.le_of_ble_eq_true rfl) ct_12_36 ?_
  refine JT_aload_n (q := 0) dX12_book_22 rfl rfl ?_
  obtain ⟨o1, h⟩ := h
  refine JS_callVV (M' := MX12_next) (d' := 1) (As := []) (rest := []) (P := (fun wm9 => (mX12_next (pI (pI (mX12_taken (pI s 248 0 (0 : Int32)) (600 : Int32)) 248 15 (0 : Int32)) 248 36 (0 : Int32)) ) = wm9)) dX12_book_23 cvX12_199 okX12_next rfl (Nat.le_of_ble_eq_true rfl) BS_248 (Nat.le_of_ble_eq_true rfl) (Nat.le_of_ble_eq_true rfl) hci_12 (Nat.le_of_ble_eq_true rfl) (Nat.le_of_ble_eq_true rfl) (pX12_next   o1 rfl) (fun wm9 hq9 => ?_)
  subst hq9
  exact JT_sub [0] rfl h
set_option maxRecDepth 1000000 in
theorem gX12_book  : ∀ n : Nat, (∀  (s : SM) (Q : Int32 → SM → Prop), ((qX12_book n).1 s ) → Q ((lX12_book n).1 s ).1 ((lX12_book n).1 s ).2 → BI MX12_book 4 26 [(0, .ref 248)] s Q) ∧ (∀ (a1 : Int32) (s : SM) (Q : Int32 → SM → Prop), ((qX12_book n).2 s a1) → Q ((lX12_book n).2 s a1).1 ((lX12_book n).2 s a1).2 → BI MX12_book 4 81 [(0, .ref 248), (1, .int a1)] s Q) := by
  intro n
  induction n with
  | zero => exact ⟨fun _ _ hq _ => absurd hq id, fun _ _ _ hq _ => absurd hq id⟩
  | succ n ih =>
    refine ⟨?_, ?_⟩
    · intro  s Q hr h
      replace hr : uX12_book_26 (qX12_book n) s  := hr
      replace h : Q (tX12_book_26 (lX12_book n) s ).1 (tX12_book_26 (lX12_book n) s ).2 := h
      unfold uX12_book_26 at hr
      unfold tX12_book_26 at h
      refine bX12_book_26  ?_
      refine ⟨fun c => ?_, fun c => ?_⟩
      · replace hr := hr.1 c
        replace h := q3p c h
        first | exact ih.2 (0 : Int32) _ Q hr h | contradiction
      · replace hr := hr.2 c
        replace h := q3n c h
        refine ⟨hr.1, ?_⟩
        replace hr := hr.2
        refine ⟨fun c => ?_, fun c => ?_⟩
        · replace h := q3p c h
          first | exact h | contradiction
        · replace hr := hr c
          replace h := q3n c h
          refine ⟨hr.1, ?_⟩
          replace hr := hr.2
          refine ⟨fun c => ?_, fun c => ?_⟩
          · replace hr := hr c
            replace h := q3n c h
            intro s1 e9
            replace hr := hr s1 e9
            try rw [← e9] at h
            try dsimp only at h
            first | exact ih.1  _ Q hr h | contradiction
          · replace h := q3p c h
            first | exact h | contradiction
    · intro a1 s Q hr h
      replace hr : uX12_book_81 (qX12_book n) s a1 := hr
      replace h : Q (tX12_book_81 (lX12_book n) s a1).1 (tX12_book_81 (lX12_book n) s a1).2 := h
      unfold uX12_book_81 at hr
      unfold tX12_book_81 at h
      refine bX12_book_81 a1 ?_
      refine ⟨fun c => ?_, fun c => ?_⟩
      · replace h := q3p c h
        first | exact h | contradiction
      · replace hr := hr c
        replace h := q3n c h
        refine ⟨hr.1, ?_⟩
        replace hr := hr.2
        refine ⟨hr.1, ?_⟩
        replace hr := hr.2
        first | exact ih.2 (a1 + 1) _ Q hr h | contradiction
set_option maxRecDepth 1000000 in
theorem pX12_book  {s : SM} {Q : Int32 → SM → Prop} (hr : rX12_book s ) (h : Q (vX12_book s ) (mX12_book s )) : KI MX12_book 4 [.ref 248] s Q := by
  replace h : Q (fX12_book s ).1 (fX12_book s ).2 := h
  unfold rX12_book at hr
  unfold fX12_book at h
  refine bX12_book  ?_
  refine ⟨hr.1, ?_⟩
  replace hr := hr.2
  first | exact (gX12_book  FU).1  _ Q hr h | contradiction
set_option maxRecDepth 1000000 in
theorem bX12_canRing_77 (a1 : Int32) (a2 : Int32) {s : SM} {Q : Int32 → SM → Prop} (h : ((a1 ≤ a2 → Q (1 : Int32) s) ∧ (¬ a1 ≤ a2 → vp_in a2 5 ∧ rX12_of s (gI s 256 (a2).toNatClampNeg) (0 : Int32) ∧ vp_in a1 5 ∧ rX12_of s (gI s 256 (a1).toNatClampNeg) (0 : Int32) ∧ ((¬ (vX12_of s (gI s 256 (a2).toNatClampNeg) (0 : Int32)) = (vX12_of s (gI s 256 (a1).toNatClampNeg) (0 : Int32)) → BI MX12_canRing 4 77 [(0, .ref 248), (1, .int a1), (2, .int (a2 + 1))] s Q) ∧ ((vX12_of s (gI s 256 (a2).toNatClampNeg) (0 : Int32)) = (vX12_of s (gI s 256 (a1).toNatClampNeg) (0 : Int32)) → Q (0 : Int32) s))))) : BI MX12_canRing 4 77 [(0, .ref 248), (1, .int a1), (2, .int a2)] s Q := by
  refine JT_iload_n (q := 2) dX12_canRing_77 rfl rfl ?_
  refine JT_iload_n (q := 1) dX12_canRing_78 rfl rfl ?_
  refine JT_icmp_ge (tgt := 115) dX12_canRing_79 (by decide) (fun hc6 => ?_) (fun hc6 => ?_)
  · have h := h.1 hc6
    refine JT_iconst (v := 1) dX12_canRing_115 ic_1 ?_
    exact JS_iret dX12_canRing_116 rfl (n01 (Or.inr rfl)) h
  · have h := h.2 hc6
    refine JT_aload_n (q := 0) dX12_canRing_82 rfl rfl ?_
    refine JT_aload_n (q := 0) dX12_canRing_83 rfl rfl ?_
    refine JS_getR (x := 256) dX12_canRing_84 flX12_53 BS_248 (Nat.le_of_ble_eq_true rfl) (Nat.le_of_ble_eq_true rfl) (Or.inr ⟨_, ct_12_26⟩) RF_248_26 ?_
    refine JT_iload_n (q := 2) dX12_canRing_87 rfl rfl ?_
    obtain ⟨o1, h⟩ := h
    refine JS_iald dX12_canRing_88 BS_256 (Nat.le_of_ble_eq_true rfl) (Nat.le_of_ble_eq_true rfl) o1 ?_
    refine JT_iconst (v := 0) dX12_canRing_89 ic_0 ?_
    obtain ⟨o5, h⟩ := h
    refine JS_callVI (M' := MX12_of) (d' := 0) (As := [.int (gI s 256 (a2).toNatClampNeg), .int (0 : Int32)]) (rest := []) (P := (fun zv9 wm9 => (vX12_of s (gI s 256 (a2).toNatClampNeg) (0 : Int32)) = zv9 ∧ s = wm9)) dX12_canRing_90 cvX12_265 okX12_of rfl (Nat.le_of_ble_eq_true rfl) BS_248 (Nat.le_of_ble_eq_true rfl) (Nat.le_of_ble_eq_true rfl) hci_12 (Nat.le_of_ble_eq_true rfl) (Nat.le_of_ble_eq_true rfl) (pX12_of  ((gI s 256 (a2).toNatClampNeg)) ((0 : Int32)) o5 ⟨rfl, rfl⟩) (fun zv9 wm9 hq9 => ?_)
    obtain ⟨rfl, rfl⟩ := hq9
    refine JT_aload_n (q := 0) dX12_canRing_93 rfl rfl ?_
    refine JT_aload_n (q := 0) dX12_canRing_94 rfl rfl ?_
    refine JS_getR (x := 256) dX12_canRing_95 flX12_53 BS_248 (Nat.le_of_ble_eq_true rfl) (Nat.le_of_ble_eq_true rfl) (Or.inr ⟨_, ct_12_26⟩) RF_248_26 ?_
    refine JT_iload_n (q := 1) dX12_canRing_98 rfl rfl ?_
    obtain ⟨o2, h⟩ := h
    refine JS_iald dX12_canRing_99 BS_256 (Nat.le_of_ble_eq_true rfl) (Nat.le_of_ble_eq_true rfl) o2 ?_
    refine JT_iconst (v := 0) dX12_canRing_100 ic_0 ?_
    obtain ⟨o4, h⟩ := h
    refine JS_callVI (M' := MX12_of) (d' := 0) (As := [.int (gI s 256 (a1).toNatClampNeg), .int (0 : Int32)]) (rest := [.int (vX12_of s (gI s 256 (a2).toNatClampNeg) (0 : Int32))]) (P := (fun zv9 wm9 => (vX12_of s (gI s 256 (a1).toNatClampNeg) (0 : Int32)) = zv9 ∧ s = wm9)) dX12_canRing_101 cvX12_265 okX12_of rfl (Nat.le_of_ble_eq_true rfl) BS_248 (Nat.le_of_ble_eq_true rfl) (Nat.le_of_ble_eq_true rfl) hci_12 (Nat.le_of_ble_eq_true rfl) (Nat.le_of_ble_eq_true rfl) (pX12_of  ((gI s 256 (a1).toNatClampNeg)) ((0 : Int32)) o4 ⟨rfl, rfl⟩) (fun zv9 wm9 hq9 => ?_)
    obtain ⟨rfl, rfl⟩ := hq9
    refine JT_icmp_ne (tgt := 109) dX12_canRing_104 (by decide) (fun hc3 => ?_) (fun hc3 => ?_)
    · have h := h.1 hc3
      refine JT_iinc (q := 2) (v := (a2 + 1)) (lv' := [(2, .int (a2 + 1)), (0, .ref 248), (1, .int a1)]) dX12_canRing_109 rfl (by rfl) (Nat.le_of_ble_eq_true rfl) rfl ?_
      refine JT_goto (tgt := 77) dX12_canRing_112 (by decide) ?_
      exact JT_sub [1, 2, 0] rfl h
    · have h := h.2 hc3
      refine JT_iconst (v := 0) dX12_canRing_107 ic_0 ?_
      exact JS_iret dX12_canRing_108 rfl (n01 (Or.inl rfl)) h
set_option maxRecDepth 1000000 in
theorem bX12_canRing (a1 : Int32) {s : SM} {Q : Int32 → SM → Prop} (h : vp_in a1 5 ∧ rX12_isRingDeal s (gI s 256 (a1).toNatClampNeg) ∧ (((vX12_isRingDeal s (gI s 256 (a1).toNatClampNeg)) = 0 → Q (0 : Int32) s) ∧ (¬ (vX12_isRingDeal s (gI s 256 (a1).toNatClampNeg)) = 0 → vp_in a1 5 ∧ rX12_of s (gI s 256 (a1).toNatClampNeg) (0 : Int32) ∧ vp_in a1 5 ∧ rX12_of s (gI s 256 (a1).toNatClampNeg) (1 : Int32) ∧ ((¬ (vX12_of s (gI s 256 (a1).toNatClampNeg) (0 : Int32)) = (vX12_of s (gI s 256 (a1).toNatClampNeg) (1 : Int32)) → ((¬ a1 = 0 → vp_in a1 5 ∧ rX12_of s (gI s 256 (a1).toNatClampNeg) (0 : Int32) ∧ vp_in (a1 - (1 : Int32)) 5 ∧ rX12_of s (gI s 256 ((a1 - (1 : Int32))).toNatClampNeg) (1 : Int32) ∧ (((vX12_of s (gI s 256 (a1).toNatClampNeg) (0 : Int32)) = (vX12_of s (gI s 256 ((a1 - (1 : Int32))).toNatClampNeg) (1 : Int32)) → BI MX12_canRing 4 77 [(0, .ref 248), (1, .int a1), (2, .int (0 : Int32))] s Q) ∧ (¬ (vX12_of s (gI s 256 (a1).toNatClampNeg) (0 : Int32)) = (vX12_of s (gI s 256 ((a1 - (1 : Int32))).toNatClampNeg) (1 : Int32)) → Q (0 : Int32) s))) ∧ (a1 = 0 → Q (1 : Int32) s))) ∧ ((vX12_of s (gI s 256 (a1).toNatClampNeg) (0 : Int32)) = (vX12_of s (gI s 256 (a1).toNatClampNeg) (1 : Int32)) → Q (0 : Int32) s))))) : KI MX12_canRing 4 [.ref 248, .int a1] s Q := by
  show BI MX12_canRing 4 0 [(0, .ref 248), (1, .int a1)] s Q
  refine JT_aload_n (q := 0) dX12_canRing_0 rfl rfl ?_
  refine JT_aload_n (q := 0) dX12_canRing_1 rfl rfl ?_
  refine JS_getR (x := 256) dX12_canRing_2 flX12_53 BS_248 (Nat.le_of_ble_eq_true rfl) (Nat.le_of_ble_eq_true rfl) (Or.inr ⟨_, ct_12_26⟩) RF_248_26 ?_
  refine JT_iload_n (q := 1) dX12_canRing_5 rfl rfl ?_
  obtain ⟨o1, h⟩ := h
  refine JS_iald dX12_canRing_6 BS_256 (Nat.le_of_ble_eq_true rfl) (Nat.le_of_ble_eq_true rfl) o1 ?_
  obtain ⟨o14, h⟩ := h
  refine JS_callVI (M' := MX12_isRingDeal) (d' := 3) (As := [.int (gI s 256 (a1).toNatClampNeg)]) (rest := []) (P := (fun zv9 wm9 => (vX12_isRingDeal s (gI s 256 (a1).toNatClampNeg)) = zv9 ∧ s = wm9)) dX12_canRing_7 cvX12_353 okX12_isRingDeal rfl (Nat.le_of_ble_eq_true rfl) BS_248 (Nat.le_of_ble_eq_true rfl) (Nat.le_of_ble_eq_true rfl) hci_12 (Nat.le_of_ble_eq_true rfl) (Nat.le_of_ble_eq_true rfl) (pX12_isRingDeal  ((gI s 256 (a1).toNatClampNeg)) o14 ⟨rfl, rfl⟩) (fun zv9 wm9 hq9 => ?_)
  obtain ⟨rfl, rfl⟩ := hq9
  refine JT_if_eq (tgt := 38) dX12_canRing_10 (by decide) (fun hc13 => ?_) (fun hc13 => ?_)
  · have h := h.1 hc13
    refine JT_iconst (v := 0) dX12_canRing_38 ic_0 ?_
    exact JS_iret dX12_canRing_39 rfl (n01 (Or.inl rfl)) h
  · have h := h.2 hc13
    refine JT_aload_n (q := 0) dX12_canRing_13 rfl rfl ?_
    refine JT_aload_n (q := 0) dX12_canRing_14 rfl rfl ?_
    refine JS_getR (x := 256) dX12_canRing_15 flX12_53 BS_248 (Nat.le_of_ble_eq_true rfl) (Nat.le_of_ble_eq_true rfl) (Or.inr ⟨_, ct_12_26⟩) RF_248_26 ?_
    refine JT_iload_n (q := 1) dX12_canRing_18 rfl rfl ?_
    obtain ⟨o2, h⟩ := h
    refine JS_iald dX12_canRing_19 BS_256 (Nat.le_of_ble_eq_true rfl) (Nat.le_of_ble_eq_true rfl) o2 ?_
    refine JT_iconst (v := 0) dX12_canRing_20 ic_0 ?_
    obtain ⟨o12, h⟩ := h
    refine JS_callVI (M' := MX12_of) (d' := 0) (As := [.int (gI s 256 (a1).toNatClampNeg), .int (0 : Int32)]) (rest := []) (P := (fun zv9 wm9 => (vX12_of s (gI s 256 (a1).toNatClampNeg) (0 : Int32)) = zv9 ∧ s = wm9)) dX12_canRing_21 cvX12_265 okX12_of rfl (Nat.le_of_ble_eq_true rfl) BS_248 (Nat.le_of_ble_eq_true rfl) (Nat.le_of_ble_eq_true rfl) hci_12 (Nat.le_of_ble_eq_true rfl) (Nat.le_of_ble_eq_true rfl) (pX12_of  ((gI s 256 (a1).toNatClampNeg)) ((0 : Int32)) o12 ⟨rfl, rfl⟩) (fun zv9 wm9 hq9 => ?_)
    obtain ⟨rfl, rfl⟩ := hq9
    refine JT_aload_n (q := 0) dX12_canRing_24 rfl rfl ?_
    refine JT_aload_n (q := 0) dX12_canRing_25 rfl rfl ?_
    refine JS_getR (x := 256) dX12_canRing_26 flX12_53 BS_248 (Nat.le_of_ble_eq_true rfl) (Nat.le_of_ble_eq_true rfl) (Or.inr ⟨_, ct_12_26⟩) RF_248_26 ?_
    refine JT_iload_n (q := 1) dX12_canRing_29 rfl rfl ?_
    obtain ⟨o3, h⟩ := h
    refine JS_iald dX12_canRing_30 BS_256 (Nat.le_of_ble_eq_true rfl) (Nat.le_of_ble_eq_true rfl) o3 ?_
    refine JT_iconst (v := 1) dX12_canRing_31 ic_1 ?_
    obtain ⟨o11, h⟩ := h
    refine JS_callVI (M' := MX12_of) (d' := 0) (As := [.int (gI s 256 (a1).toNatClampNeg), .int (1 : Int32)]) (rest := [.int (vX12_of s (gI s 256 (a1).toNatClampNeg) (0 : Int32))]) (P := (fun zv9 wm9 => (vX12_of s (gI s 256 (a1).toNatClampNeg) (1 : Int32)) = zv9 ∧ s = wm9)) dX12_canRing_32 cvX12_265 okX12_of rfl (Nat.le_of_ble_eq_true rfl) BS_248 (Nat.le_of_ble_eq_true rfl) (Nat.le_of_ble_eq_true rfl) hci_12 (Nat.le_of_ble_eq_true rfl) (Nat.le_of_ble_eq_true rfl) (pX12_of  ((gI s 256 (a1).toNatClampNeg)) ((1 : Int32)) o11 ⟨rfl, rfl⟩) (fun zv9 wm9 hq9 => ?_)
    obtain ⟨rfl, rfl⟩ := hq9
    refine JT_icmp_ne (tgt := 40) dX12_canRing_35 (by decide) (fun hc10 => ?_) (fun hc10 => ?_)
    · have h := h.1 hc10
      refine JT_iload_n (q := 1) dX12_canRing_40 rfl rfl ?_
      refine JT_if_ne (tgt := 46) dX12_canRing_41 (by decide) (fun hc9 => ?_) (fun hc9 => ?_)
      · have h := h.1 hc9
        refine JT_aload_n (q := 0) dX12_canRing_46 rfl rfl ?_
        refine JT_aload_n (q := 0) dX12_canRing_47 rfl rfl ?_
        refine JS_getR (x := 256) dX12_canRing_48 flX12_53 BS_248 (Nat.le_of_ble_eq_true rfl) (Nat.le_of_ble_eq_true rfl) (Or.inr ⟨_, ct_12_26⟩) RF_248_26 ?_
        refine JT_iload_n (q := 1) dX12_canRing_51 rfl rfl ?_
        obtain ⟨o4, h⟩ := h
        refine JS_iald dX12_canRing_52 BS_256 (Nat.le_of_ble_eq_true rfl) (Nat.le_of_ble_eq_true rfl) o4 ?_
        refine JT_iconst (v := 0) dX12_canRing_53 ic_0 ?_
        obtain ⟨o8, h⟩ := h
        refine JS_callVI (M' := MX12_of) (d' := 0) (As := [.int (gI s 256 (a1).toNatClampNeg), .int (0 : Int32)]) (rest := []) (P := (fun zv9 wm9 => (vX12_of s (gI s 256 (a1).toNatClampNeg) (0 : Int32)) = zv9 ∧ s = wm9)) dX12_canRing_54 cvX12_265 okX12_of rfl (Nat.le_of_ble_eq_true rfl) BS_248 (Nat.le_of_ble_eq_true rfl) (Nat.le_of_ble_eq_true rfl) hci_12 (Nat.le_of_ble_eq_true rfl) (Nat.le_of_ble_eq_true rfl) (pX12_of  ((gI s 256 (a1).toNatClampNeg)) ((0 : Int32)) o8 ⟨rfl, rfl⟩) (fun zv9 wm9 hq9 => ?_)
        obtain ⟨rfl, rfl⟩ := hq9
        refine JT_aload_n (q := 0) dX12_canRing_57 rfl rfl ?_
        refine JT_aload_n (q := 0) dX12_canRing_58 rfl rfl ?_
        refine JS_getR (x := 256) dX12_canRing_59 flX12_53 BS_248 (Nat.le_of_ble_eq_true rfl) (Nat.le_of_ble_eq_true rfl) (Or.inr ⟨_, ct_12_26⟩) RF_248_26 ?_
        refine JT_iload_n (q := 1) dX12_canRing_62 rfl rfl ?_
        refine JT_iconst (v := 1) dX12_canRing_63 ic_1 ?_
        refine JT_isub dX12_canRing_64 ?_
        obtain ⟨o5, h⟩ := h
        refine JS_iald dX12_canRing_65 BS_256 (Nat.le_of_ble_eq_true rfl) (Nat.le_of_ble_eq_true rfl) o5 ?_
        refine JT_iconst (v := 1) dX12_canRing_66 ic_1 ?_
        obtain ⟨o7, h⟩ := h
        refine JS_callVI (M' := MX12_of) (d' := 0) (As := [.int (gI s 256 ((a1 - (1 : Int32))).toNatClampNeg), .int (1 : Int32)]) (rest := [.int (vX12_of s (gI s 256 (a1).toNatClampNeg) (0 : Int32))]) (P := (fun zv9 wm9 => (vX12_of s (gI s 256 ((a1 - (1 : Int32))).toNatClampNeg) (1 : Int32)) = zv9 ∧ s = wm9)) dX12_canRing_67 cvX12_265 okX12_of rfl (Nat.le_of_ble_eq_true rfl) BS_248 (Nat.le_of_ble_eq_true rfl) (Nat.le_of_ble_eq_true rfl) hci_12 (Nat.le_of_ble_eq_true rfl) (Nat.le_of_ble_eq_true rfl) (pX12_of  ((gI s 256 ((a1 - (1 : Int32))).toNatClampNeg)) ((1 : Int32)) o7 ⟨rfl, rfl⟩) (fun zv9 wm9 hq9 => ?_)
        obtain ⟨rfl, rfl⟩ := hq9
        refine JT_icmp_eq (tgt := 75) dX12_canRing_70 (by decide) (fun hc6 => ?_) (fun hc6 => ?_)
        · have h := h.1 hc6
          refine JT_iconst (v := 0) dX12_canRing_75 ic_0 ?_
          refine JT_istore_n (lv' := [(2, .int (0 : Int32)), (0, .ref 248), (1, .int a1)]) dX12_canRing_76 rfl (Nat.le_of_ble_eq_true rfl) rfl ?_
          exact JT_sub [1, 2, 0] rfl h
        · have h := h.2 hc6
          refine JT_iconst (v := 0) dX12_canRing_73 ic_0 ?_
          exact JS_iret dX12_canRing_74 rfl (n01 (Or.inl rfl)) h
      · have h := h.2 hc9
        refine JT_iconst (v := 1) dX12_canRing_44 ic_1 ?_
        exact JS_iret dX12_canRing_45 rfl (n01 (Or.inr rfl)) h
    · have h := h.2 hc10
      refine JT_iconst (v := 0) dX12_canRing_38 ic_0 ?_
      exact JS_iret dX12_canRing_39 rfl (n01 (Or.inl rfl)) h
set_option maxRecDepth 1000000 in
theorem gX12_canRing  : ∀ n : Nat, (∀ (a1 : Int32) (a2 : Int32) (s : SM) (Q : Int32 → SM → Prop), ((qX12_canRing n) s a1 a2) → Q ((lX12_canRing n) s a1 a2) s → BI MX12_canRing 4 77 [(0, .ref 248), (1, .int a1), (2, .int a2)] s Q) := by
  intro n
  induction n with
  | zero => exact fun _ _ _ _ hq _ => absurd hq id
  | succ n ih =>
    intro a1 a2 s Q hr h
    replace hr : uX12_canRing_77 (qX12_canRing n) s a1 a2 := hr
    replace h : Q (tX12_canRing_77 (lX12_canRing n) s a1 a2) s := h
    unfold uX12_canRing_77 at hr
    unfold tX12_canRing_77 at h
    refine bX12_canRing_77 a1 a2 ?_
    refine ⟨fun c => ?_, fun c => ?_⟩
    · replace h := qlp c h
      first | exact h | contradiction
    · replace hr := hr c
      replace h := qln c h
      refine ⟨hr.1, ?_⟩
      replace hr := hr.2
      refine ⟨hr.1, ?_⟩
      replace hr := hr.2
      refine ⟨hr.1, ?_⟩
      replace hr := hr.2
      refine ⟨hr.1, ?_⟩
      replace hr := hr.2
      refine ⟨fun c => ?_, fun c => ?_⟩
      · replace hr := hr c
        replace h := qln c h
        first | exact ih a1 (a2 + 1) _ Q hr h | contradiction
      · replace h := qlp c h
        first | exact h | contradiction
set_option maxRecDepth 1000000 in
theorem pX12_canRing (a1 : Int32) {s : SM} {Q : Int32 → SM → Prop} (hr : rX12_canRing s a1) (h : Q (vX12_canRing s a1) s) : KI MX12_canRing 4 [.ref 248, .int a1] s Q := by
  replace h : Q (fX12_canRing s a1) s := h
  unfold rX12_canRing at hr
  unfold fX12_canRing at h
  refine bX12_canRing a1 ?_
  refine ⟨hr.1, ?_⟩
  replace hr := hr.2
  refine ⟨hr.1, ?_⟩
  replace hr := hr.2
  refine ⟨fun c => ?_, fun c => ?_⟩
  · replace h := qlp c h
    first | exact h | contradiction
  · replace hr := hr c
    replace h := qln c h
    refine ⟨hr.1, ?_⟩
    replace hr := hr.2
    refine ⟨hr.1, ?_⟩
    replace hr := hr.2
    refine ⟨hr.1, ?_⟩
    replace hr := hr.2
    refine ⟨hr.1, ?_⟩
    replace hr := hr.2
    refine ⟨fun c => ?_, fun c => ?_⟩
    · replace hr := hr c
      replace h := qln c h
      refine ⟨fun c => ?_, fun c => ?_⟩
      · replace hr := hr c
        replace h := qln c h
        refine ⟨hr.1, ?_⟩
        replace hr := hr.2
        refine ⟨hr.1, ?_⟩
        replace hr := hr.2
        refine ⟨hr.1, ?_⟩
        replace hr := hr.2
        refine ⟨hr.1, ?_⟩
        replace hr := hr.2
        refine ⟨fun c => ?_, fun c => ?_⟩
        · replace hr := hr c
          replace h := qlp c h
          first | exact (gX12_canRing  FU) a1 (0 : Int32) _ Q hr h | contradiction
        · replace h := qln c h
          first | exact h | contradiction
      · replace h := qlp c h
        first | exact h | contradiction
    · replace h := qlp c h
      first | exact h | contradiction
set_option maxRecDepth 1000000 in
theorem bX12_count (a1 : Int32) {s : SM} {Q : Int32 → SM → Prop} (h : ((a1 = 4 → Q (gI (pI s 248 0 (0 : Int32)) 250 ((34 : Int32)).toNatClampNeg) (pI s 248 0 (0 : Int32))) ∧ (a1 = 5 → rX12_openMany (pI s 248 0 (0 : Int32))  ∧ Q (vX12_openMany (pI s 248 0 (0 : Int32)) ) (pI s 248 0 (0 : Int32))) ∧ (a1 = 6 → Q (gI (pI s 248 0 (0 : Int32)) 250 ((35 : Int32)).toNatClampNeg) (pI s 248 0 (0 : Int32))) ∧ (a1 = 7 → Q (gI (pI s 248 0 (0 : Int32)) 250 ((586 : Int32)).toNatClampNeg) (pI s 248 0 (0 : Int32))) ∧ (a1 = 8 → Q (gI (pI s 248 0 (0 : Int32)) 248 2) (pI s 248 0 (0 : Int32))) ∧ ((a1.toInt < 4 ∨ 8 < a1.toInt) → (((vX12_isIn (pI s 248 0 (0 : Int32)) a1 (0 : Int32) (3 : Int32)) = 0 → Q (-1 : Int32) (pI s 248 0 (0 : Int32))) ∧ (¬ (vX12_isIn (pI s 248 0 (0 : Int32)) a1 (0 : Int32) (3 : Int32)) = 0 → vp_in a1 787 ∧ Q (gI (pI s 248 0 (0 : Int32)) 250 (a1).toNatClampNeg) (pI s 248 0 (0 : Int32))))))) : KI MX12_count 4 [.ref 248, .int a1] s Q := by
  show BI MX12_count 4 0 [(0, .ref 248), (1, .int a1)] s Q
  refine JT_aload_n (q := 0) dX12_count_0 rfl rfl ?_
  refine JT_iconst (v := 0) dX12_count_1 ic_0 ?_
  refine JS_putI dX12_count_2 flX12_1 BS_248 (Nat.le_of_ble_eq_true rfl) (Nat.le_of_ble_eq_true rfl) ct_12_0 ?_
  refine JT_iload_n (q := 1) dX12_count_5 rfl rfl ?_
  by_cases ho1 : (a1).toInt < 4 ∨ 8 < (a1).toInt
  · have h := h.2.2.2.2.2 ho1
    refine JT_tableOut (tgt := 75) dX12_count_6 ho1 (by decide) ?_
    refine JT_iload_n (q := 1) dX12_count_75 rfl rfl ?_
    refine JT_iconst (v := 0) dX12_count_76 ic_0 ?_
    refine JT_iconst (v := 3) dX12_count_77 ic_3 ?_
    refine JS_callSI (M' := MX12_isIn) (d' := 0) (As := [.int a1, .int (0 : Int32), .int (3 : Int32)]) (rest := []) (P := (fun zv9 wm9 => (vX12_isIn (pI s 248 0 (0 : Int32)) a1 (0 : Int32) (3 : Int32)) = zv9 ∧ (pI s 248 0 (0 : Int32)) = wm9)) dX12_count_78 cvX12_202 okX12_isIn rfl (Nat.le_of_ble_eq_true rfl) (Nat.le_of_ble_eq_true rfl) (Nat.le_of_ble_eq_true rfl) (pX12_isIn  (a1) ((0 : Int32)) ((3 : Int32))  ⟨rfl, rfl⟩) (fun zv9 wm9 hq9 => ?_)
    obtain ⟨rfl, rfl⟩ := hq9
    refine JT_if_eq (tgt := 93) dX12_count_81 (by decide) (fun hc3 => ?_) (fun hc3 => ?_)
    · have h := h.1 hc3
      refine JT_iconst (v := -1) dX12_count_93 ic_m1 ?_
      exact JS_iret dX12_count_94 rfl rfl h
    · have h := h.2 hc3
      refine JT_aload_n (q := 0) dX12_count_84 rfl rfl ?_
      refine JS_getR (x := 250) dX12_count_85 flX12_33 BS_248 (Nat.le_of_ble_eq_true rfl) (Nat.le_of_ble_eq_true rfl) (Or.inr ⟨_, ct_12_6⟩) RF_248_6 ?_
      refine JT_iload_n (q := 1) dX12_count_88 rfl rfl ?_
      obtain ⟨o2, h⟩ := h
      refine JS_iald dX12_count_89 BS_250 (Nat.le_of_ble_eq_true rfl) (Nat.le_of_ble_eq_true rfl) o2 ?_
      refine JT_goto (tgt := 94) dX12_count_90 (by decide) ?_
      exact JS_iret dX12_count_94 rfl rfl h
  · have hk6 : (a1).toInt = 4 ∨ (a1).toInt = 5 ∨ (a1).toInt = 6 ∨ (a1).toInt = 7 ∨ (a1).toInt = 8 := by omega
    rcases hk6 with hk6 | hk6 | hk6 | hk6 | hk6
    · have h := h.1 (i32_of_toInt hk6)
      refine JT_tableIn (tgt := 40) dX12_count_6 (by omega) (by omega) (by rw [hk6]; rfl) (by decide) ?_
      refine JT_aload_n (q := 0) dX12_count_40 rfl rfl ?_
      refine JS_getR (x := 250) dX12_count_41 flX12_33 BS_248 (Nat.le_of_ble_eq_true rfl) (Nat.le_of_ble_eq_true rfl) (Or.inr ⟨_, ct_12_6⟩) RF_248_6 ?_
      refine JT_bipush (v := 34) dX12_count_44 bp_34 ?_
      refine JS_iald dX12_count_46 BS_250 (Nat.le_of_ble_eq_true rfl) (Nat.le_of_ble_eq_true rfl) (by unfold vp_in; decide) ?_
      exact JS_iret dX12_count_47 rfl rfl h
    · have h := h.2.1 (i32_of_toInt hk6)
      refine JT_tableIn (tgt := 48) dX12_count_6 (by omega) (by omega) (by rw [hk6]; rfl) (by decide) ?_
      refine JT_aload_n (q := 0) dX12_count_48 rfl rfl ?_
      obtain ⟨o5, h⟩ := h
      refine JS_callVI (M' := MX12_openMany) (d' := 3) (As := []) (rest := []) (P := (fun zv9 wm9 => (vX12_openMany (pI s 248 0 (0 : Int32)) ) = zv9 ∧ (pI s 248 0 (0 : Int32)) = wm9)) dX12_count_49 cvX12_410 okX12_openMany rfl (Nat.le_of_ble_eq_true rfl) BS_248 (Nat.le_of_ble_eq_true rfl) (Nat.le_of_ble_eq_true rfl) hci_12 (Nat.le_of_ble_eq_true rfl) (Nat.le_of_ble_eq_true rfl) (pX12_openMany   o5 ⟨rfl, rfl⟩) (fun zv9 wm9 hq9 => ?_)
      obtain ⟨rfl, rfl⟩ := hq9
      exact JS_iret dX12_count_52 rfl rfl h
    · have h := h.2.2.1 (i32_of_toInt hk6)
      refine JT_tableIn (tgt := 53) dX12_count_6 (by omega) (by omega) (by rw [hk6]; rfl) (by decide) ?_
      refine JT_aload_n (q := 0) dX12_count_53 rfl rfl ?_
      refine JS_getR (x := 250) dX12_count_54 flX12_33 BS_248 (Nat.le_of_ble_eq_true rfl) (Nat.le_of_ble_eq_true rfl) (Or.inr ⟨_, ct_12_6⟩) RF_248_6 ?_
      refine JT_bipush (v := 35) dX12_count_57 bp_35 ?_
      refine JS_iald dX12_count_59 BS_250 (Nat.le_of_ble_eq_true rfl) (Nat.le_of_ble_eq_true rfl) (by unfold vp_in; decide) ?_
      exact JS_iret dX12_count_60 rfl rfl h
    · have h := h.2.2.2.1 (i32_of_toInt hk6)
      refine JT_tableIn (tgt := 61) dX12_count_6 (by omega) (by omega) (by rw [hk6]; rfl) (by decide) ?_
      refine JT_aload_n (q := 0) dX12_count_61 rfl rfl ?_
      refine JS_getR (x := 250) dX12_count_62 flX12_33 BS_248 (Nat.le_of_ble_eq_true rfl) (Nat.le_of_ble_eq_true rfl) (Or.inr ⟨_, ct_12_6⟩) RF_248_6 ?_
      refine JT_sipush (v := 586) dX12_count_65 sp_586 ?_
      refine JS_iald dX12_count_68 BS_250 (Nat.le_of_ble_eq_true rfl) (Nat.le_of_ble_eq_true rfl) (by unfold vp_in; decide) ?_
      exact JS_iret dX12_count_69 rfl rfl h
    · have h := h.2.2.2.2.1 (i32_of_toInt hk6)
      refine JT_tableIn (tgt := 70) dX12_count_6 (by omega) (by omega) (by rw [hk6]; rfl) (by decide) ?_
      refine JT_aload_n (q := 0) dX12_count_70 rfl rfl ?_
      refine JS_getI dX12_count_71 flX12_7 BS_248 (Nat.le_of_ble_eq_true rfl) (Nat.le_of_ble_eq_true rfl) (Or.inl ct_12_2) ?_
      exact JS_iret dX12_count_74 rfl rfl h
set_option maxRecDepth 1000000 in
theorem pX12_count (a1 : Int32) {s : SM} {Q : Int32 → SM → Prop} (hr : rX12_count s a1) (h : Q (vX12_count s a1) (mX12_count s a1)) : KI MX12_count 4 [.ref 248, .int a1] s Q := by
  refine bX12_count a1 ?_
  unfold rX12_count at hr
  unfold vX12_count mX12_count at h
  refine ⟨fun c => ?_, fun c => ?_, fun c => ?_, fun c => ?_, fun c => ?_, fun c => ?_⟩
  · replace h := q2p c h
    first | exact h | contradiction
  · replace hr := hr.1 c
    have n4 : ¬ a1 = (4 : Int32) := by rw [c]; decide
    replace h := q2n n4 h
    replace h := q2p c h
    refine ⟨hr, ?_⟩
    first | exact h | contradiction
  · have n4 : ¬ a1 = (4 : Int32) := by rw [c]; decide
    replace h := q2n n4 h
    have n5 : ¬ a1 = (5 : Int32) := by rw [c]; decide
    replace h := q2n n5 h
    replace h := q2p c h
    first | exact h | contradiction
  · have n4 : ¬ a1 = (4 : Int32) := by rw [c]; decide
    replace h := q2n n4 h
    have n5 : ¬ a1 = (5 : Int32) := by rw [c]; decide
    replace h := q2n n5 h
    have n6 : ¬ a1 = (6 : Int32) := by rw [c]; decide
    replace h := q2n n6 h
    replace h := q2p c h
    first | exact h | contradiction
  · have n4 : ¬ a1 = (4 : Int32) := by rw [c]; decide
    replace h := q2n n4 h
    have n5 : ¬ a1 = (5 : Int32) := by rw [c]; decide
    replace h := q2n n5 h
    have n6 : ¬ a1 = (6 : Int32) := by rw [c]; decide
    replace h := q2n n6 h
    have n7 : ¬ a1 = (7 : Int32) := by rw [c]; decide
    replace h := q2n n7 h
    replace h := q2p c h
    first | exact h | contradiction
  · replace hr := hr.2 c
    have n4 : ¬ a1 = (4 : Int32) := by intro e9; rw [e9] at c; revert c; decide
    replace h := q2n n4 h
    have n5 : ¬ a1 = (5 : Int32) := by intro e9; rw [e9] at c; revert c; decide
    replace h := q2n n5 h
    have n6 : ¬ a1 = (6 : Int32) := by intro e9; rw [e9] at c; revert c; decide
    replace h := q2n n6 h
    have n7 : ¬ a1 = (7 : Int32) := by intro e9; rw [e9] at c; revert c; decide
    replace h := q2n n7 h
    have n8 : ¬ a1 = (8 : Int32) := by intro e9; rw [e9] at c; revert c; decide
    replace h := q2n n8 h
    refine ⟨fun c => ?_, fun c => ?_⟩
    · replace h := qlp c h
      first | exact h | contradiction
    · replace hr := hr c
      replace h := qln c h
      refine ⟨hr, ?_⟩
      first | exact h | contradiction
set_option maxRecDepth 1000000 in
theorem bX12_dies (a1 : Int32) (a2 : Int32) {s : SM} {Q : Int32 → SM → Prop} (h : (((vX12_isBody (pI s 248 0 (0 : Int32)) a1) = 0 → Q (-1 : Int32) (pI s 248 0 (0 : Int32))) ∧ (¬ (vX12_isBody (pI s 248 0 (0 : Int32)) a1) = 0 → ((¬ (vX12_isBody (pI s 248 0 (0 : Int32)) a2) = 0 → (((vX12_whyDies (pI s 248 0 (0 : Int32)) a1 a2) ≤ 0 → rX12_keep (pI s 248 0 (0 : Int32))  ∧ rX12_buries (mX12_keep (pI s 248 0 (0 : Int32)) ) a1 a2 ∧ Q (vX12_buries (mX12_keep (pI s 248 0 (0 : Int32)) ) a1 a2) (mX12_buries (mX12_keep (pI s 248 0 (0 : Int32)) ) a1 a2)) ∧ (¬ (vX12_whyDies (pI s 248 0 (0 : Int32)) a1 a2) ≤ 0 → Q ((-10 : Int32) - (vX12_whyDies (pI s 248 0 (0 : Int32)) a1 a2)) (pI s 248 0 (0 : Int32))))) ∧ ((vX12_isBody (pI s 248 0 (0 : Int32)) a2) = 0 → Q (-1 : Int32) (pI s 248 0 (0 : Int32))))))) : KI MX12_dies 4 [.ref 248, .int a1, .int a2] s Q := by
  show BI MX12_dies 4 0 [(0, .ref 248), (1, .int a1), (2, .int a2)] s Q
  refine JT_aload_n (q := 0) dX12_dies_0 rfl rfl ?_
  refine JT_iconst (v := 0) dX12_dies_1 ic_0 ?_
  refine JS_putI dX12_dies_2 flX12_1 BS_248 (Nat.le_of_ble_eq_true rfl) (Nat.le_of_ble_eq_true rfl) ct_12_0 ?_
  refine JT_aload_n (q := 0) dX12_dies_5 rfl rfl ?_
  refine JT_iload_n (q := 1) dX12_dies_6 rfl rfl ?_
  refine JS_callVI (M' := MX12_isBody) (d' := 1) (As := [.int a1]) (rest := []) (P := (fun zv9 wm9 => (vX12_isBody (pI s 248 0 (0 : Int32)) a1) = zv9 ∧ (pI s 248 0 (0 : Int32)) = wm9)) dX12_dies_7 cvX12_287 okX12_isBody rfl (Nat.le_of_ble_eq_true rfl) BS_248 (Nat.le_of_ble_eq_true rfl) (Nat.le_of_ble_eq_true rfl) hci_12 (Nat.le_of_ble_eq_true rfl) (Nat.le_of_ble_eq_true rfl) (pX12_isBody  (a1)  ⟨rfl, rfl⟩) (fun zv9 wm9 hq9 => ?_)
  obtain ⟨rfl, rfl⟩ := hq9
  refine JT_if_eq (tgt := 21) dX12_dies_10 (by decide) (fun hc7 => ?_) (fun hc7 => ?_)
  · have h := h.1 hc7
    refine JT_iconst (v := -1) dX12_dies_21 ic_m1 ?_
    exact JS_iret dX12_dies_22 rfl rfl h
  · have h := h.2 hc7
    refine JT_aload_n (q := 0) dX12_dies_13 rfl rfl ?_
    refine JT_iload_n (q := 2) dX12_dies_14 rfl rfl ?_
    refine JS_callVI (M' := MX12_isBody) (d' := 1) (As := [.int a2]) (rest := []) (P := (fun zv9 wm9 => (vX12_isBody (pI s 248 0 (0 : Int32)) a2) = zv9 ∧ (pI s 248 0 (0 : Int32)) = wm9)) dX12_dies_15 cvX12_287 okX12_isBody rfl (Nat.le_of_ble_eq_true rfl) BS_248 (Nat.le_of_ble_eq_true rfl) (Nat.le_of_ble_eq_true rfl) hci_12 (Nat.le_of_ble_eq_true rfl) (Nat.le_of_ble_eq_true rfl) (pX12_isBody  (a2)  ⟨rfl, rfl⟩) (fun zv9 wm9 hq9 => ?_)
    obtain ⟨rfl, rfl⟩ := hq9
    refine JT_if_ne (tgt := 23) dX12_dies_18 (by decide) (fun hc5 => ?_) (fun hc5 => ?_)
    · have h := h.1 hc5
      refine JT_aload_n (q := 0) dX12_dies_23 rfl rfl ?_
      refine JT_iload_n (q := 1) dX12_dies_24 rfl rfl ?_
      refine JT_iload_n (q := 2) dX12_dies_25 rfl rfl ?_
      refine JS_callVI (M' := MX12_whyDies) (d' := 2) (As := [.int a1, .int a2]) (rest := []) (P := (fun zv9 wm9 => (vX12_whyDies (pI s 248 0 (0 : Int32)) a1 a2) = zv9 ∧ (pI s 248 0 (0 : Int32)) = wm9)) dX12_dies_26 cvX12_374 okX12_whyDies rfl (Nat.le_of_ble_eq_true rfl) BS_248 (Nat.le_of_ble_eq_true rfl) (Nat.le_of_ble_eq_true rfl) hci_12 (Nat.le_of_ble_eq_true rfl) (Nat.le_of_ble_eq_true rfl) (pX12_whyDies  (a1) (a2)  ⟨rfl, rfl⟩) (fun zv9 wm9 hq9 => ?_)
      obtain ⟨rfl, rfl⟩ := hq9
      refine JT_istore_n (lv' := [(3, .int (vX12_whyDies (pI s 248 0 (0 : Int32)) a1 a2)), (0, .ref 248), (1, .int a1), (2, .int a2)]) dX12_dies_29 rfl (Nat.le_of_ble_eq_true rfl) rfl ?_
      refine JT_iload_n (q := 0) dX12_dies_30 rfl rfl ?_
      refine JT_if_le (tgt := 39) dX12_dies_31 (by decide) (fun hc3 => ?_) (fun hc3 => ?_)
      · have h := h.1 hc3
        refine JT_aload_n (q := 1) dX12_dies_39 rfl rfl ?_
        obtain ⟨o2, h⟩ := h
        refine JS_callVV (M' := MX12_keep) (d' := 0) (As := []) (rest := []) (P := (fun wm9 => (mX12_keep (pI s 248 0 (0 : Int32)) ) = wm9)) dX12_dies_40 cvX12_329 okX12_keep rfl (Nat.le_of_ble_eq_true rfl) BS_248 (Nat.le_of_ble_eq_true rfl) (Nat.le_of_ble_eq_true rfl) hci_12 (Nat.le_of_ble_eq_true rfl) (Nat.le_of_ble_eq_true rfl) (pX12_keep   o2 rfl) (fun wm9 hq9 => ?_)
        subst hq9
        refine JT_aload_n (q := 1) dX12_dies_43 rfl rfl ?_
        refine JT_iload_n (q := 2) dX12_dies_44 rfl rfl ?_
        refine JT_iload_n (q := 3) dX12_dies_45 rfl rfl ?_
        obtain ⟨o1, h⟩ := h
        refine JS_callVI (M' := MX12_buries) (d' := 3) (As := [.int a1, .int a2]) (rest := []) (P := (fun zv9 wm9 => (vX12_buries (mX12_keep (pI s 248 0 (0 : Int32)) ) a1 a2) = zv9 ∧ (mX12_buries (mX12_keep (pI s 248 0 (0 : Int32)) ) a1 a2) = wm9)) dX12_dies_46 cvX12_377 okX12_buries rfl (Nat.le_of_ble_eq_true rfl) BS_248 (Nat.le_of_ble_eq_true rfl) (Nat.le_of_ble_eq_true rfl) hci_12 (Nat.le_of_ble_eq_true rfl) (Nat.le_of_ble_eq_true rfl) (pX12_buries  (a1) (a2) o1 ⟨rfl, rfl⟩) (fun zv9 wm9 hq9 => ?_)
        obtain ⟨rfl, rfl⟩ := hq9
        exact JS_iret dX12_dies_49 rfl rfl h
      · have h := h.2 hc3
        refine JT_bipush (v := -10) dX12_dies_34 bp_m10 ?_
        refine JT_iload_n (q := 0) dX12_dies_36 rfl rfl ?_
        refine JT_isub dX12_dies_37 ?_
        exact JS_iret dX12_dies_38 rfl rfl h
    · have h := h.2 hc5
      refine JT_iconst (v := -1) dX12_dies_21 ic_m1 ?_
      exact JS_iret dX12_dies_22 rfl rfl h
set_option maxRecDepth 1000000 in
theorem pX12_dies (a1 : Int32) (a2 : Int32) {s : SM} {Q : Int32 → SM → Prop} (hr : rX12_dies s a1 a2) (h : Q (vX12_dies s a1 a2) (mX12_dies s a1 a2)) : KI MX12_dies 4 [.ref 248, .int a1, .int a2] s Q := by
  refine bX12_dies a1 a2 ?_
  unfold rX12_dies at hr
  unfold vX12_dies mX12_dies at h
  refine ⟨fun c => ?_, fun c => ?_⟩
  · replace h := q2p c h
    first | exact h | contradiction
  · replace hr := hr c
    replace h := q2n c h
    refine ⟨fun c => ?_, fun c => ?_⟩
    · replace hr := hr c
      replace h := q2n c h
      refine ⟨fun c => ?_, fun c => ?_⟩
      · replace hr := hr c
        replace h := q2p c h
        refine ⟨hr.1, ?_⟩
        replace hr := hr.2
        refine ⟨hr, ?_⟩
        first | exact h | contradiction
      · replace h := q2n c h
        first | exact h | contradiction
    · replace h := q2p c h
      first | exact h | contradiction
set_option maxRecDepth 1000000 in
theorem bX12_lostOf_4 (a1 : Int32) (a2 : Int32) (a3 : Int32) {s : SM} {Q : Int32 → SM → Prop} (h : (((gI s 250 ((34 : Int32)).toNatClampNeg) ≤ a3 → Q (if a1 = (-1 : Int32) then a2 else (-1 : Int32)) s) ∧ (¬ (gI s 250 ((34 : Int32)).toNatClampNeg) ≤ a3 → rX12_isLost s a3 ∧ ((¬ (vX12_isLost s a3) = 0 → ((¬ a2 = a1 → BI MX12_lostOf 4 4 [(0, .ref 248), (1, .int a1), (2, .int (a2 + 1)), (3, .int (a3 + 1))] s Q) ∧ (a2 = a1 → Q a3 s))) ∧ ((vX12_isLost s a3) = 0 → BI MX12_lostOf 4 4 [(0, .ref 248), (1, .int a1), (2, .int a2), (3, .int (a3 + 1))] s Q))))) : BI MX12_lostOf 4 4 [(0, .ref 248), (1, .int a1), (2, .int a2), (3, .int a3)] s Q := by
  refine JT_iload_n (q := 3) dX12_lostOf_4 rfl rfl ?_
  refine JT_aload_n (q := 0) dX12_lostOf_5 rfl rfl ?_
  refine JS_getR (x := 250) dX12_lostOf_6 flX12_33 BS_248 (Nat.le_of_ble_eq_true rfl) (Nat.le_of_ble_eq_true rfl) (Or.inr ⟨_, ct_12_6⟩) RF_248_6 ?_
  refine JT_bipush (v := 34) dX12_lostOf_9 bp_34 ?_
  refine JS_iald dX12_lostOf_11 BS_250 (Nat.le_of_ble_eq_true rfl) (Nat.le_of_ble_eq_true rfl) (by unfold vp_in; decide) ?_
  refine JT_icmp_ge (tgt := 42) dX12_lostOf_12 (by decide) (fun hc6 => ?_) (fun hc6 => ?_)
  · have h := h.1 hc6
    refine JT_iload_n (q := 1) dX12_lostOf_42 rfl rfl ?_
    refine JT_iconst (v := -1) dX12_lostOf_43 ic_m1 ?_
    have hj1 : ∀ v : Int32, v = (if a1 = (-1 : Int32) then a2 else (-1 : Int32)) → JT MX12_lostOf 4 0 0 52 [(0, .ref 248), (1, .int a1), (2, .int a2), (3, .int a3)] [.int v] (std s) (KQ Q) := by
      intro v hv
      subst hv
      exact JS_iret dX12_lostOf_52 rfl rfl h
    refine JT_icmp_ne (tgt := 51) dX12_lostOf_44 (by decide) (fun hc2 => ?_) (fun hc2 => ?_)
    · refine JT_iconst (v := -1) dX12_lostOf_51 ic_m1 ?_
      exact hj1 _ (by rw [if_neg hc2])
    · refine JT_iload_n (q := 2) dX12_lostOf_47 rfl rfl ?_
      refine JT_goto (tgt := 52) dX12_lostOf_48 (by decide) ?_
      exact hj1 _ (by rw [if_pos hc2])
  · have h := h.2 hc6
    refine JT_aload_n (q := 0) dX12_lostOf_15 rfl rfl ?_
    refine JT_iload_n (q := 3) dX12_lostOf_16 rfl rfl ?_
    obtain ⟨o5, h⟩ := h
    refine JS_callVI (M' := MX12_isLost) (d' := 3) (As := [.int a3]) (rest := []) (P := (fun zv9 wm9 => (vX12_isLost s a3) = zv9 ∧ s = wm9)) dX12_lostOf_17 cvX12_433 okX12_isLost rfl (Nat.le_of_ble_eq_true rfl) BS_248 (Nat.le_of_ble_eq_true rfl) (Nat.le_of_ble_eq_true rfl) hci_12 (Nat.le_of_ble_eq_true rfl) (Nat.le_of_ble_eq_true rfl) (pX12_isLost  (a3) o5 ⟨rfl, rfl⟩) (fun zv9 wm9 hq9 => ?_)
    obtain ⟨rfl, rfl⟩ := hq9
    refine JT_if_ne (tgt := 26) dX12_lostOf_20 (by decide) (fun hc4 => ?_) (fun hc4 => ?_)
    · have h := h.1 hc4
      refine JT_iload_n (q := 2) dX12_lostOf_26 rfl rfl ?_
      refine JT_iload_n (q := 1) dX12_lostOf_27 rfl rfl ?_
      refine JT_icmp_ne (tgt := 33) dX12_lostOf_28 (by decide) (fun hc3 => ?_) (fun hc3 => ?_)
      · have h := h.1 hc3
        refine JT_iinc (q := 2) (v := (a2 + 1)) (lv' := [(2, .int (a2 + 1)), (0, .ref 248), (1, .int a1), (3, .int a3)]) dX12_lostOf_33 rfl (by rfl) (Nat.le_of_ble_eq_true rfl) rfl ?_
        refine JT_iinc (q := 3) (v := (a3 + 1)) (lv' := [(3, .int (a3 + 1)), (2, .int (a2 + 1)), (0, .ref 248), (1, .int a1)]) dX12_lostOf_36 rfl (by rfl) (Nat.le_of_ble_eq_true rfl) rfl ?_
        refine JT_goto (tgt := 4) dX12_lostOf_39 (by decide) ?_
        exact JT_sub [2, 3, 1, 0] rfl h
      · have h := h.2 hc3
        refine JT_iload_n (q := 3) dX12_lostOf_31 rfl rfl ?_
        exact JS_iret dX12_lostOf_32 rfl rfl h
    · have h := h.2 hc4
      refine JT_goto (tgt := 36) dX12_lostOf_23 (by decide) ?_
      refine JT_iinc (q := 3) (v := (a3 + 1)) (lv' := [(3, .int (a3 + 1)), (0, .ref 248), (1, .int a1), (2, .int a2)]) dX12_lostOf_36 rfl (by rfl) (Nat.le_of_ble_eq_true rfl) rfl ?_
      refine JT_goto (tgt := 4) dX12_lostOf_39 (by decide) ?_
      exact JT_sub [1, 2, 3, 0] rfl h
set_option maxRecDepth 1000000 in
theorem bX12_lostOf (a1 : Int32) {s : SM} {Q : Int32 → SM → Prop} (h : BI MX12_lostOf 4 4 [(0, .ref 248), (1, .int a1), (2, .int (0 : Int32)), (3, .int (0 : Int32))] s Q) : KI MX12_lostOf 4 [.ref 248, .int a1] s Q := by
  show BI MX12_lostOf 4 0 [(0, .ref 248), (1, .int a1)] s Q
  refine JT_iconst (v := 0) dX12_lostOf_0 ic_0 ?_
  refine JT_istore_n (lv' := [(2, .int (0 : Int32)), (0, .ref 248), (1, .int a1)]) dX12_lostOf_1 rfl (Nat.le_of_ble_eq_true rfl) rfl ?_
  refine JT_iconst (v := 0) dX12_lostOf_2 ic_0 ?_
  refine JT_istore_n (lv' := [(3, .int (0 : Int32)), (2, .int (0 : Int32)), (0, .ref 248), (1, .int a1)]) dX12_lostOf_3 rfl (Nat.le_of_ble_eq_true rfl) rfl ?_
  exact JT_sub [2, 3, 1, 0] rfl h
set_option maxRecDepth 1000000 in
theorem gX12_lostOf  : ∀ n : Nat, (∀ (a1 : Int32) (a2 : Int32) (a3 : Int32) (s : SM) (Q : Int32 → SM → Prop), ((qX12_lostOf n) s a1 a2 a3) → Q ((lX12_lostOf n) s a1 a2 a3) s → BI MX12_lostOf 4 4 [(0, .ref 248), (1, .int a1), (2, .int a2), (3, .int a3)] s Q) := by
  intro n
  induction n with
  | zero => exact fun _ _ _ _ _ hq _ => absurd hq id
  | succ n ih =>
    intro a1 a2 a3 s Q hr h
    replace hr : uX12_lostOf_4 (qX12_lostOf n) s a1 a2 a3 := hr
    replace h : Q (tX12_lostOf_4 (lX12_lostOf n) s a1 a2 a3) s := h
    unfold uX12_lostOf_4 at hr
    unfold tX12_lostOf_4 at h
    refine bX12_lostOf_4 a1 a2 a3 ?_
    refine ⟨fun c => ?_, fun c => ?_⟩
    · replace h := qlp c h
      first | exact h | contradiction
    · replace hr := hr c
      replace h := qln c h
      refine ⟨hr.1, ?_⟩
      replace hr := hr.2
      refine ⟨fun c => ?_, fun c => ?_⟩
      · replace hr := hr.1 c
        replace h := qln c h
        refine ⟨fun c => ?_, fun c => ?_⟩
        · replace hr := hr c
          replace h := qln c h
          first | exact ih a1 (a2 + 1) (a3 + 1) _ Q hr h | contradiction
        · replace h := qlp c h
          first | exact h | contradiction
      · replace hr := hr.2 c
        replace h := qlp c h
        first | exact ih a1 a2 (a3 + 1) _ Q hr h | contradiction
set_option maxRecDepth 1000000 in
theorem pX12_lostOf (a1 : Int32) {s : SM} {Q : Int32 → SM → Prop} (hr : rX12_lostOf s a1) (h : Q (vX12_lostOf s a1) s) : KI MX12_lostOf 4 [.ref 248, .int a1] s Q := by
  replace h : Q (fX12_lostOf s a1) s := h
  unfold rX12_lostOf at hr
  unfold fX12_lostOf at h
  refine bX12_lostOf a1 ?_
  first | exact (gX12_lostOf  FU) a1 (0 : Int32) (0 : Int32) _ Q hr h | contradiction
set_option maxRecDepth 1000000 in
theorem bX12_owed (a1 : Int32) (a2 : Int32) (a3 : Int32) {s : SM} {Q : Int32 → SM → Prop} (h : (((vX12_isBody (pI s 248 0 (0 : Int32)) a1) = 0 → Q (-1 : Int32) (pI s 248 0 (0 : Int32))) ∧ (¬ (vX12_isBody (pI s 248 0 (0 : Int32)) a1) = 0 → (((vX12_isFound (pI s 248 0 (0 : Int32)) a2) = 0 → Q (-1 : Int32) (pI s 248 0 (0 : Int32))) ∧ (¬ (vX12_isFound (pI s 248 0 (0 : Int32)) a2) = 0 → (((vX12_isIn (pI s 248 0 (0 : Int32)) a3 (0 : Int32) (1 : Int32)) = 0 → Q (-1 : Int32) (pI s 248 0 (0 : Int32))) ∧ (¬ (vX12_isIn (pI s 248 0 (0 : Int32)) a3 (0 : Int32) (1 : Int32)) = 0 → rX12_owedBy (pI s 248 0 (0 : Int32)) a1 a2 (if a3 = 0 then (1 : Int32) else (0 : Int32)) ∧ Q (vX12_owedBy (pI s 248 0 (0 : Int32)) a1 a2 (if a3 = 0 then (1 : Int32) else (0 : Int32))) (pI s 248 0 (0 : Int32))))))))) : KI MX12_owed 4 [.ref 248, .int a1, .int a2, .int a3] s Q := by
  show BI MX12_owed 4 0 [(0, .ref 248), (1, .int a1), (2, .int a2), (3, .int a3)] s Q
  refine JT_aload_n (q := 0) dX12_owed_0 rfl rfl ?_
  refine JT_iconst (v := 0) dX12_owed_1 ic_0 ?_
  refine JS_putI dX12_owed_2 flX12_1 BS_248 (Nat.le_of_ble_eq_true rfl) (Nat.le_of_ble_eq_true rfl) ct_12_0 ?_
  refine JT_aload_n (q := 0) dX12_owed_5 rfl rfl ?_
  refine JT_iload_n (q := 1) dX12_owed_6 rfl rfl ?_
  refine JS_callVI (M' := MX12_isBody) (d' := 1) (As := [.int a1]) (rest := []) (P := (fun zv9 wm9 => (vX12_isBody (pI s 248 0 (0 : Int32)) a1) = zv9 ∧ (pI s 248 0 (0 : Int32)) = wm9)) dX12_owed_7 cvX12_287 okX12_isBody rfl (Nat.le_of_ble_eq_true rfl) BS_248 (Nat.le_of_ble_eq_true rfl) (Nat.le_of_ble_eq_true rfl) hci_12 (Nat.le_of_ble_eq_true rfl) (Nat.le_of_ble_eq_true rfl) (pX12_isBody  (a1)  ⟨rfl, rfl⟩) (fun zv9 wm9 hq9 => ?_)
  obtain ⟨rfl, rfl⟩ := hq9
  refine JT_if_eq (tgt := 48) dX12_owed_10 (by decide) (fun hc8 => ?_) (fun hc8 => ?_)
  · have h := h.1 hc8
    refine JT_iconst (v := -1) dX12_owed_48 ic_m1 ?_
    exact JS_iret dX12_owed_49 rfl rfl h
  · have h := h.2 hc8
    refine JT_aload_n (q := 0) dX12_owed_13 rfl rfl ?_
    refine JT_iload_n (q := 2) dX12_owed_14 rfl rfl ?_
    refine JS_callVI (M' := MX12_isFound) (d' := 1) (As := [.int a2]) (rest := []) (P := (fun zv9 wm9 => (vX12_isFound (pI s 248 0 (0 : Int32)) a2) = zv9 ∧ (pI s 248 0 (0 : Int32)) = wm9)) dX12_owed_15 cvX12_445 okX12_isFound rfl (Nat.le_of_ble_eq_true rfl) BS_248 (Nat.le_of_ble_eq_true rfl) (Nat.le_of_ble_eq_true rfl) hci_12 (Nat.le_of_ble_eq_true rfl) (Nat.le_of_ble_eq_true rfl) (pX12_isFound  (a2)  ⟨rfl, rfl⟩) (fun zv9 wm9 hq9 => ?_)
    obtain ⟨rfl, rfl⟩ := hq9
    refine JT_if_eq (tgt := 48) dX12_owed_18 (by decide) (fun hc6 => ?_) (fun hc6 => ?_)
    · have h := h.1 hc6
      refine JT_iconst (v := -1) dX12_owed_48 ic_m1 ?_
      exact JS_iret dX12_owed_49 rfl rfl h
    · have h := h.2 hc6
      refine JT_iload_n (q := 3) dX12_owed_21 rfl rfl ?_
      refine JT_iconst (v := 0) dX12_owed_22 ic_0 ?_
      refine JT_iconst (v := 1) dX12_owed_23 ic_1 ?_
      refine JS_callSI (M' := MX12_isIn) (d' := 0) (As := [.int a3, .int (0 : Int32), .int (1 : Int32)]) (rest := []) (P := (fun zv9 wm9 => (vX12_isIn (pI s 248 0 (0 : Int32)) a3 (0 : Int32) (1 : Int32)) = zv9 ∧ (pI s 248 0 (0 : Int32)) = wm9)) dX12_owed_24 cvX12_202 okX12_isIn rfl (Nat.le_of_ble_eq_true rfl) (Nat.le_of_ble_eq_true rfl) (Nat.le_of_ble_eq_true rfl) (pX12_isIn  (a3) ((0 : Int32)) ((1 : Int32))  ⟨rfl, rfl⟩) (fun zv9 wm9 hq9 => ?_)
      obtain ⟨rfl, rfl⟩ := hq9
      refine JT_if_eq (tgt := 48) dX12_owed_27 (by decide) (fun hc4 => ?_) (fun hc4 => ?_)
      · have h := h.1 hc4
        refine JT_iconst (v := -1) dX12_owed_48 ic_m1 ?_
        exact JS_iret dX12_owed_49 rfl rfl h
      · have h := h.2 hc4
        refine JT_aload_n (q := 0) dX12_owed_30 rfl rfl ?_
        refine JT_iload_n (q := 1) dX12_owed_31 rfl rfl ?_
        refine JT_iload_n (q := 2) dX12_owed_32 rfl rfl ?_
        refine JT_iload_n (q := 3) dX12_owed_33 rfl rfl ?_
        have hj2 : ∀ v : Int32, v = (if a3 = 0 then (1 : Int32) else (0 : Int32)) → JT MX12_owed 4 0 0 42 [(0, .ref 248), (1, .int a1), (2, .int a2), (3, .int a3)] [.int v, .int a2, .int a1, .ref 248] (std (pI s 248 0 (0 : Int32))) (KQ Q) := by
          intro v hv
          subst hv
          obtain ⟨o1, h⟩ := h
          refine JS_callVI (M' := MX12_owedBy) (d' := 3) (As := [.int a1, .int a2, .int (if a3 = 0 then (1 : Int32) else (0 : Int32))]) (rest := []) (P := (fun zv9 wm9 => (vX12_owedBy (pI s 248 0 (0 : Int32)) a1 a2 (if a3 = 0 then (1 : Int32) else (0 : Int32))) = zv9 ∧ (pI s 248 0 (0 : Int32)) = wm9)) dX12_owed_42 cvX12_448 okX12_owedBy rfl (Nat.le_of_ble_eq_true rfl) BS_248 (Nat.le_of_ble_eq_true rfl) (Nat.le_of_ble_eq_true rfl) hci_12 (Nat.le_of_ble_eq_true rfl) (Nat.le_of_ble_eq_true rfl) (pX12_owedBy  (a1) (a2) ((if a3 = 0 then (1 : Int32) else (0 : Int32))) o1 ⟨rfl, rfl⟩) (fun zv9 wm9 hq9 => ?_)
          obtain ⟨rfl, rfl⟩ := hq9
          refine JT_goto (tgt := 49) dX12_owed_45 (by decide) ?_
          exact JS_iret dX12_owed_49 rfl rfl h
        refine JT_if_ne (tgt := 41) dX12_owed_34 (by decide) (fun hc3 => ?_) (fun hc3 => ?_)
        · refine JT_iconst (v := 0) dX12_owed_41 ic_0 ?_
          exact hj2 _ (by rw [if_neg hc3])
        · refine JT_iconst (v := 1) dX12_owed_37 ic_1 ?_
          refine JT_goto (tgt := 42) dX12_owed_38 (by decide) ?_
          exact hj2 _ (by rw [if_pos hc3])
set_option maxRecDepth 1000000 in
theorem pX12_owed (a1 : Int32) (a2 : Int32) (a3 : Int32) {s : SM} {Q : Int32 → SM → Prop} (hr : rX12_owed s a1 a2 a3) (h : Q (vX12_owed s a1 a2 a3) (mX12_owed s a1 a2 a3)) : KI MX12_owed 4 [.ref 248, .int a1, .int a2, .int a3] s Q := by
  refine bX12_owed a1 a2 a3 ?_
  unfold rX12_owed at hr
  unfold vX12_owed mX12_owed at h
  refine ⟨fun c => ?_, fun c => ?_⟩
  · replace h := qlp c h
    first | exact h | contradiction
  · replace hr := hr c
    replace h := qln c h
    refine ⟨fun c => ?_, fun c => ?_⟩
    · replace h := qlp c h
      first | exact h | contradiction
    · replace hr := hr c
      replace h := qln c h
      refine ⟨fun c => ?_, fun c => ?_⟩
      · replace h := qlp c h
        first | exact h | contradiction
      · replace hr := hr c
        replace h := qln c h
        refine ⟨hr, ?_⟩
        first | exact h | contradiction
set_option maxRecDepth 1000000 in
theorem bX12_port_34 (a1 : Int32) {s : SM} {Q : Int32 → SM → Prop} (h : (((34 : Int32) ≤ a1 → rX12_next (pI s 251 ((2 : Int32)).toNatClampNeg (1 : Int32))  ∧ BI MX12_port 4 64 [(0, .ref 248), (1, .int a1)] (mX12_next (pI s 251 ((2 : Int32)).toNatClampNeg (1 : Int32)) ) Q) ∧ (¬ (34 : Int32) ≤ a1 → vp_in a1 34 ∧ BI MX12_port 4 34 [(0, .ref 248), (1, .int (a1 + 1))] (pI s 251 (a1).toNatClampNeg (0 : Int32)) Q))) : BI MX12_port 4 34 [(0, .ref 248), (1, .int a1)] s Q := by
  refine JT_iload_n (q := 1) dX12_port_34 rfl rfl ?_
  refine JT_bipush (v := 34) dX12_port_35 bp_34 ?_
  refine JT_icmp_ge (tgt := 53) dX12_port_37 (by decide) (fun hc3 => ?_) (fun hc3 => ?_)
  · have h := h.1 hc3
    refine JT_aload_n (q := 0) dX12_port_53 rfl rfl ?_
    refine JS_getR (x := 251) dX12_port_54 flX12_37 BS_248 (Nat.le_of_ble_eq_true rfl) (Nat.le_of_ble_eq_true rfl) (Or.inr ⟨_, ct_12_7⟩) RF_248_7 ?_
    refine JT_iconst (v := 2) dX12_port_57 ic_2 ?_
    refine JT_iconst (v := 1) dX12_port_58 ic_1 ?_
    refine JS_iast dX12_port_59 BS_251 (Nat.le_of_ble_eq_true rfl) (Nat.le_of_ble_eq_true rfl) (by unfold vp_in; decide) ?_
    refine JT_aload_n (q := 0) dX12_port_60 rfl rfl ?_
    obtain ⟨o1, h⟩ := h
    refine JS_callVV (M' := MX12_next) (d' := 1) (As := []) (rest := []) (P := (fun wm9 => (mX12_next (pI s 251 ((2 : Int32)).toNatClampNeg (1 : Int32)) ) = wm9)) dX12_port_61 cvX12_199 okX12_next rfl (Nat.le_of_ble_eq_true rfl) BS_248 (Nat.le_of_ble_eq_true rfl) (Nat.le_of_ble_eq_true rfl) hci_12 (Nat.le_of_ble_eq_true rfl) (Nat.le_of_ble_eq_true rfl) (pX12_next   o1 rfl) (fun wm9 hq9 => ?_)
    subst hq9
    exact JT_sub [0, 1] rfl h
  · have h := h.2 hc3
    refine JT_aload_n (q := 0) dX12_port_40 rfl rfl ?_
    refine JS_getR (x := 251) dX12_port_41 flX12_37 BS_248 (Nat.le_of_ble_eq_true rfl) (Nat.le_of_ble_eq_true rfl) (Or.inr ⟨_, ct_12_7⟩) RF_248_7 ?_
    refine JT_iload_n (q := 1) dX12_port_44 rfl rfl ?_
    refine JT_iconst (v := 0) dX12_port_45 ic_0 ?_
    obtain ⟨o2, h⟩ := h
    refine JS_iast dX12_port_46 BS_251 (Nat.le_of_ble_eq_true rfl) (Nat.le_of_ble_eq_true rfl) o2 ?_
    refine JT_iinc (q := 1) (v := (a1 + 1)) (lv' := [(1, .int (a1 + 1)), (0, .ref 248)]) dX12_port_47 rfl (by rfl) (Nat.le_of_ble_eq_true rfl) rfl ?_
    refine JT_goto (tgt := 34) dX12_port_50 (by decide) ?_
    exact JT_sub [1, 0] rfl h
set_option maxRecDepth 1000000 in
theorem bX12_port_64 (a1 : Int32) {s : SM} {Q : Int32 → SM → Prop} (h : (((gI s 248 11) = 0 → BI MX12_port 4 109 [(0, .ref 248), (1, .int (0 : Int32))] s Q) ∧ (¬ (gI s 248 11) = 0 → rX12_portLine s  ∧ (((vX12_portLine s ) = 0 → Q ((-1 : Int32) - (gI (mX12_portLine s ) 248 16)) (mX12_portLine s )) ∧ (¬ (vX12_portLine s ) = 0 → rX12_sign (mX12_portLine s ) (59 : Int32) ∧ ((¬ (vX12_sign (mX12_portLine s ) (59 : Int32)) = 0 → (∀ s1, s1 = (pI (mX12_sign (mX12_portLine s ) (59 : Int32)) 248 19 ((gI (mX12_sign (mX12_portLine s ) (59 : Int32)) 248 19) + (1 : Int32))) → BI MX12_port 4 64 [(0, .ref 248), (1, .int a1)] s1 Q)) ∧ ((vX12_sign (mX12_portLine s ) (59 : Int32)) = 0 → Q ((-1 : Int32) - (gI (mX12_sign (mX12_portLine s ) (59 : Int32)) 248 16)) (mX12_sign (mX12_portLine s ) (59 : Int32))))))))) : BI MX12_port 4 64 [(0, .ref 248), (1, .int a1)] s Q := by
  refine JT_aload_n (q := 0) dX12_port_64 rfl rfl ?_
  refine JS_getI dX12_port_65 flX12_170 BS_248 (Nat.le_of_ble_eq_true rfl) (Nat.le_of_ble_eq_true rfl) (Or.inl ct_12_11) ?_
  refine JT_if_eq (tgt := 107) dX12_port_68 (by decide) (fun hc6 => ?_) (fun hc6 => ?_)
  · have h := h.1 hc6
    refine JT_iconst (v := 0) dX12_port_107 ic_0 ?_
    refine JT_istore_n (lv' := [(1, .int (0 : Int32)), (0, .ref 248)]) dX12_port_108 rfl (Nat.le_of_ble_eq_true rfl) rfl ?_
    exact JT_sub [1, 0] rfl h
  · have h := h.2 hc6
    refine JT_aload_n (q := 0) dX12_port_71 rfl rfl ?_
    obtain ⟨o5, h⟩ := h
    refine JS_callVI (M' := MX12_portLine) (d' := 3) (As := []) (rest := []) (P := (fun zv9 wm9 => (vX12_portLine s ) = zv9 ∧ (mX12_portLine s ) = wm9)) dX12_port_72 cvX12_244 okX12_portLine rfl (Nat.le_of_ble_eq_true rfl) BS_248 (Nat.le_of_ble_eq_true rfl) (Nat.le_of_ble_eq_true rfl) hci_12 (Nat.le_of_ble_eq_true rfl) (Nat.le_of_ble_eq_true rfl) (pX12_portLine   o5 ⟨rfl, rfl⟩) (fun zv9 wm9 hq9 => ?_)
    obtain ⟨rfl, rfl⟩ := hq9
    refine JT_if_eq (tgt := 87) dX12_port_75 (by decide) (fun hc4 => ?_) (fun hc4 => ?_)
    · have h := h.1 hc4
      refine JT_iconst (v := -1) dX12_port_87 ic_m1 ?_
      refine JT_aload_n (q := 0) dX12_port_88 rfl rfl ?_
      refine JS_getI dX12_port_89 flX12_190 BS_248 (Nat.le_of_ble_eq_true rfl) (Nat.le_of_ble_eq_true rfl) (Or.inl ct_12_16) ?_
      refine JT_isub dX12_port_92 ?_
      exact JS_iret dX12_port_93 rfl rfl h
    · have h := h.2 hc4
      refine JT_aload_n (q := 0) dX12_port_78 rfl rfl ?_
      refine JT_bipush (v := 59) dX12_port_79 bp_59 ?_
      obtain ⟨o3, h⟩ := h
      refine JS_callVI (M' := MX12_sign) (d' := 2) (As := [.int (59 : Int32)]) (rest := []) (P := (fun zv9 wm9 => (vX12_sign (mX12_portLine s ) (59 : Int32)) = zv9 ∧ (mX12_sign (mX12_portLine s ) (59 : Int32)) = wm9)) dX12_port_81 cvX12_247 okX12_sign rfl (Nat.le_of_ble_eq_true rfl) BS_248 (Nat.le_of_ble_eq_true rfl) (Nat.le_of_ble_eq_true rfl) hci_12 (Nat.le_of_ble_eq_true rfl) (Nat.le_of_ble_eq_true rfl) (pX12_sign  ((59 : Int32)) o3 ⟨rfl, rfl⟩) (fun zv9 wm9 hq9 => ?_)
      obtain ⟨rfl, rfl⟩ := hq9
      refine JT_if_ne (tgt := 94) dX12_port_84 (by decide) (fun hc2 => ?_) (fun hc2 => ?_)
      · have h := h.1 hc2
        refine JT_aload_n (q := 0) dX12_port_94 rfl rfl ?_
        refine JT_dup dX12_port_95 rfl ?_
        refine JS_getI dX12_port_96 flX12_241 BS_248 (Nat.le_of_ble_eq_true rfl) (Nat.le_of_ble_eq_true rfl) (Or.inl ct_12_19) ?_
        refine JT_iconst (v := 1) dX12_port_99 ic_1 ?_
        refine JT_iadd dX12_port_100 ?_
        refine JS_putI dX12_port_101 flX12_241 BS_248 (Nat.le_of_ble_eq_true rfl) (Nat.le_of_ble_eq_true rfl) ct_12_19 ?_
        obtain ⟨s1, hs1⟩ : ∃ z, z = (pI (mX12_sign (mX12_portLine s ) (59 : Int32)) 248 19 ((gI (mX12_sign (mX12_portLine s ) (59 : Int32)) 248 19) + (1 : Int32))) := ⟨_, rfl⟩
        replace h := h s1 hs1
        rw [← hs1]
        refine JT_goto (tgt := 64) dX12_port_104 (by decide) ?_
        exact JT_sub [0, 1] rfl h
      · have h := h.2 hc2
        refine JT_iconst (v := -1) dX12_port_87 ic_m1 ?_
        refine JT_aload_n (q := 0) dX12_port_88 rfl rfl ?_
        refine JS_getI dX12_port_89 flX12_190 BS_248 (Nat.le_of_ble_eq_true rfl) (Nat.le_of_ble_eq_true rfl) (Or.inl ct_12_16) ?_
        refine JT_isub dX12_port_92 ?_
        exact JS_iret dX12_port_93 rfl rfl h
set_option maxRecDepth 1000000 in
theorem bX12_port_109 (a1 : Int32) {s : SM} {Q : Int32 → SM → Prop} (h : (((787 : Int32) ≤ a1 → BI MX12_port 4 146 [(0, .ref 248), (1, .int (0 : Int32))] s Q) ∧ (¬ (787 : Int32) ≤ a1 → (((34 : Int32) ≤ a1 → vp_in a1 787 ∧ BI MX12_port 4 109 [(0, .ref 248), (1, .int (a1 + 1))] (pI s 250 (a1).toNatClampNeg (0 : Int32)) Q) ∧ (¬ (34 : Int32) ≤ a1 → vp_in a1 34 ∧ vp_in a1 787 ∧ BI MX12_port 4 109 [(0, .ref 248), (1, .int (a1 + 1))] (pI s 250 (a1).toNatClampNeg (gI s 251 (a1).toNatClampNeg)) Q))))) : BI MX12_port 4 109 [(0, .ref 248), (1, .int a1)] s Q := by
  refine JT_iload_n (q := 1) dX12_port_109 rfl rfl ?_
  refine JT_sipush (v := 787) dX12_port_110 sp_787 ?_
  refine JT_icmp_ge (tgt := 144) dX12_port_113 (by decide) (fun hc5 => ?_) (fun hc5 => ?_)
  · have h := h.1 hc5
    refine JT_iconst (v := 0) dX12_port_144 ic_0 ?_
    refine JT_istore_n (lv' := [(1, .int (0 : Int32)), (0, .ref 248)]) dX12_port_145 rfl (Nat.le_of_ble_eq_true rfl) rfl ?_
    exact JT_sub [1, 0] rfl h
  · have h := h.2 hc5
    refine JT_aload_n (q := 0) dX12_port_116 rfl rfl ?_
    refine JS_getR (x := 250) dX12_port_117 flX12_33 BS_248 (Nat.le_of_ble_eq_true rfl) (Nat.le_of_ble_eq_true rfl) (Or.inr ⟨_, ct_12_6⟩) RF_248_6 ?_
    refine JT_iload_n (q := 1) dX12_port_120 rfl rfl ?_
    refine JT_iload_n (q := 1) dX12_port_121 rfl rfl ?_
    refine JT_bipush (v := 34) dX12_port_122 bp_34 ?_
    refine JT_icmp_ge (tgt := 136) dX12_port_124 (by decide) (fun hc4 => ?_) (fun hc4 => ?_)
    · have h := h.1 hc4
      refine JT_iconst (v := 0) dX12_port_136 ic_0 ?_
      obtain ⟨o1, h⟩ := h
      refine JS_iast dX12_port_137 BS_250 (Nat.le_of_ble_eq_true rfl) (Nat.le_of_ble_eq_true rfl) o1 ?_
      refine JT_iinc (q := 1) (v := (a1 + 1)) (lv' := [(1, .int (a1 + 1)), (0, .ref 248)]) dX12_port_138 rfl (by rfl) (Nat.le_of_ble_eq_true rfl) rfl ?_
      refine JT_goto (tgt := 109) dX12_port_141 (by decide) ?_
      exact JT_sub [1, 0] rfl h
    · have h := h.2 hc4
      refine JT_aload_n (q := 0) dX12_port_127 rfl rfl ?_
      refine JS_getR (x := 251) dX12_port_128 flX12_37 BS_248 (Nat.le_of_ble_eq_true rfl) (Nat.le_of_ble_eq_true rfl) (Or.inr ⟨_, ct_12_7⟩) RF_248_7 ?_
      refine JT_iload_n (q := 1) dX12_port_131 rfl rfl ?_
      obtain ⟨o2, h⟩ := h
      refine JS_iald dX12_port_132 BS_251 (Nat.le_of_ble_eq_true rfl) (Nat.le_of_ble_eq_true rfl) o2 ?_
      refine JT_goto (tgt := 137) dX12_port_133 (by decide) ?_
      obtain ⟨o3, h⟩ := h
      refine JS_iast dX12_port_137 BS_250 (Nat.le_of_ble_eq_true rfl) (Nat.le_of_ble_eq_true rfl) o3 ?_
      refine JT_iinc (q := 1) (v := (a1 + 1)) (lv' := [(1, .int (a1 + 1)), (0, .ref 248)]) dX12_port_138 rfl (by rfl) (Nat.le_of_ble_eq_true rfl) rfl ?_
      refine JT_goto (tgt := 109) dX12_port_141 (by decide) ?_
      exact JT_sub [1, 0] rfl h
set_option maxRecDepth 1000000 in
theorem bX12_port_146 (a1 : Int32) {s : SM} {Q : Int32 → SM → Prop} (h : (((15 : Int32) ≤ a1 → (∀ s1, s1 = (pI (pI (pI s 248 25 (0 : Int32)) 248 22 ((gI (pI s 248 25 (0 : Int32)) 248 23) + (1 : Int32))) 248 23 ((gI (pI (pI s 248 25 (0 : Int32)) 248 22 ((gI (pI s 248 25 (0 : Int32)) 248 23) + (1 : Int32))) 248 23) + (1 : Int32))) → Q (gI s1 248 19) s1)) ∧ (¬ (15 : Int32) ≤ a1 → vp_in ((15 : Int32) + a1) 30 ∧ vp_in a1 30 ∧ BI MX12_port 4 146 [(0, .ref 248), (1, .int (a1 + 1))] (pL s 253 (a1).toNatClampNeg (gL s 253 (((15 : Int32) + a1)).toNatClampNeg)) Q))) : BI MX12_port 4 146 [(0, .ref 248), (1, .int a1)] s Q := by
  refine JT_iload_n (q := 1) dX12_port_146 rfl rfl ?_
  refine JT_bipush (v := 15) dX12_port_147 bp_15 ?_
  refine JT_icmp_ge (tgt := 173) dX12_port_149 (by decide) (fun hc4 => ?_) (fun hc4 => ?_)
  · have h := h.1 hc4
    refine JT_aload_n (q := 0) dX12_port_173 rfl rfl ?_
    refine JT_iconst (v := 0) dX12_port_174 ic_0 ?_
    refine JS_putI dX12_port_175 flX12_250 BS_248 (Nat.le_of_ble_eq_true rfl) (Nat.le_of_ble_eq_true rfl) ct_12_25 ?_
    refine JT_aload_n (q := 0) dX12_port_178 rfl rfl ?_
    refine JT_aload_n (q := 0) dX12_port_179 rfl rfl ?_
    refine JS_getI dX12_port_180 flX12_253 BS_248 (Nat.le_of_ble_eq_true rfl) (Nat.le_of_ble_eq_true rfl) (Or.inl ct_12_23) ?_
    refine JT_iconst (v := 1) dX12_port_183 ic_1 ?_
    refine JT_iadd dX12_port_184 ?_
    refine JS_putI dX12_port_185 flX12_256 BS_248 (Nat.le_of_ble_eq_true rfl) (Nat.le_of_ble_eq_true rfl) ct_12_22 ?_
    refine JT_aload_n (q := 0) dX12_port_188 rfl rfl ?_
    refine JT_dup dX12_port_189 rfl ?_
    refine JS_getI dX12_port_190 flX12_253 BS_248 (Nat.le_of_ble_eq_true rfl) (Nat.le_of_ble_eq_true rfl) (Or.inl ct_12_23) ?_
    refine JT_iconst (v := 1) dX12_port_193 ic_1 ?_
    refine JT_iadd dX12_port_194 ?_
    refine JS_putI dX12_port_195 flX12_253 BS_248 (Nat.le_of_ble_eq_true rfl) (Nat.le_of_ble_eq_true rfl) ct_12_23 ?_
    obtain ⟨s1, hs1⟩ : ∃ z, z = (pI (pI (pI s 248 25 (0 : Int32)) 248 22 ((gI (pI s 248 25 (0 : Int32)) 248 23) + (1 : Int32))) 248 23 ((gI (pI (pI s 248 25 (0 : Int32)) 248 22 ((gI (pI s 248 25 (0 : Int32)) 248 23) + (1 : Int32))) 248 23) + (1 : Int32))) := ⟨_, rfl⟩
    replace h := h s1 hs1
    rw [← hs1]
    refine JT_aload_n (q := 0) dX12_port_198 rfl rfl ?_
    refine JS_getI dX12_port_199 flX12_241 BS_248 (Nat.le_of_ble_eq_true rfl) (Nat.le_of_ble_eq_true rfl) (Or.inl ct_12_19) ?_
    exact JS_iret dX12_port_202 rfl rfl h
  · have h := h.2 hc4
    refine JT_aload_n (q := 0) dX12_port_152 rfl rfl ?_
    refine JS_getR (x := 253) dX12_port_153 flX12_43 BS_248 (Nat.le_of_ble_eq_true rfl) (Nat.le_of_ble_eq_true rfl) (Or.inr ⟨_, ct_12_9⟩) RF_248_9 ?_
    refine JT_iload_n (q := 1) dX12_port_156 rfl rfl ?_
    refine JT_aload_n (q := 0) dX12_port_157 rfl rfl ?_
    refine JS_getR (x := 253) dX12_port_158 flX12_43 BS_248 (Nat.le_of_ble_eq_true rfl) (Nat.le_of_ble_eq_true rfl) (Or.inr ⟨_, ct_12_9⟩) RF_248_9 ?_
    refine JT_bipush (v := 15) dX12_port_161 bp_15 ?_
    refine JT_iload_n (q := 1) dX12_port_163 rfl rfl ?_
    refine JT_iadd dX12_port_164 ?_
    obtain ⟨o2, h⟩ := h
    refine JS_lald dX12_port_165 BS_253 (Nat.le_of_ble_eq_true rfl) (Nat.le_of_ble_eq_true rfl) o2 ?_
    obtain ⟨o3, h⟩ := h
    refine JS_last dX12_port_166 BS_253 (Nat.le_of_ble_eq_true rfl) (Nat.le_of_ble_eq_true rfl) o3 ?_
    refine JT_iinc (q := 1) (v := (a1 + 1)) (lv' := [(1, .int (a1 + 1)), (0, .ref 248)]) dX12_port_167 rfl (by rfl) (Nat.le_of_ble_eq_true rfl) rfl ?_
    refine JT_goto (tgt := 146) dX12_port_170 (by decide) ?_
    exact JT_sub [1, 0] rfl h
set_option maxRecDepth 1000000 in
theorem bX12_port  {s : SM} {Q : Int32 → SM → Prop} (h : (∀ s1, s1 = (pI (pI (pI (mX12_taken (pI s 248 0 (0 : Int32)) (600 : Int32)) 248 15 (0 : Int32)) 248 19 (0 : Int32)) 248 20 (0 : Int32)) → BI MX12_port 4 34 [(0, .ref 248), (1, .int (0 : Int32))] (pI s1 248 21 (0 : Int32)) Q)) : KI MX12_port 4 [.ref 248] s Q := by
  show BI MX12_port 4 0 [(0, .ref 248)] s Q
  refine JT_aload_n (q := 0) dX12_port_0 rfl rfl ?_
  refine JT_iconst (v := 0) dX12_port_1 ic_0 ?_
  refine JS_putI dX12_port_2 flX12_1 BS_248 (Nat.le_of_ble_eq_true rfl) (Nat.le_of_ble_eq_true rfl) ct_12_0 ?_
  refine JT_aload_n (q := 0) dX12_port_5 rfl rfl ?_
  refine JT_sipush (v := 600) dX12_port_6 sp_600 ?_
  refine JS_callVV (M' := MX12_taken) (d' := 0) (As := [.int (600 : Int32)]) (rest := []) (P := (fun wm9 => (mX12_taken (pI s 248 0 (0 : Int32)) (600 : Int32)) = wm9)) dX12_port_9 cvX12_238 okX12_taken rfl (Nat.le_of_ble_eq_true rfl) BS_248 (Nat.le_of_ble_eq_true rfl) (Nat.le_of_ble_eq_true rfl) hci_12 (Nat.le_of_ble_eq_true rfl) (Nat.le_of_ble_eq_true rfl) (pX12_taken  ((600 : Int32))  rfl) (fun wm9 hq9 => ?_)
  subst hq9
  refine JT_aload_n (q := 0) dX12_port_12 rfl rfl ?_
  refine JT_iconst (v := 0) dX12_port_13 ic_0 ?_
  refine JS_putI dX12_port_14 flX12_187 BS_248 (Nat.le_of_ble_eq_true rfl) (Nat.le_of_ble_eq_true rfl) ct_12_15 ?_
  refine JT_aload_n (q := 0) dX12_port_17 rfl rfl ?_
  refine JT_iconst (v := 0) dX12_port_18 ic_0 ?_
  refine JS_putI dX12_port_19 flX12_241 BS_248 (Nat.le_of_ble_eq_true rfl) (Nat.le_of_ble_eq_true rfl) ct_12_19 ?_
  refine JT_aload_n (q := 0) dX12_port_22 rfl rfl ?_
  refine JT_iconst (v := 0) dX12_port_23 ic_0 ?_
  refine JS_putZ dX12_port_24 flX12_231 BS_248 (Nat.le_of_ble_eq_true rfl) (Nat.le_of_ble_eq_true rfl) ct_12_20 (Or.inl rfl) ?_
  obtain ⟨s1, hs1⟩ : ∃ z, z = (pI (pI (pI (mX12_taken (pI s 248 0 (0 : Int32)) (600 : Int32)) 248 15 (0 : Int32)) 248 19 (0 : Int32)) 248 20 (0 : Int32)) := ⟨_, rfl⟩
  replace h := h s1 hs1
  rw [← hs1]
  refine JT_aload_n (q := 0) dX12_port_27 rfl rfl ?_
  refine JT_iconst (v := 0) dX12_port_28 ic_0 ?_
  refine JS_putZ dX12_port_29 flX12_235 BS_248 (Nat.le_of_ble_eq_true rfl) (Nat.le_of_ble_eq_true rfl) ct_12_21 (Or.inl rfl) ?_
  refine JT_iconst (v := 0) dX12_port_32 ic_0 ?_
  refine JT_istore_n (lv' := [(1, .int (0 : Int32)), (0, .ref 248)]) dX12_port_33 rfl (Nat.le_of_ble_eq_true rfl) rfl ?_
  exact JT_sub [1, 0] rfl h
set_option maxRecDepth 1000000 in
theorem gX12_port  : ∀ n : Nat, (∀ (a1 : Int32) (s : SM) (Q : Int32 → SM → Prop), ((qX12_port n).1 s a1) → Q ((lX12_port n).1 s a1).1 ((lX12_port n).1 s a1).2 → BI MX12_port 4 34 [(0, .ref 248), (1, .int a1)] s Q) ∧ (∀ (a1 : Int32) (s : SM) (Q : Int32 → SM → Prop), ((qX12_port n).2.1 s a1) → Q ((lX12_port n).2.1 s a1).1 ((lX12_port n).2.1 s a1).2 → BI MX12_port 4 64 [(0, .ref 248), (1, .int a1)] s Q) ∧ (∀ (a1 : Int32) (s : SM) (Q : Int32 → SM → Prop), ((qX12_port n).2.2.1 s a1) → Q ((lX12_port n).2.2.1 s a1).1 ((lX12_port n).2.2.1 s a1).2 → BI MX12_port 4 109 [(0, .ref 248), (1, .int a1)] s Q) ∧ (∀ (a1 : Int32) (s : SM) (Q : Int32 → SM → Prop), ((qX12_port n).2.2.2 s a1) → Q ((lX12_port n).2.2.2 s a1).1 ((lX12_port n).2.2.2 s a1).2 → BI MX12_port 4 146 [(0, .ref 248), (1, .int a1)] s Q) := by
  intro n
  induction n with
  | zero => exact ⟨fun _ _ _ hq _ => absurd hq id, fun _ _ _ hq _ => absurd hq id, fun _ _ _ hq _ => absurd hq id, fun _ _ _ hq _ => absurd hq id⟩
  | succ n ih =>
    refine ⟨?_, ?_, ?_, ?_⟩
    · intro a1 s Q hr h
      replace hr : uX12_port_34 (qX12_port n) s a1 := hr
      replace h : Q (tX12_port_34 (lX12_port n) s a1).1 (tX12_port_34 (lX12_port n) s a1).2 := h
      unfold uX12_port_34 at hr
      unfold tX12_port_34 at h
      refine bX12_port_34 a1 ?_
      refine ⟨fun c => ?_, fun c => ?_⟩
      · replace hr := hr.1 c
        replace h := q3p c h
        refine ⟨hr.1, ?_⟩
        replace hr := hr.2
        first | exact ih.2.1 a1 _ Q hr h | contradiction
      · replace hr := hr.2 c
        replace h := q3n c h
        refine ⟨hr.1, ?_⟩
        replace hr := hr.2
        first | exact ih.1 (a1 + 1) _ Q hr h | contradiction
    · intro a1 s Q hr h
      replace hr : uX12_port_64 (qX12_port n) s a1 := hr
      replace h : Q (tX12_port_64 (lX12_port n) s a1).1 (tX12_port_64 (lX12_port n) s a1).2 := h
      unfold uX12_port_64 at hr
      unfold tX12_port_64 at h
      refine bX12_port_64 a1 ?_
      refine ⟨fun c => ?_, fun c => ?_⟩
      · replace hr := hr.1 c
        replace h := q3p c h
        first | exact ih.2.2.1 (0 : Int32) _ Q hr h | contradiction
      · replace hr := hr.2 c
        replace h := q3n c h
        refine ⟨hr.1, ?_⟩
        replace hr := hr.2
        refine ⟨fun c => ?_, fun c => ?_⟩
        · replace h := q3p c h
          first | exact h | contradiction
        · replace hr := hr c
          replace h := q3n c h
          refine ⟨hr.1, ?_⟩
          replace hr := hr.2
          refine ⟨fun c => ?_, fun c => ?_⟩
          · replace hr := hr c
            replace h := q3n c h
            intro s1 e9
            replace hr := hr s1 e9
            try rw [← e9] at h
            try dsimp only at h
            first | exact ih.2.1 a1 _ Q hr h | contradiction
          · replace h := q3p c h
            first | exact h | contradiction
    · intro a1 s Q hr h
      replace hr : uX12_port_109 (qX12_port n) s a1 := hr
      replace h : Q (tX12_port_109 (lX12_port n) s a1).1 (tX12_port_109 (lX12_port n) s a1).2 := h
      unfold uX12_port_109 at hr
      unfold tX12_port_109 at h
      refine bX12_port_109 a1 ?_
      refine ⟨fun c => ?_, fun c => ?_⟩
      · replace hr := hr.1 c
        replace h := q3p c h
        first | exact ih.2.2.2 (0 : Int32) _ Q hr h | contradiction
      · replace hr := hr.2 c
        replace h := q3n c h
        refine ⟨fun c => ?_, fun c => ?_⟩
        · replace hr := hr.1 c
          replace h := q3p c h
          refine ⟨hr.1, ?_⟩
          replace hr := hr.2
          first | exact ih.2.2.1 (a1 + 1) _ Q hr h | contradiction
        · replace hr := hr.2 c
          replace h := q3n c h
          refine ⟨hr.1, ?_⟩
          replace hr := hr.2
          refine ⟨hr.1, ?_⟩
          replace hr := hr.2
          first | exact ih.2.2.1 (a1 + 1) _ Q hr h | contradiction
    · intro a1 s Q hr h
      replace hr : uX12_port_146 (qX12_port n) s a1 := hr
      replace h : Q (tX12_port_146 (lX12_port n) s a1).1 (tX12_port_146 (lX12_port n) s a1).2 := h
      unfold uX12_port_146 at hr
      unfold tX12_port_146 at h
      refine bX12_port_146 a1 ?_
      refine ⟨fun c => ?_, fun c => ?_⟩
      · replace h := q3p c h
        intro s1 e9
        try rw [← e9] at h
        try dsimp only at h
        first | exact h | contradiction
      · replace hr := hr c
        replace h := q3n c h
        refine ⟨hr.1, ?_⟩
        replace hr := hr.2
        refine ⟨hr.1, ?_⟩
        replace hr := hr.2
        first | exact ih.2.2.2 (a1 + 1) _ Q hr h | contradiction
set_option maxRecDepth 1000000 in
theorem pX12_port  {s : SM} {Q : Int32 → SM → Prop} (hr : rX12_port s ) (h : Q (vX12_port s ) (mX12_port s )) : KI MX12_port 4 [.ref 248] s Q := by
  replace h : Q (fX12_port s ).1 (fX12_port s ).2 := h
  unfold rX12_port at hr
  unfold fX12_port at h
  refine bX12_port  ?_
  intro s1 e9
  replace hr := hr s1 e9
  try rw [← e9] at h
  try dsimp only at h
  first | exact (gX12_port  FU).1 (0 : Int32) _ Q hr h | contradiction
set_option maxRecDepth 1000000 in
theorem bX12_proof_40 (a1 : Int32) (a2 : Int32) (a3 : Int32) (a4 : Int32) (a5 : Int32) {s : SM} {Q : Int32 → SM → Prop} (h : ((a2 < a5 → Q a4 s) ∧ (¬ a2 < a5 → rX12_bits s a5 ∧ rX12_bits s a4 ∧ (((vX12_bits s a5) < (vX12_bits s a4) → BI MX12_proof 4 79 [(0, .ref 248), (1, .int a1), (2, .int a2), (3, .int a3), (4, .int a4), (5, .int a5)] s Q) ∧ (¬ (vX12_bits s a5) < (vX12_bits s a4) → rX12_bits s a5 ∧ rX12_bits s a4 ∧ ((¬ (vX12_bits s a5) = (vX12_bits s a4) → BI MX12_proof 4 40 [(0, .ref 248), (1, .int a1), (2, .int a2), (3, .int a3), (4, .int a4), (5, .int (a5 + 1))] s Q) ∧ ((vX12_bits s a5) = (vX12_bits s a4) → ((a4 ≤ a5 → BI MX12_proof 4 40 [(0, .ref 248), (1, .int a1), (2, .int a2), (3, .int a3), (4, .int a4), (5, .int (a5 + 1))] s Q) ∧ (¬ a4 ≤ a5 → BI MX12_proof 4 79 [(0, .ref 248), (1, .int a1), (2, .int a2), (3, .int a3), (4, .int a4), (5, .int a5)] s Q))))))))) : BI MX12_proof 4 40 [(0, .ref 248), (1, .int a1), (2, .int a2), (3, .int a3), (4, .int a4), (5, .int a5)] s Q := by
  refine JT_iload (q := 5) dX12_proof_40 rfl ?_
  refine JT_iload_n (q := 2) dX12_proof_42 rfl rfl ?_
  refine JT_icmp_gt (tgt := 101) dX12_proof_43 (by decide) (fun hc8 => ?_) (fun hc8 => ?_)
  · have h := h.1 hc8
    refine JT_iload (q := 4) dX12_proof_101 rfl ?_
    exact JS_iret dX12_proof_103 rfl rfl h
  · have h := h.2 hc8
    refine JT_iload (q := 5) dX12_proof_46 rfl ?_
    obtain ⟨o7, h⟩ := h
    refine JS_callSI (M' := MX12_bits) (d' := 0) (As := [.int a5]) (rest := []) (P := (fun zv9 wm9 => (vX12_bits s a5) = zv9 ∧ s = wm9)) dX12_proof_48 cvX12_452 okX12_bits rfl (Nat.le_of_ble_eq_true rfl) (Nat.le_of_ble_eq_true rfl) (Nat.le_of_ble_eq_true rfl) (pX12_bits  (a5) o7 ⟨rfl, rfl⟩) (fun zv9 wm9 hq9 => ?_)
    obtain ⟨rfl, rfl⟩ := hq9
    refine JT_iload (q := 4) dX12_proof_51 rfl ?_
    obtain ⟨o6, h⟩ := h
    refine JS_callSI (M' := MX12_bits) (d' := 0) (As := [.int a4]) (rest := [.int (vX12_bits s a5)]) (P := (fun zv9 wm9 => (vX12_bits s a4) = zv9 ∧ s = wm9)) dX12_proof_53 cvX12_452 okX12_bits rfl (Nat.le_of_ble_eq_true rfl) (Nat.le_of_ble_eq_true rfl) (Nat.le_of_ble_eq_true rfl) (pX12_bits  (a4) o6 ⟨rfl, rfl⟩) (fun zv9 wm9 hq9 => ?_)
    obtain ⟨rfl, rfl⟩ := hq9
    refine JT_icmp_lt (tgt := 79) dX12_proof_56 (by decide) (fun hc5 => ?_) (fun hc5 => ?_)
    · have h := h.1 hc5
      exact JT_sub [0, 1, 2, 3, 4, 5] rfl h
    · have h := h.2 hc5
      refine JT_iload (q := 5) dX12_proof_59 rfl ?_
      obtain ⟨o4, h⟩ := h
      refine JS_callSI (M' := MX12_bits) (d' := 0) (As := [.int a5]) (rest := []) (P := (fun zv9 wm9 => (vX12_bits s a5) = zv9 ∧ s = wm9)) dX12_proof_61 cvX12_452 okX12_bits rfl (Nat.le_of_ble_eq_true rfl) (Nat.le_of_ble_eq_true rfl) (Nat.le_of_ble_eq_true rfl) (pX12_bits  (a5) o4 ⟨rfl, rfl⟩) (fun zv9 wm9 hq9 => ?_)
      obtain ⟨rfl, rfl⟩ := hq9
      refine JT_iload (q := 4) dX12_proof_64 rfl ?_
      obtain ⟨o3, h⟩ := h
      refine JS_callSI (M' := MX12_bits) (d' := 0) (As := [.int a4]) (rest := [.int (vX12_bits s a5)]) (P := (fun zv9 wm9 => (vX12_bits s a4) = zv9 ∧ s = wm9)) dX12_proof_66 cvX12_452 okX12_bits rfl (Nat.le_of_ble_eq_true rfl) (Nat.le_of_ble_eq_true rfl) (Nat.le_of_ble_eq_true rfl) (pX12_bits  (a4) o3 ⟨rfl, rfl⟩) (fun zv9 wm9 hq9 => ?_)
      obtain ⟨rfl, rfl⟩ := hq9
      refine JT_icmp_ne (tgt := 95) dX12_proof_69 (by decide) (fun hc2 => ?_) (fun hc2 => ?_)
      · have h := h.1 hc2
        refine JT_iinc (q := 5) (v := (a5 + 1)) (lv' := [(5, .int (a5 + 1)), (0, .ref 248), (1, .int a1), (2, .int a2), (3, .int a3), (4, .int a4)]) dX12_proof_95 rfl (by rfl) (Nat.le_of_ble_eq_true rfl) rfl ?_
        refine JT_goto (tgt := 40) dX12_proof_98 (by decide) ?_
        exact JT_sub [1, 2, 3, 4, 5, 0] rfl h
      · have h := h.2 hc2
        refine JT_iload (q := 5) dX12_proof_72 rfl ?_
        refine JT_iload (q := 4) dX12_proof_74 rfl ?_
        refine JT_icmp_ge (tgt := 95) dX12_proof_76 (by decide) (fun hc1 => ?_) (fun hc1 => ?_)
        · have h := h.1 hc1
          refine JT_iinc (q := 5) (v := (a5 + 1)) (lv' := [(5, .int (a5 + 1)), (0, .ref 248), (1, .int a1), (2, .int a2), (3, .int a3), (4, .int a4)]) dX12_proof_95 rfl (by rfl) (Nat.le_of_ble_eq_true rfl) rfl ?_
          refine JT_goto (tgt := 40) dX12_proof_98 (by decide) ?_
          exact JT_sub [1, 2, 3, 4, 5, 0] rfl h
        · have h := h.2 hc1
          exact JT_sub [0, 1, 2, 3, 4, 5] rfl h
set_option maxRecDepth 1000000 in
theorem bX12_proof_79 (a1 : Int32) (a2 : Int32) (a3 : Int32) (a4 : Int32) (a5 : Int32) {s : SM} {Q : Int32 → SM → Prop} (h : rX12_owedBy s a1 a5 (1 : Int32) ∧ ((¬ (vX12_owedBy s a1 a5 (1 : Int32)) = a3 → BI MX12_proof 4 40 [(0, .ref 248), (1, .int a1), (2, .int a2), (3, .int a3), (4, .int a4), (5, .int (a5 + 1))] s Q) ∧ ((vX12_owedBy s a1 a5 (1 : Int32)) = a3 → BI MX12_proof 4 40 [(0, .ref 248), (1, .int a1), (2, .int a2), (3, .int a3), (4, .int a5), (5, .int (a5 + 1))] s Q))) : BI MX12_proof 4 79 [(0, .ref 248), (1, .int a1), (2, .int a2), (3, .int a3), (4, .int a4), (5, .int a5)] s Q := by
  refine JT_aload_n (q := 0) dX12_proof_79 rfl rfl ?_
  refine JT_iload_n (q := 1) dX12_proof_80 rfl rfl ?_
  refine JT_iload (q := 5) dX12_proof_81 rfl ?_
  refine JT_iconst (v := 1) dX12_proof_83 ic_1 ?_
  obtain ⟨o2, h⟩ := h
  refine JS_callVI (M' := MX12_owedBy) (d' := 3) (As := [.int a1, .int a5, .int (1 : Int32)]) (rest := []) (P := (fun zv9 wm9 => (vX12_owedBy s a1 a5 (1 : Int32)) = zv9 ∧ s = wm9)) dX12_proof_84 cvX12_448 okX12_owedBy rfl (Nat.le_of_ble_eq_true rfl) BS_248 (Nat.le_of_ble_eq_true rfl) (Nat.le_of_ble_eq_true rfl) hci_12 (Nat.le_of_ble_eq_true rfl) (Nat.le_of_ble_eq_true rfl) (pX12_owedBy  (a1) (a5) ((1 : Int32)) o2 ⟨rfl, rfl⟩) (fun zv9 wm9 hq9 => ?_)
  obtain ⟨rfl, rfl⟩ := hq9
  refine JT_iload_n (q := 3) dX12_proof_87 rfl rfl ?_
  refine JT_icmp_ne (tgt := 95) dX12_proof_88 (by decide) (fun hc1 => ?_) (fun hc1 => ?_)
  · have h := h.1 hc1
    refine JT_iinc (q := 5) (v := (a5 + 1)) (lv' := [(5, .int (a5 + 1)), (0, .ref 248), (1, .int a1), (2, .int a2), (3, .int a3), (4, .int a4)]) dX12_proof_95 rfl (by rfl) (Nat.le_of_ble_eq_true rfl) rfl ?_
    refine JT_goto (tgt := 40) dX12_proof_98 (by decide) ?_
    exact JT_sub [1, 2, 3, 4, 5, 0] rfl h
  · have h := h.2 hc1
    refine JT_iload (q := 5) dX12_proof_91 rfl ?_
    refine JT_istore (lv' := [(4, .int a5), (0, .ref 248), (1, .int a1), (2, .int a2), (3, .int a3), (5, .int a5)]) dX12_proof_93 (Nat.le_of_ble_eq_true rfl) rfl ?_
    refine JT_iinc (q := 5) (v := (a5 + 1)) (lv' := [(5, .int (a5 + 1)), (4, .int a5), (0, .ref 248), (1, .int a1), (2, .int a2), (3, .int a3)]) dX12_proof_95 rfl (by rfl) (Nat.le_of_ble_eq_true rfl) rfl ?_
    refine JT_goto (tgt := 40) dX12_proof_98 (by decide) ?_
    exact JT_sub [2, 3, 4, 5, 1, 0] rfl h
set_option maxRecDepth 1000000 in
theorem bX12_proof (a1 : Int32) {s : SM} {Q : Int32 → SM → Prop} (h : ((¬ (vX12_isBody (pI s 248 0 (0 : Int32)) a1) = 0 → rX12_owedBy (pI s 248 0 (0 : Int32)) a1 (((1 : Int32) <<< ((gI (pI s 248 0 (0 : Int32)) 250 ((0 : Int32)).toNatClampNeg) &&& 31)) - (1 : Int32)) (1 : Int32) ∧ BI MX12_proof 4 40 [(0, .ref 248), (1, .int a1), (2, .int (((1 : Int32) <<< ((gI (pI s 248 0 (0 : Int32)) 250 ((0 : Int32)).toNatClampNeg) &&& 31)) - (1 : Int32))), (3, .int (vX12_owedBy (pI s 248 0 (0 : Int32)) a1 (((1 : Int32) <<< ((gI (pI s 248 0 (0 : Int32)) 250 ((0 : Int32)).toNatClampNeg) &&& 31)) - (1 : Int32)) (1 : Int32))), (4, .int (((1 : Int32) <<< ((gI (pI s 248 0 (0 : Int32)) 250 ((0 : Int32)).toNatClampNeg) &&& 31)) - (1 : Int32))), (5, .int (0 : Int32))] (pI s 248 0 (0 : Int32)) Q) ∧ ((vX12_isBody (pI s 248 0 (0 : Int32)) a1) = 0 → Q (-1 : Int32) (pI s 248 0 (0 : Int32))))) : KI MX12_proof 4 [.ref 248, .int a1] s Q := by
  show BI MX12_proof 4 0 [(0, .ref 248), (1, .int a1)] s Q
  refine JT_aload_n (q := 0) dX12_proof_0 rfl rfl ?_
  refine JT_iconst (v := 0) dX12_proof_1 ic_0 ?_
  refine JS_putI dX12_proof_2 flX12_1 BS_248 (Nat.le_of_ble_eq_true rfl) (Nat.le_of_ble_eq_true rfl) ct_12_0 ?_
  refine JT_aload_n (q := 0) dX12_proof_5 rfl rfl ?_
  refine JT_iload_n (q := 1) dX12_proof_6 rfl rfl ?_
  refine JS_callVI (M' := MX12_isBody) (d' := 1) (As := [.int a1]) (rest := []) (P := (fun zv9 wm9 => (vX12_isBody (pI s 248 0 (0 : Int32)) a1) = zv9 ∧ (pI s 248 0 (0 : Int32)) = wm9)) dX12_proof_7 cvX12_287 okX12_isBody rfl (Nat.le_of_ble_eq_true rfl) BS_248 (Nat.le_of_ble_eq_true rfl) (Nat.le_of_ble_eq_true rfl) hci_12 (Nat.le_of_ble_eq_true rfl) (Nat.le_of_ble_eq_true rfl) (pX12_isBody  (a1)  ⟨rfl, rfl⟩) (fun zv9 wm9 hq9 => ?_)
  obtain ⟨rfl, rfl⟩ := hq9
  refine JT_if_ne (tgt := 15) dX12_proof_10 (by decide) (fun hc2 => ?_) (fun hc2 => ?_)
  · have h := h.1 hc2
    refine JT_iconst (v := 1) dX12_proof_15 ic_1 ?_
    refine JT_aload_n (q := 0) dX12_proof_16 rfl rfl ?_
    refine JS_getR (x := 250) dX12_proof_17 flX12_33 BS_248 (Nat.le_of_ble_eq_true rfl) (Nat.le_of_ble_eq_true rfl) (Or.inr ⟨_, ct_12_6⟩) RF_248_6 ?_
    refine JT_iconst (v := 0) dX12_proof_20 ic_0 ?_
    refine JS_iald dX12_proof_21 BS_250 (Nat.le_of_ble_eq_true rfl) (Nat.le_of_ble_eq_true rfl) (by unfold vp_in; decide) ?_
    refine JT_ishl dX12_proof_22 ?_
    refine JT_iconst (v := 1) dX12_proof_23 ic_1 ?_
    refine JT_isub dX12_proof_24 ?_
    refine JT_istore_n (lv' := [(2, .int (((1 : Int32) <<< ((gI (pI s 248 0 (0 : Int32)) 250 ((0 : Int32)).toNatClampNeg) &&& 31)) - (1 : Int32))), (0, .ref 248), (1, .int a1)]) dX12_proof_25 rfl (Nat.le_of_ble_eq_true rfl) rfl ?_
    refine JT_aload_n (q := 1) dX12_proof_26 rfl rfl ?_
    refine JT_iload_n (q := 2) dX12_proof_27 rfl rfl ?_
    refine JT_iload_n (q := 0) dX12_proof_28 rfl rfl ?_
    refine JT_iconst (v := 1) dX12_proof_29 ic_1 ?_
    obtain ⟨o1, h⟩ := h
    refine JS_callVI (M' := MX12_owedBy) (d' := 3) (As := [.int a1, .int (((1 : Int32) <<< ((gI (pI s 248 0 (0 : Int32)) 250 ((0 : Int32)).toNatClampNeg) &&& 31)) - (1 : Int32)), .int (1 : Int32)]) (rest := []) (P := (fun zv9 wm9 => (vX12_owedBy (pI s 248 0 (0 : Int32)) a1 (((1 : Int32) <<< ((gI (pI s 248 0 (0 : Int32)) 250 ((0 : Int32)).toNatClampNeg) &&& 31)) - (1 : Int32)) (1 : Int32)) = zv9 ∧ (pI s 248 0 (0 : Int32)) = wm9)) dX12_proof_30 cvX12_448 okX12_owedBy rfl (Nat.le_of_ble_eq_true rfl) BS_248 (Nat.le_of_ble_eq_true rfl) (Nat.le_of_ble_eq_true rfl) hci_12 (Nat.le_of_ble_eq_true rfl) (Nat.le_of_ble_eq_true rfl) (pX12_owedBy  (a1) ((((1 : Int32) <<< ((gI (pI s 248 0 (0 : Int32)) 250 ((0 : Int32)).toNatClampNeg) &&& 31)) - (1 : Int32))) ((1 : Int32)) o1 ⟨rfl, rfl⟩) (fun zv9 wm9 hq9 => ?_)
    obtain ⟨rfl, rfl⟩ := hq9
    refine JT_istore_n (lv' := [(3, .int (vX12_owedBy (pI s 248 0 (0 : Int32)) a1 (((1 : Int32) <<< ((gI (pI s 248 0 (0 : Int32)) 250 ((0 : Int32)).toNatClampNeg) &&& 31)) - (1 : Int32)) (1 : Int32))), (2, .int (((1 : Int32) <<< ((gI (pI s 248 0 (0 : Int32)) 250 ((0 : Int32)).toNatClampNeg) &&& 31)) - (1 : Int32))), (0, .ref 248), (1, .int a1)]) dX12_proof_33 rfl (Nat.le_of_ble_eq_true rfl) rfl ?_
    refine JT_iload_n (q := 1) dX12_proof_34 rfl rfl ?_
    refine JT_istore (lv' := [(4, .int (((1 : Int32) <<< ((gI (pI s 248 0 (0 : Int32)) 250 ((0 : Int32)).toNatClampNeg) &&& 31)) - (1 : Int32))), (3, .int (vX12_owedBy (pI s 248 0 (0 : Int32)) a1 (((1 : Int32) <<< ((gI (pI s 248 0 (0 : Int32)) 250 ((0 : Int32)).toNatClampNeg) &&& 31)) - (1 : Int32)) (1 : Int32))), (2, .int (((1 : Int32) <<< ((gI (pI s 248 0 (0 : Int32)) 250 ((0 : Int32)).toNatClampNeg) &&& 31)) - (1 : Int32))), (0, .ref 248), (1, .int a1)]) dX12_proof_35 (Nat.le_of_ble_eq_true rfl) rfl ?_
    refine JT_iconst (v := 0) dX12_proof_37 ic_0 ?_
    refine JT_istore (lv' := [(5, .int (0 : Int32)), (4, .int (((1 : Int32) <<< ((gI (pI s 248 0 (0 : Int32)) 250 ((0 : Int32)).toNatClampNeg) &&& 31)) - (1 : Int32))), (3, .int (vX12_owedBy (pI s 248 0 (0 : Int32)) a1 (((1 : Int32) <<< ((gI (pI s 248 0 (0 : Int32)) 250 ((0 : Int32)).toNatClampNeg) &&& 31)) - (1 : Int32)) (1 : Int32))), (2, .int (((1 : Int32) <<< ((gI (pI s 248 0 (0 : Int32)) 250 ((0 : Int32)).toNatClampNeg) &&& 31)) - (1 : Int32))), (0, .ref 248), (1, .int a1)]) dX12_proof_38 (Nat.le_of_ble_eq_true rfl) rfl ?_
    exact JT_sub [4, 5, 3, 2, 1, 0] rfl h
  · have h := h.2 hc2
    refine JT_iconst (v := -1) dX12_proof_13 ic_m1 ?_
    exact JS_iret dX12_proof_14 rfl rfl h
set_option maxRecDepth 1000000 in
theorem gX12_proof  : ∀ n : Nat, (∀ (a1 : Int32) (a2 : Int32) (a3 : Int32) (a4 : Int32) (a5 : Int32) (s : SM) (Q : Int32 → SM → Prop), ((qX12_proof n).1 s a1 a2 a3 a4 a5) → Q ((lX12_proof n).1 s a1 a2 a3 a4 a5).1 ((lX12_proof n).1 s a1 a2 a3 a4 a5).2 → BI MX12_proof 4 40 [(0, .ref 248), (1, .int a1), (2, .int a2), (3, .int a3), (4, .int a4), (5, .int a5)] s Q) ∧ (∀ (a1 : Int32) (a2 : Int32) (a3 : Int32) (a4 : Int32) (a5 : Int32) (s : SM) (Q : Int32 → SM → Prop), ((qX12_proof n).2 s a1 a2 a3 a4 a5) → Q ((lX12_proof n).2 s a1 a2 a3 a4 a5).1 ((lX12_proof n).2 s a1 a2 a3 a4 a5).2 → BI MX12_proof 4 79 [(0, .ref 248), (1, .int a1), (2, .int a2), (3, .int a3), (4, .int a4), (5, .int a5)] s Q) := by
  intro n
  induction n with
  | zero => exact ⟨fun _ _ _ _ _ _ _ hq _ => absurd hq id, fun _ _ _ _ _ _ _ hq _ => absurd hq id⟩
  | succ n ih =>
    refine ⟨?_, ?_⟩
    · intro a1 a2 a3 a4 a5 s Q hr h
      replace hr : uX12_proof_40 (qX12_proof n) s a1 a2 a3 a4 a5 := hr
      replace h : Q (tX12_proof_40 (lX12_proof n) s a1 a2 a3 a4 a5).1 (tX12_proof_40 (lX12_proof n) s a1 a2 a3 a4 a5).2 := h
      unfold uX12_proof_40 at hr
      unfold tX12_proof_40 at h
      refine bX12_proof_40 a1 a2 a3 a4 a5 ?_
      refine ⟨fun c => ?_, fun c => ?_⟩
      · replace h := q3p c h
        first | exact h | contradiction
      · replace hr := hr c
        replace h := q3n c h
        refine ⟨hr.1, ?_⟩
        replace hr := hr.2
        refine ⟨hr.1, ?_⟩
        replace hr := hr.2
        refine ⟨fun c => ?_, fun c => ?_⟩
        · replace hr := hr.1 c
          replace h := q3p c h
          first | exact ih.2 a1 a2 a3 a4 a5 _ Q hr h | contradiction
        · replace hr := hr.2 c
          replace h := q3n c h
          refine ⟨hr.1, ?_⟩
          replace hr := hr.2
          refine ⟨hr.1, ?_⟩
          replace hr := hr.2
          refine ⟨fun c => ?_, fun c => ?_⟩
          · replace hr := hr.1 c
            replace h := q3n c h
            first | exact ih.1 a1 a2 a3 a4 (a5 + 1) _ Q hr h | contradiction
          · replace hr := hr.2 c
            replace h := q3p c h
            refine ⟨fun c => ?_, fun c => ?_⟩
            · replace hr := hr.1 c
              replace h := q3p c h
              first | exact ih.1 a1 a2 a3 a4 (a5 + 1) _ Q hr h | contradiction
            · replace hr := hr.2 c
              replace h := q3n c h
              first | exact ih.2 a1 a2 a3 a4 a5 _ Q hr h | contradiction
    · intro a1 a2 a3 a4 a5 s Q hr h
      replace hr : uX12_proof_79 (qX12_proof n) s a1 a2 a3 a4 a5 := hr
      replace h : Q (tX12_proof_79 (lX12_proof n) s a1 a2 a3 a4 a5).1 (tX12_proof_79 (lX12_proof n) s a1 a2 a3 a4 a5).2 := h
      unfold uX12_proof_79 at hr
      unfold tX12_proof_79 at h
      refine bX12_proof_79 a1 a2 a3 a4 a5 ?_
      refine ⟨hr.1, ?_⟩
      replace hr := hr.2
      refine ⟨fun c => ?_, fun c => ?_⟩
      · replace hr := hr.1 c
        replace h := q3n c h
        first | exact ih.1 a1 a2 a3 a4 (a5 + 1) _ Q hr h | contradiction
      · replace hr := hr.2 c
        replace h := q3p c h
        first | exact ih.1 a1 a2 a3 a5 (a5 + 1) _ Q hr h | contradiction
set_option maxRecDepth 1000000 in
theorem pX12_proof (a1 : Int32) {s : SM} {Q : Int32 → SM → Prop} (hr : rX12_proof s a1) (h : Q (vX12_proof s a1) (mX12_proof s a1)) : KI MX12_proof 4 [.ref 248, .int a1] s Q := by
  replace h : Q (fX12_proof s a1).1 (fX12_proof s a1).2 := h
  unfold rX12_proof at hr
  unfold fX12_proof at h
  refine bX12_proof a1 ?_
  refine ⟨fun c => ?_, fun c => ?_⟩
  · replace hr := hr c
    replace h := q3n c h
    refine ⟨hr.1, ?_⟩
    replace hr := hr.2
    first | exact (gX12_proof  FU).1 a1 (((1 : Int32) <<< ((gI (pI s 248 0 (0 : Int32)) 250 ((0 : Int32)).toNatClampNeg) &&& 31)) - (1 : Int32)) (vX12_owedBy (pI s 248 0 (0 : Int32)) a1 (((1 : Int32) <<< ((gI (pI s 248 0 (0 : Int32)) 250 ((0 : Int32)).toNatClampNeg) &&& 31)) - (1 : Int32)) (1 : Int32)) (((1 : Int32) <<< ((gI (pI s 248 0 (0 : Int32)) 250 ((0 : Int32)).toNatClampNeg) &&& 31)) - (1 : Int32)) (0 : Int32) _ Q hr h | contradiction
  · replace h := q3p c h
    first | exact h | contradiction
set_option maxRecDepth 1000000 in
theorem bX12_scar (a1 : Int32) (a2 : Int32) {s : SM} {Q : Int32 → SM → Prop} (h : ((¬ (vX12_isIn (pI s 248 0 (0 : Int32)) a2 (0 : Int32) (1 : Int32)) = 0 → rX12_whyScar (pI s 248 0 (0 : Int32)) a1 a2 ∧ (((vX12_whyScar (pI s 248 0 (0 : Int32)) a1 a2) ≤ 0 → rX12_keep (pI s 248 0 (0 : Int32))  ∧ rX12_of (mX12_keep (pI s 248 0 (0 : Int32)) ) a1 (8 : Int32) ∧ rX12_set (mX12_keep (pI s 248 0 (0 : Int32)) ) a1 (8 : Int32) ((vX12_of (mX12_keep (pI s 248 0 (0 : Int32)) ) a1 (8 : Int32)) ||| ((1 : Int32) <<< (a2 &&& 31))) ∧ (∀ s1, s1 = (mX12_set (mX12_keep (pI s 248 0 (0 : Int32)) ) a1 (8 : Int32) ((vX12_of (mX12_keep (pI s 248 0 (0 : Int32)) ) a1 (8 : Int32)) ||| ((1 : Int32) <<< (a2 &&& 31)))) → Q (0 : Int32) s1)) ∧ (¬ (vX12_whyScar (pI s 248 0 (0 : Int32)) a1 a2) ≤ 0 → Q (vX12_whyScar (pI s 248 0 (0 : Int32)) a1 a2) (pI s 248 0 (0 : Int32))))) ∧ ((vX12_isIn (pI s 248 0 (0 : Int32)) a2 (0 : Int32) (1 : Int32)) = 0 → Q (-1 : Int32) (pI s 248 0 (0 : Int32))))) : KI MX12_scar 4 [.ref 248, .int a1, .int a2] s Q := by
  show BI MX12_scar 4 0 [(0, .ref 248), (1, .int a1), (2, .int a2)] s Q
  refine JT_aload_n (q := 0) dX12_scar_0 rfl rfl ?_
  refine JT_iconst (v := 0) dX12_scar_1 ic_0 ?_
  refine JS_putI dX12_scar_2 flX12_1 BS_248 (Nat.le_of_ble_eq_true rfl) (Nat.le_of_ble_eq_true rfl) ct_12_0 ?_
  refine JT_iload_n (q := 2) dX12_scar_5 rfl rfl ?_
  refine JT_iconst (v := 0) dX12_scar_6 ic_0 ?_
  refine JT_iconst (v := 1) dX12_scar_7 ic_1 ?_
  refine JS_callSI (M' := MX12_isIn) (d' := 0) (As := [.int a2, .int (0 : Int32), .int (1 : Int32)]) (rest := []) (P := (fun zv9 wm9 => (vX12_isIn (pI s 248 0 (0 : Int32)) a2 (0 : Int32) (1 : Int32)) = zv9 ∧ (pI s 248 0 (0 : Int32)) = wm9)) dX12_scar_8 cvX12_202 okX12_isIn rfl (Nat.le_of_ble_eq_true rfl) (Nat.le_of_ble_eq_true rfl) (Nat.le_of_ble_eq_true rfl) (pX12_isIn  (a2) ((0 : Int32)) ((1 : Int32))  ⟨rfl, rfl⟩) (fun zv9 wm9 hq9 => ?_)
  obtain ⟨rfl, rfl⟩ := hq9
  refine JT_if_ne (tgt := 16) dX12_scar_11 (by decide) (fun hc7 => ?_) (fun hc7 => ?_)
  · have h := h.1 hc7
    refine JT_aload_n (q := 0) dX12_scar_16 rfl rfl ?_
    refine JT_iload_n (q := 1) dX12_scar_17 rfl rfl ?_
    refine JT_iload_n (q := 2) dX12_scar_18 rfl rfl ?_
    obtain ⟨o6, h⟩ := h
    refine JS_callVI (M' := MX12_whyScar) (d' := 3) (As := [.int a1, .int a2]) (rest := []) (P := (fun zv9 wm9 => (vX12_whyScar (pI s 248 0 (0 : Int32)) a1 a2) = zv9 ∧ (pI s 248 0 (0 : Int32)) = wm9)) dX12_scar_19 cvX12_342 okX12_whyScar rfl (Nat.le_of_ble_eq_true rfl) BS_248 (Nat.le_of_ble_eq_true rfl) (Nat.le_of_ble_eq_true rfl) hci_12 (Nat.le_of_ble_eq_true rfl) (Nat.le_of_ble_eq_true rfl) (pX12_whyScar  (a1) (a2) o6 ⟨rfl, rfl⟩) (fun zv9 wm9 hq9 => ?_)
    obtain ⟨rfl, rfl⟩ := hq9
    refine JT_istore_n (lv' := [(3, .int (vX12_whyScar (pI s 248 0 (0 : Int32)) a1 a2)), (0, .ref 248), (1, .int a1), (2, .int a2)]) dX12_scar_22 rfl (Nat.le_of_ble_eq_true rfl) rfl ?_
    refine JT_iload_n (q := 0) dX12_scar_23 rfl rfl ?_
    refine JT_if_le (tgt := 29) dX12_scar_24 (by decide) (fun hc5 => ?_) (fun hc5 => ?_)
    · have h := h.1 hc5
      refine JT_aload_n (q := 1) dX12_scar_29 rfl rfl ?_
      obtain ⟨o4, h⟩ := h
      refine JS_callVV (M' := MX12_keep) (d' := 0) (As := []) (rest := []) (P := (fun wm9 => (mX12_keep (pI s 248 0 (0 : Int32)) ) = wm9)) dX12_scar_30 cvX12_329 okX12_keep rfl (Nat.le_of_ble_eq_true rfl) BS_248 (Nat.le_of_ble_eq_true rfl) (Nat.le_of_ble_eq_true rfl) hci_12 (Nat.le_of_ble_eq_true rfl) (Nat.le_of_ble_eq_true rfl) (pX12_keep   o4 rfl) (fun wm9 hq9 => ?_)
      subst hq9
      refine JT_aload_n (q := 1) dX12_scar_33 rfl rfl ?_
      refine JT_iload_n (q := 2) dX12_scar_34 rfl rfl ?_
      refine JT_bipush (v := 8) dX12_scar_35 bp_8 ?_
      refine JT_aload_n (q := 1) dX12_scar_37 rfl rfl ?_
      refine JT_iload_n (q := 2) dX12_scar_38 rfl rfl ?_
      refine JT_bipush (v := 8) dX12_scar_39 bp_8 ?_
      obtain ⟨o3, h⟩ := h
      refine JS_callVI (M' := MX12_of) (d' := 0) (As := [.int a1, .int (8 : Int32)]) (rest := [.int (8 : Int32), .int a1, .ref 248]) (P := (fun zv9 wm9 => (vX12_of (mX12_keep (pI s 248 0 (0 : Int32)) ) a1 (8 : Int32)) = zv9 ∧ (mX12_keep (pI s 248 0 (0 : Int32)) ) = wm9)) dX12_scar_41 cvX12_265 okX12_of rfl (Nat.le_of_ble_eq_true rfl) BS_248 (Nat.le_of_ble_eq_true rfl) (Nat.le_of_ble_eq_true rfl) hci_12 (Nat.le_of_ble_eq_true rfl) (Nat.le_of_ble_eq_true rfl) (pX12_of  (a1) ((8 : Int32)) o3 ⟨rfl, rfl⟩) (fun zv9 wm9 hq9 => ?_)
      obtain ⟨rfl, rfl⟩ := hq9
      refine JT_iconst (v := 1) dX12_scar_44 ic_1 ?_
      refine JT_iload_n (q := 3) dX12_scar_45 rfl rfl ?_
      refine JT_ishl dX12_scar_46 ?_
      refine JT_ior dX12_scar_47 ?_
      obtain ⟨o2, h⟩ := h
      refine JS_callVV (M' := MX12_set) (d' := 0) (As := [.int a1, .int (8 : Int32), .int ((vX12_of (mX12_keep (pI s 248 0 (0 : Int32)) ) a1 (8 : Int32)) ||| ((1 : Int32) <<< (a2 &&& 31)))]) (rest := []) (P := (fun wm9 => (mX12_set (mX12_keep (pI s 248 0 (0 : Int32)) ) a1 (8 : Int32) ((vX12_of (mX12_keep (pI s 248 0 (0 : Int32)) ) a1 (8 : Int32)) ||| ((1 : Int32) <<< (a2 &&& 31)))) = wm9)) dX12_scar_48 cvX12_322 okX12_set rfl (Nat.le_of_ble_eq_true rfl) BS_248 (Nat.le_of_ble_eq_true rfl) (Nat.le_of_ble_eq_true rfl) hci_12 (Nat.le_of_ble_eq_true rfl) (Nat.le_of_ble_eq_true rfl) (pX12_set  (a1) ((8 : Int32)) (((vX12_of (mX12_keep (pI s 248 0 (0 : Int32)) ) a1 (8 : Int32)) ||| ((1 : Int32) <<< (a2 &&& 31)))) o2 rfl) (fun wm9 hq9 => ?_)
      subst hq9
      obtain ⟨s1, hs1⟩ : ∃ z, z = (mX12_set (mX12_keep (pI s 248 0 (0 : Int32)) ) a1 (8 : Int32) ((vX12_of (mX12_keep (pI s 248 0 (0 : Int32)) ) a1 (8 : Int32)) ||| ((1 : Int32) <<< (a2 &&& 31)))) := ⟨_, rfl⟩
      replace h := h s1 hs1
      rw [← hs1]
      refine JT_iconst (v := 0) dX12_scar_51 ic_0 ?_
      exact JS_iret dX12_scar_52 rfl rfl h
    · have h := h.2 hc5
      refine JT_iload_n (q := 0) dX12_scar_27 rfl rfl ?_
      exact JS_iret dX12_scar_28 rfl rfl h
  · have h := h.2 hc7
    refine JT_iconst (v := -1) dX12_scar_14 ic_m1 ?_
    exact JS_iret dX12_scar_15 rfl rfl h
set_option maxRecDepth 1000000 in
theorem pX12_scar (a1 : Int32) (a2 : Int32) {s : SM} {Q : Int32 → SM → Prop} (hr : rX12_scar s a1 a2) (h : Q (vX12_scar s a1 a2) (mX12_scar s a1 a2)) : KI MX12_scar 4 [.ref 248, .int a1, .int a2] s Q := by
  refine bX12_scar a1 a2 ?_
  unfold rX12_scar at hr
  unfold vX12_scar mX12_scar at h
  refine ⟨fun c => ?_, fun c => ?_⟩
  · replace hr := hr c
    replace h := q2n c h
    refine ⟨hr.1, ?_⟩
    replace hr := hr.2
    refine ⟨fun c => ?_, fun c => ?_⟩
    · replace hr := hr c
      replace h := q2p c h
      refine ⟨hr.1, ?_⟩
      replace hr := hr.2
      refine ⟨hr.1, ?_⟩
      replace hr := hr.2
      refine ⟨hr, ?_⟩
      intro s1 e9
      try rw [← e9] at h
      try dsimp only at h
      first | exact h | contradiction
    · replace h := q2n c h
      first | exact h | contradiction
  · replace h := q2p c h
    first | exact h | contradiction
