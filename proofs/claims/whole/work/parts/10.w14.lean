set_option maxRecDepth 1000000 in
theorem bX5_placeBy_185 {e : Nat} (a1 : Int32) (a2 : Int32) (a3 : Int32) (a4 : Int32) (a5 : Int32) (a6 : Int32) {s : SM} {Q : SM → Prop} (h : vp_in a4 9 ∧ vp_in a4 9 ∧ vp_in a5 9 ∧ vp_in a5 9 ∧ (∀ s5, s5 = (pI (pI s 232 (a4).toNatClampNeg ((gI s 232 (a4).toNatClampNeg) + a6)) 232 (a5).toNatClampNeg ((gI (pI s 232 (a4).toNatClampNeg ((gI s 232 (a4).toNatClampNeg) + a6)) 232 (a5).toNatClampNeg) + a6)) → Q s5)) : BV MX5_placeBy (e + 4) 185 [(0, .ref 225), (1, .int a1), (2, .int a2), (3, .int a3), (4, .int a4), (5, .int a5), (6, .int a6)] s Q := by
  refine JT_aload_n (q := 0) dX5_placeBy_185 rfl rfl ?_
  refine JS_getR (x := 232) dX5_placeBy_186 flX5_30 BS_225 (Nat.le_of_ble_eq_true rfl) (Nat.le_of_ble_eq_true rfl) (Or.inr ⟨_, ct_5_8⟩) RF_225_8 ?_
  refine JT_iload (q := 4) dX5_placeBy_189 rfl ?_
  refine JT_dup2 dX5_placeBy_191 rfl rfl ?_
  obtain ⟨o1, h⟩ := h
  refine JS_iald dX5_placeBy_192 BS_232 (Nat.le_of_ble_eq_true rfl) (Nat.le_of_ble_eq_true rfl) o1 ?_
  refine JT_iload (q := 6) dX5_placeBy_193 rfl ?_
  refine JT_iadd dX5_placeBy_195 ?_
  obtain ⟨o2, h⟩ := h
  refine JS_iast dX5_placeBy_196 BS_232 (Nat.le_of_ble_eq_true rfl) (Nat.le_of_ble_eq_true rfl) o2 ?_
  refine JT_aload_n (q := 0) dX5_placeBy_197 rfl rfl ?_
  refine JS_getR (x := 232) dX5_placeBy_198 flX5_30 BS_225 (Nat.le_of_ble_eq_true rfl) (Nat.le_of_ble_eq_true rfl) (Or.inr ⟨_, ct_5_8⟩) RF_225_8 ?_
  refine JT_iload (q := 5) dX5_placeBy_201 rfl ?_
  refine JT_dup2 dX5_placeBy_203 rfl rfl ?_
  obtain ⟨o3, h⟩ := h
  refine JS_iald dX5_placeBy_204 BS_232 (Nat.le_of_ble_eq_true rfl) (Nat.le_of_ble_eq_true rfl) o3 ?_
  refine JT_iload (q := 6) dX5_placeBy_205 rfl ?_
  refine JT_iadd dX5_placeBy_207 ?_
  obtain ⟨o4, h⟩ := h
  refine JS_iast dX5_placeBy_208 BS_232 (Nat.le_of_ble_eq_true rfl) (Nat.le_of_ble_eq_true rfl) o4 ?_
  obtain ⟨s5, hs5⟩ : ∃ z, z = (pI (pI s 232 (a4).toNatClampNeg ((gI s 232 (a4).toNatClampNeg) + a6)) 232 (a5).toNatClampNeg ((gI (pI s 232 (a4).toNatClampNeg ((gI s 232 (a4).toNatClampNeg) + a6)) 232 (a5).toNatClampNeg) + a6)) := ⟨_, rfl⟩
  replace h := h s5 hs5
  rw [← hs5]
  exact JS_vret dX5_placeBy_209 rfl h
set_option maxRecDepth 1000000 in
theorem bX5_placeBy {e : Nat} (a1 : Int32) (a2 : Int32) (a3 : Int32) {s : SM} {Q : SM → Prop} (h : ((¬ (a2 &&& (1 : Int32)) = 0 → gD s 1 = some (gDx s 1) ∧ ((gDx s 1), rfx (gDx s 1) 8) ∈ LX ∧ vp_in a1 6 ∧ vp_in (gI s 226 (a1).toNatClampNeg) 9 ∧ ((¬ (a2 &&& (2 : Int32)) = 0 → gD s 1 = some (gDx s 1) ∧ ((gDx s 1), rfx (gDx s 1) 8) ∈ LX ∧ vp_in a1 6 ∧ vp_in (gI s 227 (a1).toNatClampNeg) 9 ∧ (((gI s ((rfx (gDx s 1) 8) + 3) ((gI s 226 (a1).toNatClampNeg)).toNatClampNeg) = (-1 : Int32) → Q s) ∧ (¬ (gI s ((rfx (gDx s 1) 8) + 3) ((gI s 226 (a1).toNatClampNeg)).toNatClampNeg) = (-1 : Int32) → (((gI s ((rfx (gDx s 1) 8) + 3) ((gI s 227 (a1).toNatClampNeg)).toNatClampNeg) = (-1 : Int32) → Q s) ∧ (¬ (gI s ((rfx (gDx s 1) 8) + 3) ((gI s 227 (a1).toNatClampNeg)).toNatClampNeg) = (-1 : Int32) → gD s 1 = some (gDx s 1) ∧ ((gDx s 1), rfx (gDx s 1) 8) ∈ LX ∧ KI MX4_lives 0 [.ref (gDx s 1), .int (gI s ((rfx (gDx s 1) 8) + 3) ((gI s 226 (a1).toNatClampNeg)).toNatClampNeg)] s (fun x12 s11 => ((x12 = 0 → Q s11) ∧ (¬ x12 = 0 → gD s11 1 = some (gDx s11 1) ∧ ((gDx s11 1), rfx (gDx s11 1) 8) ∈ LX ∧ KI MX4_lives 0 [.ref (gDx s11 1), .int (gI s ((rfx (gDx s 1) 8) + 3) ((gI s 227 (a1).toNatClampNeg)).toNatClampNeg)] s11 (fun x16 s15 => ((¬ x16 = 0 → gD s15 1 = some (gDx s15 1) ∧ ((gDx s15 1), rfx (gDx s15 1) 8) ∈ LX ∧ vp_in a1 6 ∧ vp_in (gI s15 228 (a1).toNatClampNeg) 6 ∧ vp_in (gI s ((rfx (gDx s 1) 8) + 3) ((gI s 226 (a1).toNatClampNeg)).toNatClampNeg) 9 ∧ vp_in (gI s ((rfx (gDx s 1) 8) + 3) ((gI s 226 (a1).toNatClampNeg)).toNatClampNeg) 9 ∧ (∀ s23, s23 = (pI s15 232 ((gI s ((rfx (gDx s 1) 8) + 3) ((gI s 226 (a1).toNatClampNeg)).toNatClampNeg)).toNatClampNeg ((gI s15 232 ((gI s ((rfx (gDx s 1) 8) + 3) ((gI s 226 (a1).toNatClampNeg)).toNatClampNeg)).toNatClampNeg) - (gI s15 ((rfx (gDx s15 1) 8) + 5) ((gI s15 228 (a1).toNatClampNeg)).toNatClampNeg))) → vp_in (gI s ((rfx (gDx s 1) 8) + 3) ((gI s 227 (a1).toNatClampNeg)).toNatClampNeg) 9 ∧ vp_in (gI s ((rfx (gDx s 1) 8) + 3) ((gI s 227 (a1).toNatClampNeg)).toNatClampNeg) 9 ∧ (∀ s26, s26 = (pI s23 232 ((gI s ((rfx (gDx s 1) 8) + 3) ((gI s 227 (a1).toNatClampNeg)).toNatClampNeg)).toNatClampNeg ((gI s23 232 ((gI s ((rfx (gDx s 1) 8) + 3) ((gI s 227 (a1).toNatClampNeg)).toNatClampNeg)).toNatClampNeg) - (gI s15 ((rfx (gDx s15 1) 8) + 5) ((gI s15 228 (a1).toNatClampNeg)).toNatClampNeg))) → vp_in (gI s ((rfx (gDx s 1) 8) + 3) ((gI s 226 (a1).toNatClampNeg)).toNatClampNeg) 9 ∧ (((gI s26 232 ((gI s ((rfx (gDx s 1) 8) + 3) ((gI s 226 (a1).toNatClampNeg)).toNatClampNeg)).toNatClampNeg) < 0 → BV MX5_placeBy (e + 4) 185 [(0, .ref 225), (1, .int a1), (2, .int a2), (3, .int a3), (4, .int (gI s ((rfx (gDx s 1) 8) + 3) ((gI s 226 (a1).toNatClampNeg)).toNatClampNeg)), (5, .int (gI s ((rfx (gDx s 1) 8) + 3) ((gI s 227 (a1).toNatClampNeg)).toNatClampNeg)), (6, .int (gI s15 ((rfx (gDx s15 1) 8) + 5) ((gI s15 228 (a1).toNatClampNeg)).toNatClampNeg))] s26 Q) ∧ (¬ (gI s26 232 ((gI s ((rfx (gDx s 1) 8) + 3) ((gI s 226 (a1).toNatClampNeg)).toNatClampNeg)).toNatClampNeg) < 0 → vp_in (gI s ((rfx (gDx s 1) 8) + 3) ((gI s 227 (a1).toNatClampNeg)).toNatClampNeg) 9 ∧ (((gI s26 232 ((gI s ((rfx (gDx s 1) 8) + 3) ((gI s 227 (a1).toNatClampNeg)).toNatClampNeg)).toNatClampNeg) < 0 → BV MX5_placeBy (e + 4) 185 [(0, .ref 225), (1, .int a1), (2, .int a2), (3, .int a3), (4, .int (gI s ((rfx (gDx s 1) 8) + 3) ((gI s 226 (a1).toNatClampNeg)).toNatClampNeg)), (5, .int (gI s ((rfx (gDx s 1) 8) + 3) ((gI s 227 (a1).toNatClampNeg)).toNatClampNeg)), (6, .int (gI s15 ((rfx (gDx s15 1) 8) + 5) ((gI s15 228 (a1).toNatClampNeg)).toNatClampNeg))] s26 Q) ∧ (¬ (gI s26 232 ((gI s ((rfx (gDx s 1) 8) + 3) ((gI s 227 (a1).toNatClampNeg)).toNatClampNeg)).toNatClampNeg) < 0 → vp_in a1 6 ∧ KV MX5_place (e + 3) [.ref 225, .int (a1 + (1 : Int32)), .int (a3 + (1 : Int32))] (pI s26 229 (a1).toNatClampNeg a2) (fun s30 => BV MX5_placeBy (e + 4) 185 [(0, .ref 225), (1, .int a1), (2, .int a2), (3, .int a3), (4, .int (gI s ((rfx (gDx s 1) 8) + 3) ((gI s 226 (a1).toNatClampNeg)).toNatClampNeg)), (5, .int (gI s ((rfx (gDx s 1) 8) + 3) ((gI s 227 (a1).toNatClampNeg)).toNatClampNeg)), (6, .int (gI s15 ((rfx (gDx s15 1) 8) + 5) ((gI s15 228 (a1).toNatClampNeg)).toNatClampNeg))] s30 Q)))))))) ∧ (x16 = 0 → Q s15))))))))))) ∧ ((a2 &&& (2 : Int32)) = 0 → vp_in a1 6 ∧ (((gI s ((rfx (gDx s 1) 8) + 3) ((gI s 226 (a1).toNatClampNeg)).toNatClampNeg) = (-1 : Int32) → Q s) ∧ (¬ (gI s ((rfx (gDx s 1) 8) + 3) ((gI s 226 (a1).toNatClampNeg)).toNatClampNeg) = (-1 : Int32) → (((gI s 227 (a1).toNatClampNeg) = (-1 : Int32) → Q s) ∧ (¬ (gI s 227 (a1).toNatClampNeg) = (-1 : Int32) → gD s 1 = some (gDx s 1) ∧ ((gDx s 1), rfx (gDx s 1) 8) ∈ LX ∧ KI MX4_lives 0 [.ref (gDx s 1), .int (gI s ((rfx (gDx s 1) 8) + 3) ((gI s 226 (a1).toNatClampNeg)).toNatClampNeg)] s (fun x42 s41 => ((x42 = 0 → Q s41) ∧ (¬ x42 = 0 → gD s41 1 = some (gDx s41 1) ∧ ((gDx s41 1), rfx (gDx s41 1) 8) ∈ LX ∧ KI MX4_lives 0 [.ref (gDx s41 1), .int (gI s 227 (a1).toNatClampNeg)] s41 (fun x46 s45 => ((¬ x46 = 0 → gD s45 1 = some (gDx s45 1) ∧ ((gDx s45 1), rfx (gDx s45 1) 8) ∈ LX ∧ vp_in a1 6 ∧ vp_in (gI s45 228 (a1).toNatClampNeg) 6 ∧ vp_in (gI s ((rfx (gDx s 1) 8) + 3) ((gI s 226 (a1).toNatClampNeg)).toNatClampNeg) 9 ∧ vp_in (gI s ((rfx (gDx s 1) 8) + 3) ((gI s 226 (a1).toNatClampNeg)).toNatClampNeg) 9 ∧ (∀ s53, s53 = (pI s45 232 ((gI s ((rfx (gDx s 1) 8) + 3) ((gI s 226 (a1).toNatClampNeg)).toNatClampNeg)).toNatClampNeg ((gI s45 232 ((gI s ((rfx (gDx s 1) 8) + 3) ((gI s 226 (a1).toNatClampNeg)).toNatClampNeg)).toNatClampNeg) - (gI s45 ((rfx (gDx s45 1) 8) + 5) ((gI s45 228 (a1).toNatClampNeg)).toNatClampNeg))) → vp_in (gI s 227 (a1).toNatClampNeg) 9 ∧ vp_in (gI s 227 (a1).toNatClampNeg) 9 ∧ (∀ s56, s56 = (pI s53 232 ((gI s 227 (a1).toNatClampNeg)).toNatClampNeg ((gI s53 232 ((gI s 227 (a1).toNatClampNeg)).toNatClampNeg) - (gI s45 ((rfx (gDx s45 1) 8) + 5) ((gI s45 228 (a1).toNatClampNeg)).toNatClampNeg))) → vp_in (gI s ((rfx (gDx s 1) 8) + 3) ((gI s 226 (a1).toNatClampNeg)).toNatClampNeg) 9 ∧ (((gI s56 232 ((gI s ((rfx (gDx s 1) 8) + 3) ((gI s 226 (a1).toNatClampNeg)).toNatClampNeg)).toNatClampNeg) < 0 → BV MX5_placeBy (e + 4) 185 [(0, .ref 225), (1, .int a1), (2, .int a2), (3, .int a3), (4, .int (gI s ((rfx (gDx s 1) 8) + 3) ((gI s 226 (a1).toNatClampNeg)).toNatClampNeg)), (5, .int (gI s 227 (a1).toNatClampNeg)), (6, .int (gI s45 ((rfx (gDx s45 1) 8) + 5) ((gI s45 228 (a1).toNatClampNeg)).toNatClampNeg))] s56 Q) ∧ (¬ (gI s56 232 ((gI s ((rfx (gDx s 1) 8) + 3) ((gI s 226 (a1).toNatClampNeg)).toNatClampNeg)).toNatClampNeg) < 0 → vp_in (gI s 227 (a1).toNatClampNeg) 9 ∧ (((gI s56 232 ((gI s 227 (a1).toNatClampNeg)).toNatClampNeg) < 0 → BV MX5_placeBy (e + 4) 185 [(0, .ref 225), (1, .int a1), (2, .int a2), (3, .int a3), (4, .int (gI s ((rfx (gDx s 1) 8) + 3) ((gI s 226 (a1).toNatClampNeg)).toNatClampNeg)), (5, .int (gI s 227 (a1).toNatClampNeg)), (6, .int (gI s45 ((rfx (gDx s45 1) 8) + 5) ((gI s45 228 (a1).toNatClampNeg)).toNatClampNeg))] s56 Q) ∧ (¬ (gI s56 232 ((gI s 227 (a1).toNatClampNeg)).toNatClampNeg) < 0 → vp_in a1 6 ∧ KV MX5_place (e + 3) [.ref 225, .int (a1 + (1 : Int32)), .int (a3 + (1 : Int32))] (pI s56 229 (a1).toNatClampNeg a2) (fun s60 => BV MX5_placeBy (e + 4) 185 [(0, .ref 225), (1, .int a1), (2, .int a2), (3, .int a3), (4, .int (gI s ((rfx (gDx s 1) 8) + 3) ((gI s 226 (a1).toNatClampNeg)).toNatClampNeg)), (5, .int (gI s 227 (a1).toNatClampNeg)), (6, .int (gI s45 ((rfx (gDx s45 1) 8) + 5) ((gI s45 228 (a1).toNatClampNeg)).toNatClampNeg))] s60 Q)))))))) ∧ (x46 = 0 → Q s45))))))))))))) ∧ ((a2 &&& (1 : Int32)) = 0 → vp_in a1 6 ∧ ((¬ (a2 &&& (2 : Int32)) = 0 → gD s 1 = some (gDx s 1) ∧ ((gDx s 1), rfx (gDx s 1) 8) ∈ LX ∧ vp_in a1 6 ∧ vp_in (gI s 227 (a1).toNatClampNeg) 9 ∧ (((gI s 226 (a1).toNatClampNeg) = (-1 : Int32) → Q s) ∧ (¬ (gI s 226 (a1).toNatClampNeg) = (-1 : Int32) → (((gI s ((rfx (gDx s 1) 8) + 3) ((gI s 227 (a1).toNatClampNeg)).toNatClampNeg) = (-1 : Int32) → Q s) ∧ (¬ (gI s ((rfx (gDx s 1) 8) + 3) ((gI s 227 (a1).toNatClampNeg)).toNatClampNeg) = (-1 : Int32) → gD s 1 = some (gDx s 1) ∧ ((gDx s 1), rfx (gDx s 1) 8) ∈ LX ∧ KI MX4_lives 0 [.ref (gDx s 1), .int (gI s 226 (a1).toNatClampNeg)] s (fun x77 s76 => ((x77 = 0 → Q s76) ∧ (¬ x77 = 0 → gD s76 1 = some (gDx s76 1) ∧ ((gDx s76 1), rfx (gDx s76 1) 8) ∈ LX ∧ KI MX4_lives 0 [.ref (gDx s76 1), .int (gI s ((rfx (gDx s 1) 8) + 3) ((gI s 227 (a1).toNatClampNeg)).toNatClampNeg)] s76 (fun x81 s80 => ((¬ x81 = 0 → gD s80 1 = some (gDx s80 1) ∧ ((gDx s80 1), rfx (gDx s80 1) 8) ∈ LX ∧ vp_in a1 6 ∧ vp_in (gI s80 228 (a1).toNatClampNeg) 6 ∧ vp_in (gI s 226 (a1).toNatClampNeg) 9 ∧ vp_in (gI s 226 (a1).toNatClampNeg) 9 ∧ (∀ s88, s88 = (pI s80 232 ((gI s 226 (a1).toNatClampNeg)).toNatClampNeg ((gI s80 232 ((gI s 226 (a1).toNatClampNeg)).toNatClampNeg) - (gI s80 ((rfx (gDx s80 1) 8) + 5) ((gI s80 228 (a1).toNatClampNeg)).toNatClampNeg))) → vp_in (gI s ((rfx (gDx s 1) 8) + 3) ((gI s 227 (a1).toNatClampNeg)).toNatClampNeg) 9 ∧ vp_in (gI s ((rfx (gDx s 1) 8) + 3) ((gI s 227 (a1).toNatClampNeg)).toNatClampNeg) 9 ∧ (∀ s91, s91 = (pI s88 232 ((gI s ((rfx (gDx s 1) 8) + 3) ((gI s 227 (a1).toNatClampNeg)).toNatClampNeg)).toNatClampNeg ((gI s88 232 ((gI s ((rfx (gDx s 1) 8) + 3) ((gI s 227 (a1).toNatClampNeg)).toNatClampNeg)).toNatClampNeg) - (gI s80 ((rfx (gDx s80 1) 8) + 5) ((gI s80 228 (a1).toNatClampNeg)).toNatClampNeg))) → vp_in (gI s 226 (a1).toNatClampNeg) 9 ∧ (((gI s91 232 ((gI s 226 (a1).toNatClampNeg)).toNatClampNeg) < 0 → BV MX5_placeBy (e + 4) 185 [(0, .ref 225), (1, .int a1), (2, .int a2), (3, .int a3), (4, .int (gI s 226 (a1).toNatClampNeg)), (5, .int (gI s ((rfx (gDx s 1) 8) + 3) ((gI s 227 (a1).toNatClampNeg)).toNatClampNeg)), (6, .int (gI s80 ((rfx (gDx s80 1) 8) + 5) ((gI s80 228 (a1).toNatClampNeg)).toNatClampNeg))] s91 Q) ∧ (¬ (gI s91 232 ((gI s 226 (a1).toNatClampNeg)).toNatClampNeg) < 0 → vp_in (gI s ((rfx (gDx s 1) 8) + 3) ((gI s 227 (a1).toNatClampNeg)).toNatClampNeg) 9 ∧ (((gI s91 232 ((gI s ((rfx (gDx s 1) 8) + 3) ((gI s 227 (a1).toNatClampNeg)).toNatClampNeg)).toNatClampNeg) < 0 → BV MX5_placeBy (e + 4) 185 [(0, .ref 225), (1, .int a1), (2, .int a2), (3, .int a3), (4, .int (gI s 226 (a1).toNatClampNeg)), (5, .int (gI s ((rfx (gDx s 1) 8) + 3) ((gI s 227 (a1).toNatClampNeg)).toNatClampNeg)), (6, .int (gI s80 ((rfx (gDx s80 1) 8) + 5) ((gI s80 228 (a1).toNatClampNeg)).toNatClampNeg))] s91 Q) ∧ (¬ (gI s91 232 ((gI s ((rfx (gDx s 1) 8) + 3) ((gI s 227 (a1).toNatClampNeg)).toNatClampNeg)).toNatClampNeg) < 0 → vp_in a1 6 ∧ KV MX5_place (e + 3) [.ref 225, .int (a1 + (1 : Int32)), .int (a3 + (1 : Int32))] (pI s91 229 (a1).toNatClampNeg a2) (fun s95 => BV MX5_placeBy (e + 4) 185 [(0, .ref 225), (1, .int a1), (2, .int a2), (3, .int a3), (4, .int (gI s 226 (a1).toNatClampNeg)), (5, .int (gI s ((rfx (gDx s 1) 8) + 3) ((gI s 227 (a1).toNatClampNeg)).toNatClampNeg)), (6, .int (gI s80 ((rfx (gDx s80 1) 8) + 5) ((gI s80 228 (a1).toNatClampNeg)).toNatClampNeg))] s95 Q)))))))) ∧ (x81 = 0 → Q s80))))))))))) ∧ ((a2 &&& (2 : Int32)) = 0 → vp_in a1 6 ∧ (((gI s 226 (a1).toNatClampNeg) = (-1 : Int32) → Q s) ∧ (¬ (gI s 226 (a1).toNatClampNeg) = (-1 : Int32) → (((gI s 227 (a1).toNatClampNeg) = (-1 : Int32) → Q s) ∧ (¬ (gI s 227 (a1).toNatClampNeg) = (-1 : Int32) → gD s 1 = some (gDx s 1) ∧ ((gDx s 1), rfx (gDx s 1) 8) ∈ LX ∧ KI MX4_lives 0 [.ref (gDx s 1), .int (gI s 226 (a1).toNatClampNeg)] s (fun x107 s106 => ((x107 = 0 → Q s106) ∧ (¬ x107 = 0 → gD s106 1 = some (gDx s106 1) ∧ ((gDx s106 1), rfx (gDx s106 1) 8) ∈ LX ∧ KI MX4_lives 0 [.ref (gDx s106 1), .int (gI s 227 (a1).toNatClampNeg)] s106 (fun x111 s110 => ((¬ x111 = 0 → gD s110 1 = some (gDx s110 1) ∧ ((gDx s110 1), rfx (gDx s110 1) 8) ∈ LX ∧ vp_in a1 6 ∧ vp_in (gI s110 228 (a1).toNatClampNeg) 6 ∧ vp_in (gI s 226 (a1).toNatClampNeg) 9 ∧ vp_in (gI s 226 (a1).toNatClampNeg) 9 ∧ (∀ s118, s118 = (pI s110 232 ((gI s 226 (a1).toNatClampNeg)).toNatClampNeg ((gI s110 232 ((gI s 226 (a1).toNatClampNeg)).toNatClampNeg) - (gI s110 ((rfx (gDx s110 1) 8) + 5) ((gI s110 228 (a1).toNatClampNeg)).toNatClampNeg))) → vp_in (gI s 227 (a1).toNatClampNeg) 9 ∧ vp_in (gI s 227 (a1).toNatClampNeg) 9 ∧ (∀ s121, s121 = (pI s118 232 ((gI s 227 (a1).toNatClampNeg)).toNatClampNeg ((gI s118 232 ((gI s 227 (a1).toNatClampNeg)).toNatClampNeg) - (gI s110 ((rfx (gDx s110 1) 8) + 5) ((gI s110 228 (a1).toNatClampNeg)).toNatClampNeg))) → vp_in (gI s 226 (a1).toNatClampNeg) 9 ∧ (((gI s121 232 ((gI s 226 (a1).toNatClampNeg)).toNatClampNeg) < 0 → BV MX5_placeBy (e + 4) 185 [(0, .ref 225), (1, .int a1), (2, .int a2), (3, .int a3), (4, .int (gI s 226 (a1).toNatClampNeg)), (5, .int (gI s 227 (a1).toNatClampNeg)), (6, .int (gI s110 ((rfx (gDx s110 1) 8) + 5) ((gI s110 228 (a1).toNatClampNeg)).toNatClampNeg))] s121 Q) ∧ (¬ (gI s121 232 ((gI s 226 (a1).toNatClampNeg)).toNatClampNeg) < 0 → vp_in (gI s 227 (a1).toNatClampNeg) 9 ∧ (((gI s121 232 ((gI s 227 (a1).toNatClampNeg)).toNatClampNeg) < 0 → BV MX5_placeBy (e + 4) 185 [(0, .ref 225), (1, .int a1), (2, .int a2), (3, .int a3), (4, .int (gI s 226 (a1).toNatClampNeg)), (5, .int (gI s 227 (a1).toNatClampNeg)), (6, .int (gI s110 ((rfx (gDx s110 1) 8) + 5) ((gI s110 228 (a1).toNatClampNeg)).toNatClampNeg))] s121 Q) ∧ (¬ (gI s121 232 ((gI s 227 (a1).toNatClampNeg)).toNatClampNeg) < 0 → vp_in a1 6 ∧ KV MX5_place (e + 3) [.ref 225, .int (a1 + (1 : Int32)), .int (a3 + (1 : Int32))] (pI s121 229 (a1).toNatClampNeg a2) (fun s125 => BV MX5_placeBy (e + 4) 185 [(0, .ref 225), (1, .int a1), (2, .int a2), (3, .int a3), (4, .int (gI s 226 (a1).toNatClampNeg)), (5, .int (gI s 227 (a1).toNatClampNeg)), (6, .int (gI s110 ((rfx (gDx s110 1) 8) + 5) ((gI s110 228 (a1).toNatClampNeg)).toNatClampNeg))] s125 Q)))))))) ∧ (x111 = 0 → Q s110))))))))))))))) : KV MX5_placeBy (e + 4) [.ref 225, .int a1, .int a2, .int a3] s Q := by
  show BV MX5_placeBy (e + 4) 0 [(0, .ref 225), (1, .int a1), (2, .int a2), (3, .int a3)] s Q
  refine JT_iload_n (q := 2) dX5_placeBy_0 rfl rfl ?_
  refine JT_iconst (v := 1) dX5_placeBy_1 ic_1 ?_
  refine JT_iand dX5_placeBy_2 ?_
  refine JT_if_ne (tgt := 15) dX5_placeBy_3 (by decide) (fun hc134 => ?_) (fun hc134 => ?_)
  · have h := h.1 hc134
    refine JT_aload_n (q := 0) dX5_placeBy_15 rfl rfl ?_
    obtain ⟨hr1, hL2, h⟩ := h
    refine JS_getR (x := (gDx s 1)) dX5_placeBy_16 flX5_71 BS_225 (Nat.le_of_ble_eq_true rfl) (Nat.le_of_ble_eq_true rfl) (Or.inl ⟨_, ct_5_10⟩) (RF_225_10.trans hr1) ?_
    refine JS_getR (x := (rfx (gDx s 1) 8)) dX5_placeBy_19 flX5_95 (lxB hL2) (lx2 hL2) (lxN hL2) (Or.inl ⟨_, ct_4_8⟩) (lxR8 hL2) ?_
    refine JS_getR (x := ((rfx (gDx s 1) 8) + 3)) dX5_placeBy_22 flX5_99 (pxB (lxP hL2)) (px2 (lxP hL2)) (pxN (lxP hL2)) (Or.inr ⟨_, ct_6_2⟩) (pxR2 (lxP hL2)) ?_
    refine JT_aload_n (q := 0) dX5_placeBy_25 rfl rfl ?_
    refine JS_getR (x := 226) dX5_placeBy_26 flX5_9 BS_225 (Nat.le_of_ble_eq_true rfl) (Nat.le_of_ble_eq_true rfl) (Or.inr ⟨_, ct_5_2⟩) RF_225_2 ?_
    refine JT_iload_n (q := 1) dX5_placeBy_29 rfl rfl ?_
    obtain ⟨o3, h⟩ := h
    refine JS_iald dX5_placeBy_30 BS_226 (Nat.le_of_ble_eq_true rfl) (Nat.le_of_ble_eq_true rfl) o3 ?_
    obtain ⟨o4, h⟩ := h
    refine JS_iald dX5_placeBy_31 (pxB3 (lxP hL2)) (px2k (lxP hL2) _) (pxNk (lxP hL2) (Nat.le_of_ble_eq_true rfl)) o4 ?_
    refine JT_istore (lv' := [(4, .int (gI s ((rfx (gDx s 1) 8) + 3) ((gI s 226 (a1).toNatClampNeg)).toNatClampNeg)), (0, .ref 225), (1, .int a1), (2, .int a2), (3, .int a3)]) dX5_placeBy_32 (Nat.le_of_ble_eq_true rfl) rfl ?_
    refine JT_iload_n (q := 3) dX5_placeBy_34 rfl rfl ?_
    refine JT_iconst (v := 2) dX5_placeBy_35 ic_2 ?_
    refine JT_iand dX5_placeBy_36 ?_
    refine JT_if_ne (tgt := 49) dX5_placeBy_37 (by decide) (fun hc68 => ?_) (fun hc68 => ?_)
    · have h := h.1 hc68
      refine JT_aload_n (q := 1) dX5_placeBy_49 rfl rfl ?_
      obtain ⟨hr5, hL6, h⟩ := h
      refine JS_getR (x := (gDx s 1)) dX5_placeBy_50 flX5_71 BS_225 (Nat.le_of_ble_eq_true rfl) (Nat.le_of_ble_eq_true rfl) (Or.inl ⟨_, ct_5_10⟩) (RF_225_10.trans hr5) ?_
      refine JS_getR (x := (rfx (gDx s 1) 8)) dX5_placeBy_53 flX5_95 (lxB hL6) (lx2 hL6) (lxN hL6) (Or.inl ⟨_, ct_4_8⟩) (lxR8 hL6) ?_
      refine JS_getR (x := ((rfx (gDx s 1) 8) + 3)) dX5_placeBy_56 flX5_99 (pxB (lxP hL6)) (px2 (lxP hL6)) (pxN (lxP hL6)) (Or.inr ⟨_, ct_6_2⟩) (pxR2 (lxP hL6)) ?_
      refine JT_aload_n (q := 1) dX5_placeBy_59 rfl rfl ?_
      refine JS_getR (x := 227) dX5_placeBy_60 flX5_15 BS_225 (Nat.le_of_ble_eq_true rfl) (Nat.le_of_ble_eq_true rfl) (Or.inr ⟨_, ct_5_3⟩) RF_225_3 ?_
      refine JT_iload_n (q := 2) dX5_placeBy_63 rfl rfl ?_
      obtain ⟨o7, h⟩ := h
      refine JS_iald dX5_placeBy_64 BS_227 (Nat.le_of_ble_eq_true rfl) (Nat.le_of_ble_eq_true rfl) o7 ?_
      obtain ⟨o8, h⟩ := h
      refine JS_iald dX5_placeBy_65 (pxB3 (lxP hL6)) (px2k (lxP hL6) _) (pxNk (lxP hL6) (Nat.le_of_ble_eq_true rfl)) o8 ?_
      refine JT_istore (lv' := [(5, .int (gI s ((rfx (gDx s 1) 8) + 3) ((gI s 227 (a1).toNatClampNeg)).toNatClampNeg)), (4, .int (gI s ((rfx (gDx s 1) 8) + 3) ((gI s 226 (a1).toNatClampNeg)).toNatClampNeg)), (0, .ref 225), (1, .int a1), (2, .int a2), (3, .int a3)]) dX5_placeBy_66 (Nat.le_of_ble_eq_true rfl) rfl ?_
      refine JT_iload (q := 1) dX5_placeBy_68 rfl ?_
      refine JT_iconst (v := -1) dX5_placeBy_70 ic_m1 ?_
      refine JT_icmp_eq (tgt := 104) dX5_placeBy_71 (by decide) (fun hc37 => ?_) (fun hc37 => ?_)
      · have h := h.1 hc37
        exact JS_vret dX5_placeBy_104 rfl h
      · have h := h.2 hc37
        refine JT_iload (q := 0) dX5_placeBy_74 rfl ?_
        refine JT_iconst (v := -1) dX5_placeBy_76 ic_m1 ?_
        refine JT_icmp_eq (tgt := 104) dX5_placeBy_77 (by decide) (fun hc36 => ?_) (fun hc36 => ?_)
        · have h := h.1 hc36
          exact JS_vret dX5_placeBy_104 rfl h
        · have h := h.2 hc36
          refine JT_aload_n (q := 2) dX5_placeBy_80 rfl rfl ?_
          obtain ⟨hr9, hL10, h⟩ := h
          refine JS_getR (x := (gDx s 1)) dX5_placeBy_81 flX5_71 BS_225 (Nat.le_of_ble_eq_true rfl) (Nat.le_of_ble_eq_true rfl) (Or.inl ⟨_, ct_5_10⟩) (RF_225_10.trans hr9) ?_
          refine JT_iload (q := 1) dX5_placeBy_84 rfl ?_
          refine JS_callVI (M' := MX4_lives) (d' := 0) (As := [.int (gI s ((rfx (gDx s 1) 8) + 3) ((gI s 226 (a1).toNatClampNeg)).toNatClampNeg)]) (rest := []) dX5_placeBy_86 cvX5_87 okX4_lives rfl (Nat.le_of_ble_eq_true rfl) (lxB hL10) (lx2 hL10) (lxN hL10) hci_4 (Nat.le_of_ble_eq_true rfl) (by show 0 + 1 ≤ e + 4; omega) h (fun x12 s11 h => ?_)
          refine JT_if_eq (tgt := 104) dX5_placeBy_89 (by decide) (fun hc35 => ?_) (fun hc35 => ?_)
          · have h := h.1 hc35
            exact JS_vret dX5_placeBy_104 rfl h
          · have h := h.2 hc35
            refine JT_aload_n (q := 2) dX5_placeBy_92 rfl rfl ?_
            obtain ⟨hr13, hL14, h⟩ := h
            refine JS_getR (x := (gDx s11 1)) dX5_placeBy_93 flX5_71 BS_225 (Nat.le_of_ble_eq_true rfl) (Nat.le_of_ble_eq_true rfl) (Or.inl ⟨_, ct_5_10⟩) (RF_225_10.trans hr13) ?_
            refine JT_iload (q := 0) dX5_placeBy_96 rfl ?_
            refine JS_callVI (M' := MX4_lives) (d' := 0) (As := [.int (gI s ((rfx (gDx s 1) 8) + 3) ((gI s 227 (a1).toNatClampNeg)).toNatClampNeg)]) (rest := []) dX5_placeBy_98 cvX5_87 okX4_lives rfl (Nat.le_of_ble_eq_true rfl) (lxB hL14) (lx2 hL14) (lxN hL14) hci_4 (Nat.le_of_ble_eq_true rfl) (by show 0 + 1 ≤ e + 4; omega) h (fun x16 s15 h => ?_)
            refine JT_if_ne (tgt := 105) dX5_placeBy_101 (by decide) (fun hc34 => ?_) (fun hc34 => ?_)
            · have h := h.1 hc34
              refine JT_aload_n (q := 2) dX5_placeBy_105 rfl rfl ?_
              obtain ⟨hr17, hL18, h⟩ := h
              refine JS_getR (x := (gDx s15 1)) dX5_placeBy_106 flX5_71 BS_225 (Nat.le_of_ble_eq_true rfl) (Nat.le_of_ble_eq_true rfl) (Or.inl ⟨_, ct_5_10⟩) (RF_225_10.trans hr17) ?_
              refine JS_getR (x := (rfx (gDx s15 1) 8)) dX5_placeBy_109 flX5_95 (lxB hL18) (lx2 hL18) (lxN hL18) (Or.inl ⟨_, ct_4_8⟩) (lxR8 hL18) ?_
              refine JS_getR (x := ((rfx (gDx s15 1) 8) + 5)) dX5_placeBy_112 flX5_102 (pxB (lxP hL18)) (px2 (lxP hL18)) (pxN (lxP hL18)) (Or.inr ⟨_, ct_6_4⟩) (pxR4 (lxP hL18)) ?_
              refine JT_aload_n (q := 2) dX5_placeBy_115 rfl rfl ?_
              refine JS_getR (x := 228) dX5_placeBy_116 flX5_18 BS_225 (Nat.le_of_ble_eq_true rfl) (Nat.le_of_ble_eq_true rfl) (Or.inr ⟨_, ct_5_4⟩) RF_225_4 ?_
              refine JT_iload_n (q := 3) dX5_placeBy_119 rfl rfl ?_
              obtain ⟨o19, h⟩ := h
              refine JS_iald dX5_placeBy_120 BS_228 (Nat.le_of_ble_eq_true rfl) (Nat.le_of_ble_eq_true rfl) o19 ?_
              obtain ⟨o20, h⟩ := h
              refine JS_iald dX5_placeBy_121 (pxB5 (lxP hL18)) (px2k (lxP hL18) _) (pxNk (lxP hL18) (Nat.le_of_ble_eq_true rfl)) o20 ?_
              refine JT_istore (lv' := [(6, .int (gI s15 ((rfx (gDx s15 1) 8) + 5) ((gI s15 228 (a1).toNatClampNeg)).toNatClampNeg)), (5, .int (gI s ((rfx (gDx s 1) 8) + 3) ((gI s 227 (a1).toNatClampNeg)).toNatClampNeg)), (4, .int (gI s ((rfx (gDx s 1) 8) + 3) ((gI s 226 (a1).toNatClampNeg)).toNatClampNeg)), (0, .ref 225), (1, .int a1), (2, .int a2), (3, .int a3)]) dX5_placeBy_122 (Nat.le_of_ble_eq_true rfl) rfl ?_
              refine JT_aload_n (q := 3) dX5_placeBy_124 rfl rfl ?_
              refine JS_getR (x := 232) dX5_placeBy_125 flX5_30 BS_225 (Nat.le_of_ble_eq_true rfl) (Nat.le_of_ble_eq_true rfl) (Or.inr ⟨_, ct_5_8⟩) RF_225_8 ?_
              refine JT_iload (q := 2) dX5_placeBy_128 rfl ?_
              refine JT_dup2 dX5_placeBy_130 rfl rfl ?_
              obtain ⟨o21, h⟩ := h
              refine JS_iald dX5_placeBy_131 BS_232 (Nat.le_of_ble_eq_true rfl) (Nat.le_of_ble_eq_true rfl) o21 ?_
              refine JT_iload (q := 0) dX5_placeBy_132 rfl ?_
              refine JT_isub dX5_placeBy_134 ?_
              obtain ⟨o22, h⟩ := h
              refine JS_iast dX5_placeBy_135 BS_232 (Nat.le_of_ble_eq_true rfl) (Nat.le_of_ble_eq_true rfl) o22 ?_
              obtain ⟨s23, hs23⟩ : ∃ z, z = (pI s15 232 ((gI s ((rfx (gDx s 1) 8) + 3) ((gI s 226 (a1).toNatClampNeg)).toNatClampNeg)).toNatClampNeg ((gI s15 232 ((gI s ((rfx (gDx s 1) 8) + 3) ((gI s 226 (a1).toNatClampNeg)).toNatClampNeg)).toNatClampNeg) - (gI s15 ((rfx (gDx s15 1) 8) + 5) ((gI s15 228 (a1).toNatClampNeg)).toNatClampNeg))) := ⟨_, rfl⟩
              replace h := h s23 hs23
              rw [← hs23]
              refine JT_aload_n (q := 3) dX5_placeBy_136 rfl rfl ?_
              refine JS_getR (x := 232) dX5_placeBy_137 flX5_30 BS_225 (Nat.le_of_ble_eq_true rfl) (Nat.le_of_ble_eq_true rfl) (Or.inr ⟨_, ct_5_8⟩) RF_225_8 ?_
              refine JT_iload (q := 1) dX5_placeBy_140 rfl ?_
              refine JT_dup2 dX5_placeBy_142 rfl rfl ?_
              obtain ⟨o24, h⟩ := h
              refine JS_iald dX5_placeBy_143 BS_232 (Nat.le_of_ble_eq_true rfl) (Nat.le_of_ble_eq_true rfl) o24 ?_
              refine JT_iload (q := 0) dX5_placeBy_144 rfl ?_
              refine JT_isub dX5_placeBy_146 ?_
              obtain ⟨o25, h⟩ := h
              refine JS_iast dX5_placeBy_147 BS_232 (Nat.le_of_ble_eq_true rfl) (Nat.le_of_ble_eq_true rfl) o25 ?_
              obtain ⟨s26, hs26⟩ : ∃ z, z = (pI s23 232 ((gI s ((rfx (gDx s 1) 8) + 3) ((gI s 227 (a1).toNatClampNeg)).toNatClampNeg)).toNatClampNeg ((gI s23 232 ((gI s ((rfx (gDx s 1) 8) + 3) ((gI s 227 (a1).toNatClampNeg)).toNatClampNeg)).toNatClampNeg) - (gI s15 ((rfx (gDx s15 1) 8) + 5) ((gI s15 228 (a1).toNatClampNeg)).toNatClampNeg))) := ⟨_, rfl⟩
              replace h := h s26 hs26
              rw [← hs26]
              refine JT_aload_n (q := 3) dX5_placeBy_148 rfl rfl ?_
              refine JS_getR (x := 232) dX5_placeBy_149 flX5_30 BS_225 (Nat.le_of_ble_eq_true rfl) (Nat.le_of_ble_eq_true rfl) (Or.inr ⟨_, ct_5_8⟩) RF_225_8 ?_
              refine JT_iload (q := 2) dX5_placeBy_152 rfl ?_
              obtain ⟨o27, h⟩ := h
              refine JS_iald dX5_placeBy_154 BS_232 (Nat.le_of_ble_eq_true rfl) (Nat.le_of_ble_eq_true rfl) o27 ?_
              refine JT_if_lt (tgt := 185) dX5_placeBy_155 (by decide) (fun hc33 => ?_) (fun hc33 => ?_)
              · have h := h.1 hc33
                exact JT_sub [3, 4, 5, 6, 2, 1, 0] rfl h
              · have h := h.2 hc33
                refine JT_aload_n (q := 3) dX5_placeBy_158 rfl rfl ?_
                refine JS_getR (x := 232) dX5_placeBy_159 flX5_30 BS_225 (Nat.le_of_ble_eq_true rfl) (Nat.le_of_ble_eq_true rfl) (Or.inr ⟨_, ct_5_8⟩) RF_225_8 ?_
                refine JT_iload (q := 1) dX5_placeBy_162 rfl ?_
                obtain ⟨o28, h⟩ := h
                refine JS_iald dX5_placeBy_164 BS_232 (Nat.le_of_ble_eq_true rfl) (Nat.le_of_ble_eq_true rfl) o28 ?_
                refine JT_if_lt (tgt := 185) dX5_placeBy_165 (by decide) (fun hc32 => ?_) (fun hc32 => ?_)
                · have h := h.1 hc32
                  exact JT_sub [3, 4, 5, 6, 2, 1, 0] rfl h
                · have h := h.2 hc32
                  refine JT_aload_n (q := 3) dX5_placeBy_168 rfl rfl ?_
                  refine JS_getR (x := 229) dX5_placeBy_169 flX5_21 BS_225 (Nat.le_of_ble_eq_true rfl) (Nat.le_of_ble_eq_true rfl) (Or.inr ⟨_, ct_5_5⟩) RF_225_5 ?_
                  refine JT_iload_n (q := 4) dX5_placeBy_172 rfl rfl ?_
                  refine JT_iload_n (q := 5) dX5_placeBy_173 rfl rfl ?_
                  obtain ⟨o29, h⟩ := h
                  refine JS_iast dX5_placeBy_174 BS_229 (Nat.le_of_ble_eq_true rfl) (Nat.le_of_ble_eq_true rfl) o29 ?_
                  refine JT_aload_n (q := 3) dX5_placeBy_175 rfl rfl ?_
                  refine JT_iload_n (q := 4) dX5_placeBy_176 rfl rfl ?_
                  refine JT_iconst (v := 1) dX5_placeBy_177 ic_1 ?_
                  refine JT_iadd dX5_placeBy_178 ?_
                  refine JT_iload_n (q := 6) dX5_placeBy_179 rfl rfl ?_
                  refine JT_iconst (v := 1) dX5_placeBy_180 ic_1 ?_
                  refine JT_iadd dX5_placeBy_181 ?_
                  refine JS_callVV (M' := MX5_place) (d' := e + 3) (As := [.int (a1 + (1 : Int32)), .int (a3 + (1 : Int32))]) (rest := []) dX5_placeBy_182 cvX5_83 okX5_place rfl (Nat.le_of_ble_eq_true rfl) BS_225 (Nat.le_of_ble_eq_true rfl) (Nat.le_of_ble_eq_true rfl) hci_5 (Nat.le_of_ble_eq_true rfl) (by show e + 3 + 1 ≤ e + 4; omega) h (fun s30 h => ?_)
                  exact JT_sub [3, 4, 5, 6, 2, 1, 0] rfl h
            · have h := h.2 hc34
              exact JS_vret dX5_placeBy_104 rfl h
    · have h := h.2 hc68
      refine JT_aload_n (q := 1) dX5_placeBy_40 rfl rfl ?_
      refine JS_getR (x := 227) dX5_placeBy_41 flX5_15 BS_225 (Nat.le_of_ble_eq_true rfl) (Nat.le_of_ble_eq_true rfl) (Or.inr ⟨_, ct_5_3⟩) RF_225_3 ?_
      refine JT_iload_n (q := 2) dX5_placeBy_44 rfl rfl ?_
      obtain ⟨o38, h⟩ := h
      refine JS_iald dX5_placeBy_45 BS_227 (Nat.le_of_ble_eq_true rfl) (Nat.le_of_ble_eq_true rfl) o38 ?_
      refine JT_goto (tgt := 66) dX5_placeBy_46 (by decide) ?_
      refine JT_istore (lv' := [(5, .int (gI s 227 (a1).toNatClampNeg)), (4, .int (gI s ((rfx (gDx s 1) 8) + 3) ((gI s 226 (a1).toNatClampNeg)).toNatClampNeg)), (0, .ref 225), (1, .int a1), (2, .int a2), (3, .int a3)]) dX5_placeBy_66 (Nat.le_of_ble_eq_true rfl) rfl ?_
      refine JT_iload (q := 1) dX5_placeBy_68 rfl ?_
      refine JT_iconst (v := -1) dX5_placeBy_70 ic_m1 ?_
      refine JT_icmp_eq (tgt := 104) dX5_placeBy_71 (by decide) (fun hc67 => ?_) (fun hc67 => ?_)
      · have h := h.1 hc67
        exact JS_vret dX5_placeBy_104 rfl h
      · have h := h.2 hc67
        refine JT_iload (q := 0) dX5_placeBy_74 rfl ?_
        refine JT_iconst (v := -1) dX5_placeBy_76 ic_m1 ?_
        refine JT_icmp_eq (tgt := 104) dX5_placeBy_77 (by decide) (fun hc66 => ?_) (fun hc66 => ?_)
        · have h := h.1 hc66
          exact JS_vret dX5_placeBy_104 rfl h
        · have h := h.2 hc66
          refine JT_aload_n (q := 2) dX5_placeBy_80 rfl rfl ?_
          obtain ⟨hr39, hL40, h⟩ := h
          refine JS_getR (x := (gDx s 1)) dX5_placeBy_81 flX5_71 BS_225 (Nat.le_of_ble_eq_true rfl) (Nat.le_of_ble_eq_true rfl) (Or.inl ⟨_, ct_5_10⟩) (RF_225_10.trans hr39) ?_
          refine JT_iload (q := 1) dX5_placeBy_84 rfl ?_
          refine JS_callVI (M' := MX4_lives) (d' := 0) (As := [.int (gI s ((rfx (gDx s 1) 8) + 3) ((gI s 226 (a1).toNatClampNeg)).toNatClampNeg)]) (rest := []) dX5_placeBy_86 cvX5_87 okX4_lives rfl (Nat.le_of_ble_eq_true rfl) (lxB hL40) (lx2 hL40) (lxN hL40) hci_4 (Nat.le_of_ble_eq_true rfl) (by show 0 + 1 ≤ e + 4; omega) h (fun x42 s41 h => ?_)
          refine JT_if_eq (tgt := 104) dX5_placeBy_89 (by decide) (fun hc65 => ?_) (fun hc65 => ?_)
          · have h := h.1 hc65
            exact JS_vret dX5_placeBy_104 rfl h
          · have h := h.2 hc65
            refine JT_aload_n (q := 2) dX5_placeBy_92 rfl rfl ?_
            obtain ⟨hr43, hL44, h⟩ := h
            refine JS_getR (x := (gDx s41 1)) dX5_placeBy_93 flX5_71 BS_225 (Nat.le_of_ble_eq_true rfl) (Nat.le_of_ble_eq_true rfl) (Or.inl ⟨_, ct_5_10⟩) (RF_225_10.trans hr43) ?_
            refine JT_iload (q := 0) dX5_placeBy_96 rfl ?_
            refine JS_callVI (M' := MX4_lives) (d' := 0) (As := [.int (gI s 227 (a1).toNatClampNeg)]) (rest := []) dX5_placeBy_98 cvX5_87 okX4_lives rfl (Nat.le_of_ble_eq_true rfl) (lxB hL44) (lx2 hL44) (lxN hL44) hci_4 (Nat.le_of_ble_eq_true rfl) (by show 0 + 1 ≤ e + 4; omega) h (fun x46 s45 h => ?_)
            refine JT_if_ne (tgt := 105) dX5_placeBy_101 (by decide) (fun hc64 => ?_) (fun hc64 => ?_)
            · have h := h.1 hc64
              refine JT_aload_n (q := 2) dX5_placeBy_105 rfl rfl ?_
              obtain ⟨hr47, hL48, h⟩ := h
              refine JS_getR (x := (gDx s45 1)) dX5_placeBy_106 flX5_71 BS_225 (Nat.le_of_ble_eq_true rfl) (Nat.le_of_ble_eq_true rfl) (Or.inl ⟨_, ct_5_10⟩) (RF_225_10.trans hr47) ?_
              refine JS_getR (x := (rfx (gDx s45 1) 8)) dX5_placeBy_109 flX5_95 (lxB hL48) (lx2 hL48) (lxN hL48) (Or.inl ⟨_, ct_4_8⟩) (lxR8 hL48) ?_
              refine JS_getR (x := ((rfx (gDx s45 1) 8) + 5)) dX5_placeBy_112 flX5_102 (pxB (lxP hL48)) (px2 (lxP hL48)) (pxN (lxP hL48)) (Or.inr ⟨_, ct_6_4⟩) (pxR4 (lxP hL48)) ?_
              refine JT_aload_n (q := 2) dX5_placeBy_115 rfl rfl ?_
              refine JS_getR (x := 228) dX5_placeBy_116 flX5_18 BS_225 (Nat.le_of_ble_eq_true rfl) (Nat.le_of_ble_eq_true rfl) (Or.inr ⟨_, ct_5_4⟩) RF_225_4 ?_
              refine JT_iload_n (q := 3) dX5_placeBy_119 rfl rfl ?_
              obtain ⟨o49, h⟩ := h
              refine JS_iald dX5_placeBy_120 BS_228 (Nat.le_of_ble_eq_true rfl) (Nat.le_of_ble_eq_true rfl) o49 ?_
              obtain ⟨o50, h⟩ := h
              refine JS_iald dX5_placeBy_121 (pxB5 (lxP hL48)) (px2k (lxP hL48) _) (pxNk (lxP hL48) (Nat.le_of_ble_eq_true rfl)) o50 ?_
              refine JT_istore (lv' := [(6, .int (gI s45 ((rfx (gDx s45 1) 8) + 5) ((gI s45 228 (a1).toNatClampNeg)).toNatClampNeg)), (5, .int (gI s 227 (a1).toNatClampNeg)), (4, .int (gI s ((rfx (gDx s 1) 8) + 3) ((gI s 226 (a1).toNatClampNeg)).toNatClampNeg)), (0, .ref 225), (1, .int a1), (2, .int a2), (3, .int a3)]) dX5_placeBy_122 (Nat.le_of_ble_eq_true rfl) rfl ?_
              refine JT_aload_n (q := 3) dX5_placeBy_124 rfl rfl ?_
              refine JS_getR (x := 232) dX5_placeBy_125 flX5_30 BS_225 (Nat.le_of_ble_eq_true rfl) (Nat.le_of_ble_eq_true rfl) (Or.inr ⟨_, ct_5_8⟩) RF_225_8 ?_
              refine JT_iload (q := 2) dX5_placeBy_128 rfl ?_
              refine JT_dup2 dX5_placeBy_130 rfl rfl ?_
              obtain ⟨o51, h⟩ := h
              refine JS_iald dX5_placeBy_131 BS_232 (Nat.le_of_ble_eq_true rfl) (Nat.le_of_ble_eq_true rfl) o51 ?_
              refine JT_iload (q := 0) dX5_placeBy_132 rfl ?_
              refine JT_isub dX5_placeBy_134 ?_
              obtain ⟨o52, h⟩ := h
              refine JS_iast dX5_placeBy_135 BS_232 (Nat.le_of_ble_eq_true rfl) (Nat.le_of_ble_eq_true rfl) o52 ?_
              obtain ⟨s53, hs53⟩ : ∃ z, z = (pI s45 232 ((gI s ((rfx (gDx s 1) 8) + 3) ((gI s 226 (a1).toNatClampNeg)).toNatClampNeg)).toNatClampNeg ((gI s45 232 ((gI s ((rfx (gDx s 1) 8) + 3) ((gI s 226 (a1).toNatClampNeg)).toNatClampNeg)).toNatClampNeg) - (gI s45 ((rfx (gDx s45 1) 8) + 5) ((gI s45 228 (a1).toNatClampNeg)).toNatClampNeg))) := ⟨_, rfl⟩
              replace h := h s53 hs53
              rw [← hs53]
              refine JT_aload_n (q := 3) dX5_placeBy_136 rfl rfl ?_
              refine JS_getR (x := 232) dX5_placeBy_137 flX5_30 BS_225 (Nat.le_of_ble_eq_true rfl) (Nat.le_of_ble_eq_true rfl) (Or.inr ⟨_, ct_5_8⟩) RF_225_8 ?_
              refine JT_iload (q := 1) dX5_placeBy_140 rfl ?_
              refine JT_dup2 dX5_placeBy_142 rfl rfl ?_
              obtain ⟨o54, h⟩ := h
              refine JS_iald dX5_placeBy_143 BS_232 (Nat.le_of_ble_eq_true rfl) (Nat.le_of_ble_eq_true rfl) o54 ?_
              refine JT_iload (q := 0) dX5_placeBy_144 rfl ?_
              refine JT_isub dX5_placeBy_146 ?_
              obtain ⟨o55, h⟩ := h
              refine JS_iast dX5_placeBy_147 BS_232 (Nat.le_of_ble_eq_true rfl) (Nat.le_of_ble_eq_true rfl) o55 ?_
              obtain ⟨s56, hs56⟩ : ∃ z, z = (pI s53 232 ((gI s 227 (a1).toNatClampNeg)).toNatClampNeg ((gI s53 232 ((gI s 227 (a1).toNatClampNeg)).toNatClampNeg) - (gI s45 ((rfx (gDx s45 1) 8) + 5) ((gI s45 228 (a1).toNatClampNeg)).toNatClampNeg))) := ⟨_, rfl⟩
              replace h := h s56 hs56
              rw [← hs56]
              refine JT_aload_n (q := 3) dX5_placeBy_148 rfl rfl ?_
              refine JS_getR (x := 232) dX5_placeBy_149 flX5_30 BS_225 (Nat.le_of_ble_eq_true rfl) (Nat.le_of_ble_eq_true rfl) (Or.inr ⟨_, ct_5_8⟩) RF_225_8 ?_
              refine JT_iload (q := 2) dX5_placeBy_152 rfl ?_
              obtain ⟨o57, h⟩ := h
              refine JS_iald dX5_placeBy_154 BS_232 (Nat.le_of_ble_eq_true rfl) (Nat.le_of_ble_eq_true rfl) o57 ?_
              refine JT_if_lt (tgt := 185) dX5_placeBy_155 (by decide) (fun hc63 => ?_) (fun hc63 => ?_)
              · have h := h.1 hc63
                exact JT_sub [3, 4, 5, 6, 2, 1, 0] rfl h
              · have h := h.2 hc63
                refine JT_aload_n (q := 3) dX5_placeBy_158 rfl rfl ?_
                refine JS_getR (x := 232) dX5_placeBy_159 flX5_30 BS_225 (Nat.le_of_ble_eq_true rfl) (Nat.le_of_ble_eq_true rfl) (Or.inr ⟨_, ct_5_8⟩) RF_225_8 ?_
                refine JT_iload (q := 1) dX5_placeBy_162 rfl ?_
                obtain ⟨o58, h⟩ := h
                refine JS_iald dX5_placeBy_164 BS_232 (Nat.le_of_ble_eq_true rfl) (Nat.le_of_ble_eq_true rfl) o58 ?_
                refine JT_if_lt (tgt := 185) dX5_placeBy_165 (by decide) (fun hc62 => ?_) (fun hc62 => ?_)
                · have h := h.1 hc62
                  exact JT_sub [3, 4, 5, 6, 2, 1, 0] rfl h
                · have h := h.2 hc62
                  refine JT_aload_n (q := 3) dX5_placeBy_168 rfl rfl ?_
                  refine JS_getR (x := 229) dX5_placeBy_169 flX5_21 BS_225 (Nat.le_of_ble_eq_true rfl) (Nat.le_of_ble_eq_true rfl) (Or.inr ⟨_, ct_5_5⟩) RF_225_5 ?_
                  refine JT_iload_n (q := 4) dX5_placeBy_172 rfl rfl ?_
                  refine JT_iload_n (q := 5) dX5_placeBy_173 rfl rfl ?_
                  obtain ⟨o59, h⟩ := h
                  refine JS_iast dX5_placeBy_174 BS_229 (Nat.le_of_ble_eq_true rfl) (Nat.le_of_ble_eq_true rfl) o59 ?_
                  refine JT_aload_n (q := 3) dX5_placeBy_175 rfl rfl ?_
                  refine JT_iload_n (q := 4) dX5_placeBy_176 rfl rfl ?_
                  refine JT_iconst (v := 1) dX5_placeBy_177 ic_1 ?_
                  refine JT_iadd dX5_placeBy_178 ?_
                  refine JT_iload_n (q := 6) dX5_placeBy_179 rfl rfl ?_
                  refine JT_iconst (v := 1) dX5_placeBy_180 ic_1 ?_
                  refine JT_iadd dX5_placeBy_181 ?_
                  refine JS_callVV (M' := MX5_place) (d' := e + 3) (As := [.int (a1 + (1 : Int32)), .int (a3 + (1 : Int32))]) (rest := []) dX5_placeBy_182 cvX5_83 okX5_place rfl (Nat.le_of_ble_eq_true rfl) BS_225 (Nat.le_of_ble_eq_true rfl) (Nat.le_of_ble_eq_true rfl) hci_5 (Nat.le_of_ble_eq_true rfl) (by show e + 3 + 1 ≤ e + 4; omega) h (fun s60 h => ?_)
                  exact JT_sub [3, 4, 5, 6, 2, 1, 0] rfl h
            · have h := h.2 hc64
              exact JS_vret dX5_placeBy_104 rfl h
  · have h := h.2 hc134
    refine JT_aload_n (q := 0) dX5_placeBy_6 rfl rfl ?_
    refine JS_getR (x := 226) dX5_placeBy_7 flX5_9 BS_225 (Nat.le_of_ble_eq_true rfl) (Nat.le_of_ble_eq_true rfl) (Or.inr ⟨_, ct_5_2⟩) RF_225_2 ?_
    refine JT_iload_n (q := 1) dX5_placeBy_10 rfl rfl ?_
    obtain ⟨o69, h⟩ := h
    refine JS_iald dX5_placeBy_11 BS_226 (Nat.le_of_ble_eq_true rfl) (Nat.le_of_ble_eq_true rfl) o69 ?_
    refine JT_goto (tgt := 32) dX5_placeBy_12 (by decide) ?_
    refine JT_istore (lv' := [(4, .int (gI s 226 (a1).toNatClampNeg)), (0, .ref 225), (1, .int a1), (2, .int a2), (3, .int a3)]) dX5_placeBy_32 (Nat.le_of_ble_eq_true rfl) rfl ?_
    refine JT_iload_n (q := 3) dX5_placeBy_34 rfl rfl ?_
    refine JT_iconst (v := 2) dX5_placeBy_35 ic_2 ?_
    refine JT_iand dX5_placeBy_36 ?_
    refine JT_if_ne (tgt := 49) dX5_placeBy_37 (by decide) (fun hc133 => ?_) (fun hc133 => ?_)
    · have h := h.1 hc133
      refine JT_aload_n (q := 1) dX5_placeBy_49 rfl rfl ?_
      obtain ⟨hr70, hL71, h⟩ := h
      refine JS_getR (x := (gDx s 1)) dX5_placeBy_50 flX5_71 BS_225 (Nat.le_of_ble_eq_true rfl) (Nat.le_of_ble_eq_true rfl) (Or.inl ⟨_, ct_5_10⟩) (RF_225_10.trans hr70) ?_
      refine JS_getR (x := (rfx (gDx s 1) 8)) dX5_placeBy_53 flX5_95 (lxB hL71) (lx2 hL71) (lxN hL71) (Or.inl ⟨_, ct_4_8⟩) (lxR8 hL71) ?_
      refine JS_getR (x := ((rfx (gDx s 1) 8) + 3)) dX5_placeBy_56 flX5_99 (pxB (lxP hL71)) (px2 (lxP hL71)) (pxN (lxP hL71)) (Or.inr ⟨_, ct_6_2⟩) (pxR2 (lxP hL71)) ?_
      refine JT_aload_n (q := 1) dX5_placeBy_59 rfl rfl ?_
      refine JS_getR (x := 227) dX5_placeBy_60 flX5_15 BS_225 (Nat.le_of_ble_eq_true rfl) (Nat.le_of_ble_eq_true rfl) (Or.inr ⟨_, ct_5_3⟩) RF_225_3 ?_
      refine JT_iload_n (q := 2) dX5_placeBy_63 rfl rfl ?_
      obtain ⟨o72, h⟩ := h
      refine JS_iald dX5_placeBy_64 BS_227 (Nat.le_of_ble_eq_true rfl) (Nat.le_of_ble_eq_true rfl) o72 ?_
      obtain ⟨o73, h⟩ := h
      refine JS_iald dX5_placeBy_65 (pxB3 (lxP hL71)) (px2k (lxP hL71) _) (pxNk (lxP hL71) (Nat.le_of_ble_eq_true rfl)) o73 ?_
      refine JT_istore (lv' := [(5, .int (gI s ((rfx (gDx s 1) 8) + 3) ((gI s 227 (a1).toNatClampNeg)).toNatClampNeg)), (4, .int (gI s 226 (a1).toNatClampNeg)), (0, .ref 225), (1, .int a1), (2, .int a2), (3, .int a3)]) dX5_placeBy_66 (Nat.le_of_ble_eq_true rfl) rfl ?_
      refine JT_iload (q := 1) dX5_placeBy_68 rfl ?_
      refine JT_iconst (v := -1) dX5_placeBy_70 ic_m1 ?_
      refine JT_icmp_eq (tgt := 104) dX5_placeBy_71 (by decide) (fun hc102 => ?_) (fun hc102 => ?_)
      · have h := h.1 hc102
        exact JS_vret dX5_placeBy_104 rfl h
      · have h := h.2 hc102
        refine JT_iload (q := 0) dX5_placeBy_74 rfl ?_
        refine JT_iconst (v := -1) dX5_placeBy_76 ic_m1 ?_
        refine JT_icmp_eq (tgt := 104) dX5_placeBy_77 (by decide) (fun hc101 => ?_) (fun hc101 => ?_)
        · have h := h.1 hc101
          exact JS_vret dX5_placeBy_104 rfl h
        · have h := h.2 hc101
          refine JT_aload_n (q := 2) dX5_placeBy_80 rfl rfl ?_
          obtain ⟨hr74, hL75, h⟩ := h
          refine JS_getR (x := (gDx s 1)) dX5_placeBy_81 flX5_71 BS_225 (Nat.le_of_ble_eq_true rfl) (Nat.le_of_ble_eq_true rfl) (Or.inl ⟨_, ct_5_10⟩) (RF_225_10.trans hr74) ?_
          refine JT_iload (q := 1) dX5_placeBy_84 rfl ?_
          refine JS_callVI (M' := MX4_lives) (d' := 0) (As := [.int (gI s 226 (a1).toNatClampNeg)]) (rest := []) dX5_placeBy_86 cvX5_87 okX4_lives rfl (Nat.le_of_ble_eq_true rfl) (lxB hL75) (lx2 hL75) (lxN hL75) hci_4 (Nat.le_of_ble_eq_true rfl) (by show 0 + 1 ≤ e + 4; omega) h (fun x77 s76 h => ?_)
          refine JT_if_eq (tgt := 104) dX5_placeBy_89 (by decide) (fun hc100 => ?_) (fun hc100 => ?_)
          · have h := h.1 hc100
            exact JS_vret dX5_placeBy_104 rfl h
          · have h := h.2 hc100
            refine JT_aload_n (q := 2) dX5_placeBy_92 rfl rfl ?_
            obtain ⟨hr78, hL79, h⟩ := h
            refine JS_getR (x := (gDx s76 1)) dX5_placeBy_93 flX5_71 BS_225 (Nat.le_of_ble_eq_true rfl) (Nat.le_of_ble_eq_true rfl) (Or.inl ⟨_, ct_5_10⟩) (RF_225_10.trans hr78) ?_
            refine JT_iload (q := 0) dX5_placeBy_96 rfl ?_
            refine JS_callVI (M' := MX4_lives) (d' := 0) (As := [.int (gI s ((rfx (gDx s 1) 8) + 3) ((gI s 227 (a1).toNatClampNeg)).toNatClampNeg)]) (rest := []) dX5_placeBy_98 cvX5_87 okX4_lives rfl (Nat.le_of_ble_eq_true rfl) (lxB hL79) (lx2 hL79) (lxN hL79) hci_4 (Nat.le_of_ble_eq_true rfl) (by show 0 + 1 ≤ e + 4; omega) h (fun x81 s80 h => ?_)
            refine JT_if_ne (tgt := 105) dX5_placeBy_101 (by decide) (fun hc99 => ?_) (fun hc99 => ?_)
            · have h := h.1 hc99
              refine JT_aload_n (q := 2) dX5_placeBy_105 rfl rfl ?_
              obtain ⟨hr82, hL83, h⟩ := h
              refine JS_getR (x := (gDx s80 1)) dX5_placeBy_106 flX5_71 BS_225 (Nat.le_of_ble_eq_true rfl) (Nat.le_of_ble_eq_true rfl) (Or.inl ⟨_, ct_5_10⟩) (RF_225_10.trans hr82) ?_
              refine JS_getR (x := (rfx (gDx s80 1) 8)) dX5_placeBy_109 flX5_95 (lxB hL83) (lx2 hL83) (lxN hL83) (Or.inl ⟨_, ct_4_8⟩) (lxR8 hL83) ?_
              refine JS_getR (x := ((rfx (gDx s80 1) 8) + 5)) dX5_placeBy_112 flX5_102 (pxB (lxP hL83)) (px2 (lxP hL83)) (pxN (lxP hL83)) (Or.inr ⟨_, ct_6_4⟩) (pxR4 (lxP hL83)) ?_
              refine JT_aload_n (q := 2) dX5_placeBy_115 rfl rfl ?_
              refine JS_getR (x := 228) dX5_placeBy_116 flX5_18 BS_225 (Nat.le_of_ble_eq_true rfl) (Nat.le_of_ble_eq_true rfl) (Or.inr ⟨_, ct_5_4⟩) RF_225_4 ?_
              refine JT_iload_n (q := 3) dX5_placeBy_119 rfl rfl ?_
              obtain ⟨o84, h⟩ := h
              refine JS_iald dX5_placeBy_120 BS_228 (Nat.le_of_ble_eq_true rfl) (Nat.le_of_ble_eq_true rfl) o84 ?_
              obtain ⟨o85, h⟩ := h
              refine JS_iald dX5_placeBy_121 (pxB5 (lxP hL83)) (px2k (lxP hL83) _) (pxNk (lxP hL83) (Nat.le_of_ble_eq_true rfl)) o85 ?_
              refine JT_istore (lv' := [(6, .int (gI s80 ((rfx (gDx s80 1) 8) + 5) ((gI s80 228 (a1).toNatClampNeg)).toNatClampNeg)), (5, .int (gI s ((rfx (gDx s 1) 8) + 3) ((gI s 227 (a1).toNatClampNeg)).toNatClampNeg)), (4, .int (gI s 226 (a1).toNatClampNeg)), (0, .ref 225), (1, .int a1), (2, .int a2), (3, .int a3)]) dX5_placeBy_122 (Nat.le_of_ble_eq_true rfl) rfl ?_
              refine JT_aload_n (q := 3) dX5_placeBy_124 rfl rfl ?_
              refine JS_getR (x := 232) dX5_placeBy_125 flX5_30 BS_225 (Nat.le_of_ble_eq_true rfl) (Nat.le_of_ble_eq_true rfl) (Or.inr ⟨_, ct_5_8⟩) RF_225_8 ?_
              refine JT_iload (q := 2) dX5_placeBy_128 rfl ?_
              refine JT_dup2 dX5_placeBy_130 rfl rfl ?_
              obtain ⟨o86, h⟩ := h
              refine JS_iald dX5_placeBy_131 BS_232 (Nat.le_of_ble_eq_true rfl) (Nat.le_of_ble_eq_true rfl) o86 ?_
              refine JT_iload (q := 0) dX5_placeBy_132 rfl ?_
              refine JT_isub dX5_placeBy_134 ?_
              obtain ⟨o87, h⟩ := h
              refine JS_iast dX5_placeBy_135 BS_232 (Nat.le_of_ble_eq_true rfl) (Nat.le_of_ble_eq_true rfl) o87 ?_
              obtain ⟨s88, hs88⟩ : ∃ z, z = (pI s80 232 ((gI s 226 (a1).toNatClampNeg)).toNatClampNeg ((gI s80 232 ((gI s 226 (a1).toNatClampNeg)).toNatClampNeg) - (gI s80 ((rfx (gDx s80 1) 8) + 5) ((gI s80 228 (a1).toNatClampNeg)).toNatClampNeg))) := ⟨_, rfl⟩
              replace h := h s88 hs88
              rw [← hs88]
              refine JT_aload_n (q := 3) dX5_placeBy_136 rfl rfl ?_
              refine JS_getR (x := 232) dX5_placeBy_137 flX5_30 BS_225 (Nat.le_of_ble_eq_true rfl) (Nat.le_of_ble_eq_true rfl) (Or.inr ⟨_, ct_5_8⟩) RF_225_8 ?_
              refine JT_iload (q := 1) dX5_placeBy_140 rfl ?_
              refine JT_dup2 dX5_placeBy_142 rfl rfl ?_
              obtain ⟨o89, h⟩ := h
              refine JS_iald dX5_placeBy_143 BS_232 (Nat.le_of_ble_eq_true rfl) (Nat.le_of_ble_eq_true rfl) o89 ?_
              refine JT_iload (q := 0) dX5_placeBy_144 rfl ?_
              refine JT_isub dX5_placeBy_146 ?_
              obtain ⟨o90, h⟩ := h
              refine JS_iast dX5_placeBy_147 BS_232 (Nat.le_of_ble_eq_true rfl) (Nat.le_of_ble_eq_true rfl) o90 ?_
              obtain ⟨s91, hs91⟩ : ∃ z, z = (pI s88 232 ((gI s ((rfx (gDx s 1) 8) + 3) ((gI s 227 (a1).toNatClampNeg)).toNatClampNeg)).toNatClampNeg ((gI s88 232 ((gI s ((rfx (gDx s 1) 8) + 3) ((gI s 227 (a1).toNatClampNeg)).toNatClampNeg)).toNatClampNeg) - (gI s80 ((rfx (gDx s80 1) 8) + 5) ((gI s80 228 (a1).toNatClampNeg)).toNatClampNeg))) := ⟨_, rfl⟩
              replace h := h s91 hs91
              rw [← hs91]
              refine JT_aload_n (q := 3) dX5_placeBy_148 rfl rfl ?_
              refine JS_getR (x := 232) dX5_placeBy_149 flX5_30 BS_225 (Nat.le_of_ble_eq_true rfl) (Nat.le_of_ble_eq_true rfl) (Or.inr ⟨_, ct_5_8⟩) RF_225_8 ?_
              refine JT_iload (q := 2) dX5_placeBy_152 rfl ?_
              obtain ⟨o92, h⟩ := h
              refine JS_iald dX5_placeBy_154 BS_232 (Nat.le_of_ble_eq_true rfl) (Nat.le_of_ble_eq_true rfl) o92 ?_
              refine JT_if_lt (tgt := 185) dX5_placeBy_155 (by decide) (fun hc98 => ?_) (fun hc98 => ?_)
              · have h := h.1 hc98
                exact JT_sub [3, 4, 5, 6, 2, 1, 0] rfl h
              · have h := h.2 hc98
                refine JT_aload_n (q := 3) dX5_placeBy_158 rfl rfl ?_
                refine JS_getR (x := 232) dX5_placeBy_159 flX5_30 BS_225 (Nat.le_of_ble_eq_true rfl) (Nat.le_of_ble_eq_true rfl) (Or.inr ⟨_, ct_5_8⟩) RF_225_8 ?_
                refine JT_iload (q := 1) dX5_placeBy_162 rfl ?_
                obtain ⟨o93, h⟩ := h
                refine JS_iald dX5_placeBy_164 BS_232 (Nat.le_of_ble_eq_true rfl) (Nat.le_of_ble_eq_true rfl) o93 ?_
                refine JT_if_lt (tgt := 185) dX5_placeBy_165 (by decide) (fun hc97 => ?_) (fun hc97 => ?_)
                · have h := h.1 hc97
                  exact JT_sub [3, 4, 5, 6, 2, 1, 0] rfl h
                · have h := h.2 hc97
                  refine JT_aload_n (q := 3) dX5_placeBy_168 rfl rfl ?_
                  refine JS_getR (x := 229) dX5_placeBy_169 flX5_21 BS_225 (Nat.le_of_ble_eq_true rfl) (Nat.le_of_ble_eq_true rfl) (Or.inr ⟨_, ct_5_5⟩) RF_225_5 ?_
                  refine JT_iload_n (q := 4) dX5_placeBy_172 rfl rfl ?_
                  refine JT_iload_n (q := 5) dX5_placeBy_173 rfl rfl ?_
                  obtain ⟨o94, h⟩ := h
                  refine JS_iast dX5_placeBy_174 BS_229 (Nat.le_of_ble_eq_true rfl) (Nat.le_of_ble_eq_true rfl) o94 ?_
                  refine JT_aload_n (q := 3) dX5_placeBy_175 rfl rfl ?_
                  refine JT_iload_n (q := 4) dX5_placeBy_176 rfl rfl ?_
                  refine JT_iconst (v := 1) dX5_placeBy_177 ic_1 ?_
                  refine JT_iadd dX5_placeBy_178 ?_
                  refine JT_iload_n (q := 6) dX5_placeBy_179 rfl rfl ?_
                  refine JT_iconst (v := 1) dX5_placeBy_180 ic_1 ?_
                  refine JT_iadd dX5_placeBy_181 ?_
                  refine JS_callVV (M' := MX5_place) (d' := e + 3) (As := [.int (a1 + (1 : Int32)), .int (a3 + (1 : Int32))]) (rest := []) dX5_placeBy_182 cvX5_83 okX5_place rfl (Nat.le_of_ble_eq_true rfl) BS_225 (Nat.le_of_ble_eq_true rfl) (Nat.le_of_ble_eq_true rfl) hci_5 (Nat.le_of_ble_eq_true rfl) (by show e + 3 + 1 ≤ e + 4; omega) h (fun s95 h => ?_)
                  exact JT_sub [3, 4, 5, 6, 2, 1, 0] rfl h
            · have h := h.2 hc99
              exact JS_vret dX5_placeBy_104 rfl h
    · have h := h.2 hc133
      refine JT_aload_n (q := 1) dX5_placeBy_40 rfl rfl ?_
      refine JS_getR (x := 227) dX5_placeBy_41 flX5_15 BS_225 (Nat.le_of_ble_eq_true rfl) (Nat.le_of_ble_eq_true rfl) (Or.inr ⟨_, ct_5_3⟩) RF_225_3 ?_
      refine JT_iload_n (q := 2) dX5_placeBy_44 rfl rfl ?_
      obtain ⟨o103, h⟩ := h
      refine JS_iald dX5_placeBy_45 BS_227 (Nat.le_of_ble_eq_true rfl) (Nat.le_of_ble_eq_true rfl) o103 ?_
      refine JT_goto (tgt := 66) dX5_placeBy_46 (by decide) ?_
      refine JT_istore (lv' := [(5, .int (gI s 227 (a1).toNatClampNeg)), (4, .int (gI s 226 (a1).toNatClampNeg)), (0, .ref 225), (1, .int a1), (2, .int a2), (3, .int a3)]) dX5_placeBy_66 (Nat.le_of_ble_eq_true rfl) rfl ?_
      refine JT_iload (q := 1) dX5_placeBy_68 rfl ?_
      refine JT_iconst (v := -1) dX5_placeBy_70 ic_m1 ?_
      refine JT_icmp_eq (tgt := 104) dX5_placeBy_71 (by decide) (fun hc132 => ?_) (fun hc132 => ?_)
      · have h := h.1 hc132
        exact JS_vret dX5_placeBy_104 rfl h
      · have h := h.2 hc132
        refine JT_iload (q := 0) dX5_placeBy_74 rfl ?_
        refine JT_iconst (v := -1) dX5_placeBy_76 ic_m1 ?_
        refine JT_icmp_eq (tgt := 104) dX5_placeBy_77 (by decide) (fun hc131 => ?_) (fun hc131 => ?_)
        · have h := h.1 hc131
          exact JS_vret dX5_placeBy_104 rfl h
        · have h := h.2 hc131
          refine JT_aload_n (q := 2) dX5_placeBy_80 rfl rfl ?_
          obtain ⟨hr104, hL105, h⟩ := h
          refine JS_getR (x := (gDx s 1)) dX5_placeBy_81 flX5_71 BS_225 (Nat.le_of_ble_eq_true rfl) (Nat.le_of_ble_eq_true rfl) (Or.inl ⟨_, ct_5_10⟩) (RF_225_10.trans hr104) ?_
          refine JT_iload (q := 1) dX5_placeBy_84 rfl ?_
          refine JS_callVI (M' := MX4_lives) (d' := 0) (As := [.int (gI s 226 (a1).toNatClampNeg)]) (rest := []) dX5_placeBy_86 cvX5_87 okX4_lives rfl (Nat.le_of_ble_eq_true rfl) (lxB hL105) (lx2 hL105) (lxN hL105) hci_4 (Nat.le_of_ble_eq_true rfl) (by show 0 + 1 ≤ e + 4; omega) h (fun x107 s106 h => ?_)
          refine JT_if_eq (tgt := 104) dX5_placeBy_89 (by decide) (fun hc130 => ?_) (fun hc130 => ?_)
          · have h := h.1 hc130
            exact JS_vret dX5_placeBy_104 rfl h
          · have h := h.2 hc130
            refine JT_aload_n (q := 2) dX5_placeBy_92 rfl rfl ?_
            obtain ⟨hr108, hL109, h⟩ := h
            refine JS_getR (x := (gDx s106 1)) dX5_placeBy_93 flX5_71 BS_225 (Nat.le_of_ble_eq_true rfl) (Nat.le_of_ble_eq_true rfl) (Or.inl ⟨_, ct_5_10⟩) (RF_225_10.trans hr108) ?_
            refine JT_iload (q := 0) dX5_placeBy_96 rfl ?_
            refine JS_callVI (M' := MX4_lives) (d' := 0) (As := [.int (gI s 227 (a1).toNatClampNeg)]) (rest := []) dX5_placeBy_98 cvX5_87 okX4_lives rfl (Nat.le_of_ble_eq_true rfl) (lxB hL109) (lx2 hL109) (lxN hL109) hci_4 (Nat.le_of_ble_eq_true rfl) (by show 0 + 1 ≤ e + 4; omega) h (fun x111 s110 h => ?_)
            refine JT_if_ne (tgt := 105) dX5_placeBy_101 (by decide) (fun hc129 => ?_) (fun hc129 => ?_)
            · have h := h.1 hc129
              refine JT_aload_n (q := 2) dX5_placeBy_105 rfl rfl ?_
              obtain ⟨hr112, hL113, h⟩ := h
              refine JS_getR (x := (gDx s110 1)) dX5_placeBy_106 flX5_71 BS_225 (Nat.le_of_ble_eq_true rfl) (Nat.le_of_ble_eq_true rfl) (Or.inl ⟨_, ct_5_10⟩) (RF_225_10.trans hr112) ?_
              refine JS_getR (x := (rfx (gDx s110 1) 8)) dX5_placeBy_109 flX5_95 (lxB hL113) (lx2 hL113) (lxN hL113) (Or.inl ⟨_, ct_4_8⟩) (lxR8 hL113) ?_
              refine JS_getR (x := ((rfx (gDx s110 1) 8) + 5)) dX5_placeBy_112 flX5_102 (pxB (lxP hL113)) (px2 (lxP hL113)) (pxN (lxP hL113)) (Or.inr ⟨_, ct_6_4⟩) (pxR4 (lxP hL113)) ?_
              refine JT_aload_n (q := 2) dX5_placeBy_115 rfl rfl ?_
              refine JS_getR (x := 228) dX5_placeBy_116 flX5_18 BS_225 (Nat.le_of_ble_eq_true rfl) (Nat.le_of_ble_eq_true rfl) (Or.inr ⟨_, ct_5_4⟩) RF_225_4 ?_
              refine JT_iload_n (q := 3) dX5_placeBy_119 rfl rfl ?_
              obtain ⟨o114, h⟩ := h
              refine JS_iald dX5_placeBy_120 BS_228 (Nat.le_of_ble_eq_true rfl) (Nat.le_of_ble_eq_true rfl) o114 ?_
              obtain ⟨o115, h⟩ := h
              refine JS_iald dX5_placeBy_121 (pxB5 (lxP hL113)) (px2k (lxP hL113) _) (pxNk (lxP hL113) (Nat.le_of_ble_eq_true rfl)) o115 ?_
              refine JT_istore (lv' := [(6, .int (gI s110 ((rfx (gDx s110 1) 8) + 5) ((gI s110 228 (a1).toNatClampNeg)).toNatClampNeg)), (5, .int (gI s 227 (a1).toNatClampNeg)), (4, .int (gI s 226 (a1).toNatClampNeg)), (0, .ref 225), (1, .int a1), (2, .int a2), (3, .int a3)]) dX5_placeBy_122 (Nat.le_of_ble_eq_true rfl) rfl ?_
              refine JT_aload_n (q := 3) dX5_placeBy_124 rfl rfl ?_
              refine JS_getR (x := 232) dX5_placeBy_125 flX5_30 BS_225 (Nat.le_of_ble_eq_true rfl) (Nat.le_of_ble_eq_true rfl) (Or.inr ⟨_, ct_5_8⟩) RF_225_8 ?_
              refine JT_iload (q := 2) dX5_placeBy_128 rfl ?_
              refine JT_dup2 dX5_placeBy_130 rfl rfl ?_
              obtain ⟨o116, h⟩ := h
              refine JS_iald dX5_placeBy_131 BS_232 (Nat.le_of_ble_eq_true rfl) (Nat.le_of_ble_eq_true rfl) o116 ?_
              refine JT_iload (q := 0) dX5_placeBy_132 rfl ?_
              refine JT_isub dX5_placeBy_134 ?_
              obtain ⟨o117, h⟩ := h
              refine JS_iast dX5_placeBy_135 BS_232 (Nat.le_of_ble_eq_true rfl) (Nat.le_of_ble_eq_true rfl) o117 ?_
              obtain ⟨s118, hs118⟩ : ∃ z, z = (pI s110 232 ((gI s 226 (a1).toNatClampNeg)).toNatClampNeg ((gI s110 232 ((gI s 226 (a1).toNatClampNeg)).toNatClampNeg) - (gI s110 ((rfx (gDx s110 1) 8) + 5) ((gI s110 228 (a1).toNatClampNeg)).toNatClampNeg))) := ⟨_, rfl⟩
              replace h := h s118 hs118
              rw [← hs118]
              refine JT_aload_n (q := 3) dX5_placeBy_136 rfl rfl ?_
              refine JS_getR (x := 232) dX5_placeBy_137 flX5_30 BS_225 (Nat.le_of_ble_eq_true rfl) (Nat.le_of_ble_eq_true rfl) (Or.inr ⟨_, ct_5_8⟩) RF_225_8 ?_
              refine JT_iload (q := 1) dX5_placeBy_140 rfl ?_
              refine JT_dup2 dX5_placeBy_142 rfl rfl ?_
              obtain ⟨o119, h⟩ := h
              refine JS_iald dX5_placeBy_143 BS_232 (Nat.le_of_ble_eq_true rfl) (Nat.le_of_ble_eq_true rfl) o119 ?_
              refine JT_iload (q := 0) dX5_placeBy_144 rfl ?_
              refine JT_isub dX5_placeBy_146 ?_
              obtain ⟨o120, h⟩ := h
              refine JS_iast dX5_placeBy_147 BS_232 (Nat.le_of_ble_eq_true rfl) (Nat.le_of_ble_eq_true rfl) o120 ?_
              obtain ⟨s121, hs121⟩ : ∃ z, z = (pI s118 232 ((gI s 227 (a1).toNatClampNeg)).toNatClampNeg ((gI s118 232 ((gI s 227 (a1).toNatClampNeg)).toNatClampNeg) - (gI s110 ((rfx (gDx s110 1) 8) + 5) ((gI s110 228 (a1).toNatClampNeg)).toNatClampNeg))) := ⟨_, rfl⟩
              replace h := h s121 hs121
              rw [← hs121]
              refine JT_aload_n (q := 3) dX5_placeBy_148 rfl rfl ?_
              refine JS_getR (x := 232) dX5_placeBy_149 flX5_30 BS_225 (Nat.le_of_ble_eq_true rfl) (Nat.le_of_ble_eq_true rfl) (Or.inr ⟨_, ct_5_8⟩) RF_225_8 ?_
              refine JT_iload (q := 2) dX5_placeBy_152 rfl ?_
              obtain ⟨o122, h⟩ := h
              refine JS_iald dX5_placeBy_154 BS_232 (Nat.le_of_ble_eq_true rfl) (Nat.le_of_ble_eq_true rfl) o122 ?_
              refine JT_if_lt (tgt := 185) dX5_placeBy_155 (by decide) (fun hc128 => ?_) (fun hc128 => ?_)
              · have h := h.1 hc128
                exact JT_sub [3, 4, 5, 6, 2, 1, 0] rfl h
              · have h := h.2 hc128
                refine JT_aload_n (q := 3) dX5_placeBy_158 rfl rfl ?_
                refine JS_getR (x := 232) dX5_placeBy_159 flX5_30 BS_225 (Nat.le_of_ble_eq_true rfl) (Nat.le_of_ble_eq_true rfl) (Or.inr ⟨_, ct_5_8⟩) RF_225_8 ?_
                refine JT_iload (q := 1) dX5_placeBy_162 rfl ?_
                obtain ⟨o123, h⟩ := h
                refine JS_iald dX5_placeBy_164 BS_232 (Nat.le_of_ble_eq_true rfl) (Nat.le_of_ble_eq_true rfl) o123 ?_
                refine JT_if_lt (tgt := 185) dX5_placeBy_165 (by decide) (fun hc127 => ?_) (fun hc127 => ?_)
                · have h := h.1 hc127
                  exact JT_sub [3, 4, 5, 6, 2, 1, 0] rfl h
                · have h := h.2 hc127
                  refine JT_aload_n (q := 3) dX5_placeBy_168 rfl rfl ?_
                  refine JS_getR (x := 229) dX5_placeBy_169 flX5_21 BS_225 (Nat.le_of_ble_eq_true rfl) (Nat.le_of_ble_eq_true rfl) (Or.inr ⟨_, ct_5_5⟩) RF_225_5 ?_
                  refine JT_iload_n (q := 4) dX5_placeBy_172 rfl rfl ?_
                  refine JT_iload_n (q := 5) dX5_placeBy_173 rfl rfl ?_
                  obtain ⟨o124, h⟩ := h
                  refine JS_iast dX5_placeBy_174 BS_229 (Nat.le_of_ble_eq_true rfl) (Nat.le_of_ble_eq_true rfl) o124 ?_
                  refine JT_aload_n (q := 3) dX5_placeBy_175 rfl rfl ?_
                  refine JT_iload_n (q := 4) dX5_placeBy_176 rfl rfl ?_
                  refine JT_iconst (v := 1) dX5_placeBy_177 ic_1 ?_
                  refine JT_iadd dX5_placeBy_178 ?_
                  refine JT_iload_n (q := 6) dX5_placeBy_179 rfl rfl ?_
                  refine JT_iconst (v := 1) dX5_placeBy_180 ic_1 ?_
                  refine JT_iadd dX5_placeBy_181 ?_
                  refine JS_callVV (M' := MX5_place) (d' := e + 3) (As := [.int (a1 + (1 : Int32)), .int (a3 + (1 : Int32))]) (rest := []) dX5_placeBy_182 cvX5_83 okX5_place rfl (Nat.le_of_ble_eq_true rfl) BS_225 (Nat.le_of_ble_eq_true rfl) (Nat.le_of_ble_eq_true rfl) hci_5 (Nat.le_of_ble_eq_true rfl) (by show e + 3 + 1 ≤ e + 4; omega) h (fun s125 h => ?_)
                  exact JT_sub [3, 4, 5, 6, 2, 1, 0] rfl h
            · have h := h.2 hc129
              exact JS_vret dX5_placeBy_104 rfl h
set_option maxRecDepth 1000000 in
theorem bX5_place_30 {e : Nat} (a1 : Int32) (a2 : Int32) {s : SM} {Q : SM → Prop} (h : (∀ s1, s1 = (cI (pI s 225 9 a2) 230 (va_cpy (gI (pI s 225 9 a2) 229) (gI (pI s 225 9 a2) 230) ((0 : Int32)).toNatClampNeg ((0 : Int32)).toNatClampNeg ((6 : Int32)).toNatClampNeg)) → Q s1)) : BV MX5_place (e + 4) 30 [(0, .ref 225), (1, .int a1), (2, .int a2)] s Q := by
  refine JT_aload_n (q := 0) dX5_place_30 rfl rfl ?_
  refine JT_iload_n (q := 2) dX5_place_31 rfl rfl ?_
  refine JS_putI dX5_place_32 flX5_75 BS_225 (Nat.le_of_ble_eq_true rfl) (Nat.le_of_ble_eq_true rfl) ct_5_9 ?_
  refine JT_aload_n (q := 0) dX5_place_35 rfl rfl ?_
  refine JS_getR (x := 229) dX5_place_36 flX5_21 BS_225 (Nat.le_of_ble_eq_true rfl) (Nat.le_of_ble_eq_true rfl) (Or.inr ⟨_, ct_5_5⟩) RF_225_5 ?_
  refine JT_iconst (v := 0) dX5_place_39 ic_0 ?_
  refine JT_aload_n (q := 0) dX5_place_40 rfl rfl ?_
  refine JS_getR (x := 230) dX5_place_41 flX5_24 BS_225 (Nat.le_of_ble_eq_true rfl) (Nat.le_of_ble_eq_true rfl) (Or.inr ⟨_, ct_5_6⟩) RF_225_6 ?_
  refine JT_iconst (v := 0) dX5_place_44 ic_0 ?_
  refine JT_bipush (v := 6) dX5_place_45 bp_6 ?_
  refine JS_copyI (d2 := e + 3) (na := 6) (nb := 6) dX5_place_47 mlX5_65 BS_230 (Nat.le_of_ble_eq_true rfl) (Nat.le_of_ble_eq_true rfl) BS_229 (Nat.le_of_ble_eq_true rfl) (Nat.le_of_ble_eq_true rfl) (by decide) (by decide) (by decide) (by decide) (by decide) (Nat.le_of_ble_eq_true rfl) rfl ?_
  obtain ⟨s1, hs1⟩ : ∃ z, z = (cI (pI s 225 9 a2) 230 (va_cpy (gI (pI s 225 9 a2) 229) (gI (pI s 225 9 a2) 230) ((0 : Int32)).toNatClampNeg ((0 : Int32)).toNatClampNeg ((6 : Int32)).toNatClampNeg)) := ⟨_, rfl⟩
  replace h := h s1 hs1
  rw [← hs1]
  exact JS_vret dX5_place_50 rfl h
set_option maxRecDepth 1000000 in
theorem bX5_place_100 {e : Nat} (a1 : Int32) (a2 : Int32) (a3 : Int32) {s : SM} {Q : SM → Prop} (h : (((4 : Int32) ≤ a3 → BV MX5_place (e + 4) 118 [(0, .ref 225), (1, .int a1), (2, .int a2)] s Q) ∧ (¬ (4 : Int32) ≤ a3 → KV MX5_placeBy (e + 3) [.ref 225, .int a1, .int a3, .int a2] s (fun s1 => BV MX5_place (e + 4) 100 [(0, .ref 225), (1, .int a1), (2, .int a2), (3, .int (a3 + 1))] s1 Q)))) : BV MX5_place (e + 4) 100 [(0, .ref 225), (1, .int a1), (2, .int a2), (3, .int a3)] s Q := by
  refine JT_iload_n (q := 3) dX5_place_100 rfl rfl ?_
  refine JT_iconst (v := 4) dX5_place_101 ic_4 ?_
  refine JT_icmp_ge (tgt := 118) dX5_place_102 (by decide) (fun hc3 => ?_) (fun hc3 => ?_)
  · have h := h.1 hc3
    exact JT_sub [0, 1, 2] rfl h
  · have h := h.2 hc3
    refine JT_aload_n (q := 0) dX5_place_105 rfl rfl ?_
    refine JT_iload_n (q := 1) dX5_place_106 rfl rfl ?_
    refine JT_iload_n (q := 3) dX5_place_107 rfl rfl ?_
    refine JT_iload_n (q := 2) dX5_place_108 rfl rfl ?_
    refine JS_callVV (M' := MX5_placeBy) (d' := e + 3) (As := [.int a1, .int a3, .int a2]) (rest := []) dX5_place_109 cvX5_91 okX5_placeBy rfl (Nat.le_of_ble_eq_true rfl) BS_225 (Nat.le_of_ble_eq_true rfl) (Nat.le_of_ble_eq_true rfl) hci_5 (Nat.le_of_ble_eq_true rfl) (by show e + 3 + 1 ≤ e + 4; omega) h (fun s1 h => ?_)
    refine JT_iinc (q := 3) (v := (a3 + 1)) (lv' := [(3, .int (a3 + 1)), (0, .ref 225), (1, .int a1), (2, .int a2)]) dX5_place_112 rfl (by rfl) (Nat.le_of_ble_eq_true rfl) rfl ?_
    refine JT_goto (tgt := 100) dX5_place_115 (by decide) ?_
    exact JT_sub [1, 2, 3, 0] rfl h
set_option maxRecDepth 1000000 in
theorem bX5_place_118 {e : Nat} (a1 : Int32) (a2 : Int32) {s : SM} {Q : SM → Prop} (h : vp_in a1 6 ∧ KV MX5_place (e + 3) [.ref 225, .int (a1 + (1 : Int32)), .int a2] (pI s 229 (a1).toNatClampNeg (4 : Int32)) (fun s2 => Q s2)) : BV MX5_place (e + 4) 118 [(0, .ref 225), (1, .int a1), (2, .int a2)] s Q := by
  refine JT_aload_n (q := 0) dX5_place_118 rfl rfl ?_
  refine JS_getR (x := 229) dX5_place_119 flX5_21 BS_225 (Nat.le_of_ble_eq_true rfl) (Nat.le_of_ble_eq_true rfl) (Or.inr ⟨_, ct_5_5⟩) RF_225_5 ?_
  refine JT_iload_n (q := 1) dX5_place_122 rfl rfl ?_
  refine JT_iconst (v := 4) dX5_place_123 ic_4 ?_
  obtain ⟨o1, h⟩ := h
  refine JS_iast dX5_place_124 BS_229 (Nat.le_of_ble_eq_true rfl) (Nat.le_of_ble_eq_true rfl) o1 ?_
  refine JT_aload_n (q := 0) dX5_place_125 rfl rfl ?_
  refine JT_iload_n (q := 1) dX5_place_126 rfl rfl ?_
  refine JT_iconst (v := 1) dX5_place_127 ic_1 ?_
  refine JT_iadd dX5_place_128 ?_
  refine JT_iload_n (q := 2) dX5_place_129 rfl rfl ?_
  refine JS_callVV (M' := MX5_place) (d' := e + 3) (As := [.int (a1 + (1 : Int32)), .int a2]) (rest := []) dX5_place_130 cvX5_83 okX5_place rfl (Nat.le_of_ble_eq_true rfl) BS_225 (Nat.le_of_ble_eq_true rfl) (Nat.le_of_ble_eq_true rfl) hci_5 (Nat.le_of_ble_eq_true rfl) (by show e + 3 + 1 ≤ e + 4; omega) h (fun s2 h => ?_)
  exact JS_vret dX5_place_133 rfl h
set_option maxRecDepth 1000000 in
theorem bX5_place {e : Nat} (a1 : Int32) (a2 : Int32) {s : SM} {Q : SM → Prop} (h : (((gI s 225 9) < ((a2 + (gI s 225 0)) - a1) → (((gI s 225 0) ≤ a1 → BV MX5_place (e + 4) 30 [(0, .ref 225), (1, .int a1), (2, .int a2)] s Q) ∧ (¬ (gI s 225 0) ≤ a1 → ((a1 < (6 : Int32) → vp_in a1 6 ∧ vp_in a1 6 ∧ (((gI s 226 (a1).toNatClampNeg) = (gI s 227 (a1).toNatClampNeg) → BV MX5_place (e + 4) 118 [(0, .ref 225), (1, .int a1), (2, .int a2)] s Q) ∧ (¬ (gI s 226 (a1).toNatClampNeg) = (gI s 227 (a1).toNatClampNeg) → gD s 1 = some (gDx s 1) ∧ ((gDx s 1), rfx (gDx s 1) 8) ∈ LX ∧ vp_in a1 6 ∧ KI MX4_lives 0 [.ref (gDx s 1), .int (gI s 226 (a1).toNatClampNeg)] s (fun x7 s6 => ((x7 = 0 → BV MX5_place (e + 4) 118 [(0, .ref 225), (1, .int a1), (2, .int a2)] s6 Q) ∧ (¬ x7 = 0 → gD s6 1 = some (gDx s6 1) ∧ ((gDx s6 1), rfx (gDx s6 1) 8) ∈ LX ∧ vp_in a1 6 ∧ KI MX4_lives 0 [.ref (gDx s6 1), .int (gI s6 227 (a1).toNatClampNeg)] s6 (fun x12 s11 => ((x12 = 0 → BV MX5_place (e + 4) 118 [(0, .ref 225), (1, .int a1), (2, .int a2)] s11 Q) ∧ (¬ x12 = 0 → BV MX5_place (e + 4) 100 [(0, .ref 225), (1, .int a1), (2, .int a2), (3, .int (0 : Int32))] s11 Q))))))))) ∧ (¬ a1 < (6 : Int32) → BV MX5_place (e + 4) 30 [(0, .ref 225), (1, .int a1), (2, .int a2)] s Q))))) ∧ (¬ (gI s 225 9) < ((a2 + (gI s 225 0)) - a1) → Q s))) : KV MX5_place (e + 4) [.ref 225, .int a1, .int a2] s Q := by
  show BV MX5_place (e + 4) 0 [(0, .ref 225), (1, .int a1), (2, .int a2)] s Q
  refine JT_iload_n (q := 2) dX5_place_0 rfl rfl ?_
  refine JT_aload_n (q := 0) dX5_place_1 rfl rfl ?_
  refine JS_getI dX5_place_2 flX5_58 BS_225 (Nat.le_of_ble_eq_true rfl) (Nat.le_of_ble_eq_true rfl) (Or.inl ct_5_0) ?_
  refine JT_iadd dX5_place_5 ?_
  refine JT_iload_n (q := 1) dX5_place_6 rfl rfl ?_
  refine JT_isub dX5_place_7 ?_
  refine JT_aload_n (q := 0) dX5_place_8 rfl rfl ?_
  refine JS_getI dX5_place_9 flX5_75 BS_225 (Nat.le_of_ble_eq_true rfl) (Nat.le_of_ble_eq_true rfl) (Or.inl ct_5_9) ?_
  refine JT_icmp_gt (tgt := 16) dX5_place_12 (by decide) (fun hc18 => ?_) (fun hc18 => ?_)
  · have h := h.1 hc18
    refine JT_iload_n (q := 1) dX5_place_16 rfl rfl ?_
    refine JT_aload_n (q := 0) dX5_place_17 rfl rfl ?_
    refine JS_getI dX5_place_18 flX5_58 BS_225 (Nat.le_of_ble_eq_true rfl) (Nat.le_of_ble_eq_true rfl) (Or.inl ct_5_0) ?_
    refine JT_icmp_ge (tgt := 30) dX5_place_21 (by decide) (fun hc17 => ?_) (fun hc17 => ?_)
    · have h := h.1 hc17
      exact JT_sub [0, 1, 2] rfl h
    · have h := h.2 hc17
      refine JT_iload_n (q := 1) dX5_place_24 rfl rfl ?_
      refine JT_bipush (v := 6) dX5_place_25 bp_6 ?_
      refine JT_icmp_lt (tgt := 51) dX5_place_27 (by decide) (fun hc16 => ?_) (fun hc16 => ?_)
      · have h := h.1 hc16
        refine JT_aload_n (q := 0) dX5_place_51 rfl rfl ?_
        refine JS_getR (x := 226) dX5_place_52 flX5_9 BS_225 (Nat.le_of_ble_eq_true rfl) (Nat.le_of_ble_eq_true rfl) (Or.inr ⟨_, ct_5_2⟩) RF_225_2 ?_
        refine JT_iload_n (q := 1) dX5_place_55 rfl rfl ?_
        obtain ⟨o1, h⟩ := h
        refine JS_iald dX5_place_56 BS_226 (Nat.le_of_ble_eq_true rfl) (Nat.le_of_ble_eq_true rfl) o1 ?_
        refine JT_aload_n (q := 0) dX5_place_57 rfl rfl ?_
        refine JS_getR (x := 227) dX5_place_58 flX5_15 BS_225 (Nat.le_of_ble_eq_true rfl) (Nat.le_of_ble_eq_true rfl) (Or.inr ⟨_, ct_5_3⟩) RF_225_3 ?_
        refine JT_iload_n (q := 1) dX5_place_61 rfl rfl ?_
        obtain ⟨o2, h⟩ := h
        refine JS_iald dX5_place_62 BS_227 (Nat.le_of_ble_eq_true rfl) (Nat.le_of_ble_eq_true rfl) o2 ?_
        refine JT_icmp_eq (tgt := 118) dX5_place_63 (by decide) (fun hc15 => ?_) (fun hc15 => ?_)
        · have h := h.1 hc15
          exact JT_sub [0, 1, 2] rfl h
        · have h := h.2 hc15
          refine JT_aload_n (q := 0) dX5_place_66 rfl rfl ?_
          obtain ⟨hr3, hL4, h⟩ := h
          refine JS_getR (x := (gDx s 1)) dX5_place_67 flX5_71 BS_225 (Nat.le_of_ble_eq_true rfl) (Nat.le_of_ble_eq_true rfl) (Or.inl ⟨_, ct_5_10⟩) (RF_225_10.trans hr3) ?_
          refine JT_aload_n (q := 0) dX5_place_70 rfl rfl ?_
          refine JS_getR (x := 226) dX5_place_71 flX5_9 BS_225 (Nat.le_of_ble_eq_true rfl) (Nat.le_of_ble_eq_true rfl) (Or.inr ⟨_, ct_5_2⟩) RF_225_2 ?_
          refine JT_iload_n (q := 1) dX5_place_74 rfl rfl ?_
          obtain ⟨o5, h⟩ := h
          refine JS_iald dX5_place_75 BS_226 (Nat.le_of_ble_eq_true rfl) (Nat.le_of_ble_eq_true rfl) o5 ?_
          refine JS_callVI (M' := MX4_lives) (d' := 0) (As := [.int (gI s 226 (a1).toNatClampNeg)]) (rest := []) dX5_place_76 cvX5_87 okX4_lives rfl (Nat.le_of_ble_eq_true rfl) (lxB hL4) (lx2 hL4) (lxN hL4) hci_4 (Nat.le_of_ble_eq_true rfl) (by show 0 + 1 ≤ e + 4; omega) h (fun x7 s6 h => ?_)
          refine JT_if_eq (tgt := 118) dX5_place_79 (by decide) (fun hc14 => ?_) (fun hc14 => ?_)
          · have h := h.1 hc14
            exact JT_sub [0, 1, 2] rfl h
          · have h := h.2 hc14
            refine JT_aload_n (q := 0) dX5_place_82 rfl rfl ?_
            obtain ⟨hr8, hL9, h⟩ := h
            refine JS_getR (x := (gDx s6 1)) dX5_place_83 flX5_71 BS_225 (Nat.le_of_ble_eq_true rfl) (Nat.le_of_ble_eq_true rfl) (Or.inl ⟨_, ct_5_10⟩) (RF_225_10.trans hr8) ?_
            refine JT_aload_n (q := 0) dX5_place_86 rfl rfl ?_
            refine JS_getR (x := 227) dX5_place_87 flX5_15 BS_225 (Nat.le_of_ble_eq_true rfl) (Nat.le_of_ble_eq_true rfl) (Or.inr ⟨_, ct_5_3⟩) RF_225_3 ?_
            refine JT_iload_n (q := 1) dX5_place_90 rfl rfl ?_
            obtain ⟨o10, h⟩ := h
            refine JS_iald dX5_place_91 BS_227 (Nat.le_of_ble_eq_true rfl) (Nat.le_of_ble_eq_true rfl) o10 ?_
            refine JS_callVI (M' := MX4_lives) (d' := 0) (As := [.int (gI s6 227 (a1).toNatClampNeg)]) (rest := []) dX5_place_92 cvX5_87 okX4_lives rfl (Nat.le_of_ble_eq_true rfl) (lxB hL9) (lx2 hL9) (lxN hL9) hci_4 (Nat.le_of_ble_eq_true rfl) (by show 0 + 1 ≤ e + 4; omega) h (fun x12 s11 h => ?_)
            refine JT_if_eq (tgt := 118) dX5_place_95 (by decide) (fun hc13 => ?_) (fun hc13 => ?_)
            · have h := h.1 hc13
              exact JT_sub [0, 1, 2] rfl h
            · have h := h.2 hc13
              refine JT_iconst (v := 0) dX5_place_98 ic_0 ?_
              refine JT_istore_n (lv' := [(3, .int (0 : Int32)), (0, .ref 225), (1, .int a1), (2, .int a2)]) dX5_place_99 rfl (Nat.le_of_ble_eq_true rfl) rfl ?_
              exact JT_sub [1, 2, 3, 0] rfl h
      · have h := h.2 hc16
        exact JT_sub [0, 1, 2] rfl h
  · have h := h.2 hc18
    exact JS_vret dX5_place_15 rfl h
set_option maxRecDepth 1000000 in
theorem bX5_search_48 {L1 P1 : Nat} (hL1 : (L1, P1) ∈ LX) (a2 : Int32) (a3 : Int32) {s : SM} {Q : Int32 → SM → Prop} (h : KV MX5_place 20 [.ref 225, .int (0 : Int32), .int (0 : Int32)] s (fun s1 => Q (gI s1 225 9) s1)) : BI MX5_search 21 48 [(0, .ref 225), (1, .ref L1), (2, .int a2), (3, .int a3)] s Q := by
  refine JT_aload_n (q := 0) dX5_search_48 rfl rfl ?_
  refine JT_iconst (v := 0) dX5_search_49 ic_0 ?_
  refine JT_iconst (v := 0) dX5_search_50 ic_0 ?_
  refine JS_callVV (M' := MX5_place) (d' := 20) (As := [.int (0 : Int32), .int (0 : Int32)]) (rest := []) dX5_search_51 cvX5_83 okX5_place rfl (Nat.le_of_ble_eq_true rfl) BS_225 (Nat.le_of_ble_eq_true rfl) (Nat.le_of_ble_eq_true rfl) hci_5 (Nat.le_of_ble_eq_true rfl) (Nat.le_of_ble_eq_true rfl) h (fun s1 h => ?_)
  refine JT_aload_n (q := 0) dX5_search_54 rfl rfl ?_
  refine JS_getI dX5_search_55 flX5_75 BS_225 (Nat.le_of_ble_eq_true rfl) (Nat.le_of_ble_eq_true rfl) (Or.inl ct_5_9) ?_
  exact JS_iret dX5_search_58 rfl rfl h
set_option maxRecDepth 1000000 in
theorem bX5_search {L1 P1 : Nat} (hL1 : (L1, P1) ∈ LX) (a2 : Int32) (a3 : Int32) {s : SM} {Q : Int32 → SM → Prop} (h : gD (pI (pD s 1 L1) 225 9 (-1 : Int32)) 1 = some (gDx (pI (pD s 1 L1) 225 9 (-1 : Int32)) 1) ∧ ((gDx (pI (pD s 1 L1) 225 9 (-1 : Int32)) 1), rfx (gDx (pI (pD s 1 L1) 225 9 (-1 : Int32)) 1) 8) ∈ LX ∧ (∀ s3, s3 = (cI (pI (pD s 1 L1) 225 9 (-1 : Int32)) 232 (va_cpy (gI (pI (pD s 1 L1) 225 9 (-1 : Int32)) ((gDx (pI (pD s 1 L1) 225 9 (-1 : Int32)) 1) + 7)) (gI (pI (pD s 1 L1) 225 9 (-1 : Int32)) 232) ((0 : Int32)).toNatClampNeg ((0 : Int32)).toNatClampNeg ((9 : Int32)).toNatClampNeg)) → ((a2 < 0 → BI MX5_search 21 48 [(0, .ref 225), (1, .ref L1), (2, .int a2), (3, .int a3)] s3 Q) ∧ (¬ a2 < 0 → (((9 : Int32) ≤ a2 → BI MX5_search 21 48 [(0, .ref 225), (1, .ref L1), (2, .int a2), (3, .int a3)] s3 Q) ∧ (¬ (9 : Int32) ≤ a2 → vp_in a2 9 ∧ vp_in a2 9 ∧ BI MX5_search 21 48 [(0, .ref 225), (1, .ref L1), (2, .int a2), (3, .int a3)] (pI s3 232 (a2).toNatClampNeg ((gI s3 232 (a2).toNatClampNeg) + a3)) Q)))))) : KI MX5_search 21 [.ref 225, .ref L1, .int a2, .int a3] s Q := by
  show BI MX5_search 21 0 [(0, .ref 225), (1, .ref L1), (2, .int a2), (3, .int a3)] s Q
  refine JT_aload_n (q := 0) dX5_search_0 rfl rfl ?_
  refine JT_aload_n (q := 1) dX5_search_1 rfl rfl ?_
  refine JS_putD (kk := 1) dX5_search_2 flX5_71 BS_225 (Nat.le_of_ble_eq_true rfl) (Nat.le_of_ble_eq_true rfl) (Or.inl ⟨_, ct_5_10⟩) rfl ?_
  refine JT_aload_n (q := 0) dX5_search_5 rfl rfl ?_
  refine JT_iconst (v := -1) dX5_search_6 ic_m1 ?_
  refine JS_putI dX5_search_7 flX5_75 BS_225 (Nat.le_of_ble_eq_true rfl) (Nat.le_of_ble_eq_true rfl) ct_5_9 ?_
  refine JT_aload_n (q := 0) dX5_search_10 rfl rfl ?_
  obtain ⟨hr1, hL2, h⟩ := h
  refine JS_getR (x := (gDx (pI (pD s 1 L1) 225 9 (-1 : Int32)) 1)) dX5_search_11 flX5_71 BS_225 (Nat.le_of_ble_eq_true rfl) (Nat.le_of_ble_eq_true rfl) (Or.inl ⟨_, ct_5_10⟩) (RF_225_10.trans hr1) ?_
  refine JS_getR (x := ((gDx (pI (pD s 1 L1) 225 9 (-1 : Int32)) 1) + 7)) dX5_search_14 flX5_78 (lxB hL2) (lx2 hL2) (lxN hL2) (Or.inr ⟨_, ct_4_6⟩) (lxR6 hL2) ?_
  refine JT_iconst (v := 0) dX5_search_17 ic_0 ?_
  refine JT_aload_n (q := 0) dX5_search_18 rfl rfl ?_
  refine JS_getR (x := 232) dX5_search_19 flX5_30 BS_225 (Nat.le_of_ble_eq_true rfl) (Nat.le_of_ble_eq_true rfl) (Or.inr ⟨_, ct_5_8⟩) RF_225_8 ?_
  refine JT_iconst (v := 0) dX5_search_22 ic_0 ?_
  refine JT_bipush (v := 9) dX5_search_23 bp_9 ?_
  refine JS_copyI (d2 := 20) (na := 9) (nb := 9) dX5_search_25 mlX5_65 BS_232 (Nat.le_of_ble_eq_true rfl) (Nat.le_of_ble_eq_true rfl) (lxB7 hL2) (lx2k hL2 _) (lxNk hL2 (Nat.le_of_ble_eq_true rfl)) (by decide) (by decide) (by decide) (by decide) (by decide) (Nat.le_of_ble_eq_true rfl) rfl ?_
  obtain ⟨s3, hs3⟩ : ∃ z, z = (cI (pI (pD s 1 L1) 225 9 (-1 : Int32)) 232 (va_cpy (gI (pI (pD s 1 L1) 225 9 (-1 : Int32)) ((gDx (pI (pD s 1 L1) 225 9 (-1 : Int32)) 1) + 7)) (gI (pI (pD s 1 L1) 225 9 (-1 : Int32)) 232) ((0 : Int32)).toNatClampNeg ((0 : Int32)).toNatClampNeg ((9 : Int32)).toNatClampNeg)) := ⟨_, rfl⟩
  replace h := h s3 hs3
  rw [← hs3]
  refine JT_iload_n (q := 2) dX5_search_28 rfl rfl ?_
  refine JT_if_lt (tgt := 48) dX5_search_29 (by decide) (fun hc7 => ?_) (fun hc7 => ?_)
  · have h := h.1 hc7
    exact JT_sub [0, 1, 2, 3] rfl h
  · have h := h.2 hc7
    refine JT_iload_n (q := 2) dX5_search_32 rfl rfl ?_
    refine JT_bipush (v := 9) dX5_search_33 bp_9 ?_
    refine JT_icmp_ge (tgt := 48) dX5_search_35 (by decide) (fun hc6 => ?_) (fun hc6 => ?_)
    · have h := h.1 hc6
      exact JT_sub [0, 1, 2, 3] rfl h
    · have h := h.2 hc6
      refine JT_aload_n (q := 0) dX5_search_38 rfl rfl ?_
      refine JS_getR (x := 232) dX5_search_39 flX5_30 BS_225 (Nat.le_of_ble_eq_true rfl) (Nat.le_of_ble_eq_true rfl) (Or.inr ⟨_, ct_5_8⟩) RF_225_8 ?_
      refine JT_iload_n (q := 2) dX5_search_42 rfl rfl ?_
      refine JT_dup2 dX5_search_43 rfl rfl ?_
      obtain ⟨o4, h⟩ := h
      refine JS_iald dX5_search_44 BS_232 (Nat.le_of_ble_eq_true rfl) (Nat.le_of_ble_eq_true rfl) o4 ?_
      refine JT_iload_n (q := 3) dX5_search_45 rfl rfl ?_
      refine JT_iadd dX5_search_46 ?_
      obtain ⟨o5, h⟩ := h
      refine JS_iast dX5_search_47 BS_232 (Nat.le_of_ble_eq_true rfl) (Nat.le_of_ble_eq_true rfl) o5 ?_
      exact JT_sub [0, 1, 2, 3] rfl h
set_option maxRecDepth 1000000 in
theorem bX11_pack  {s : SM} {Q : Int32 → SM → Prop} (h : rX5_take s 5 ∧ ((¬ (vX5_take s 5) = 0 → KI MX5_search 21 [.ref 225, .ref 31, .int (-1 : Int32), .int (0 : Int32)] (pI (mX5_take s 5) 3 1 (0 : Int32)) (fun x2 s1 => Q x2 (mX5_keepTold s1 ))) ∧ ((vX5_take s 5) = 0 → Q (-1 : Int32) (pI (mX5_take s 5) 3 1 (0 : Int32))))) : KI MX11_pack 22 [.ref 2] s Q := by
  show BI MX11_pack 22 0 [(0, .ref 2)] s Q
  refine JT_aload_n (q := 0) dX11_pack_0 rfl rfl ?_
  refine JS_getR (x := 225) dX11_pack_1 flX11_72 BS_2 (Nat.le_of_ble_eq_true rfl) (Nat.le_of_ble_eq_true rfl) (Or.inl ⟨_, ct_11_10⟩) RF_2_10 ?_
  refine JT_aload_n (q := 0) dX11_pack_4 rfl rfl ?_
  refine JS_getR (x := 3) dX11_pack_5 flX11_10 BS_2 (Nat.le_of_ble_eq_true rfl) (Nat.le_of_ble_eq_true rfl) (Or.inl ⟨_, ct_11_0⟩) RF_2_0 ?_
  refine JT_aload_n (q := 0) dX11_pack_8 rfl rfl ?_
  refine JS_getR (x := 5) dX11_pack_9 flX11_19 BS_2 (Nat.le_of_ble_eq_true rfl) (Nat.le_of_ble_eq_true rfl) (Or.inl ⟨_, ct_11_1⟩) RF_2_1 ?_
  obtain ⟨o5, h⟩ := h
  refine JS_callVI (M' := MX5_take) (d' := 3) (As := [.ref 3, .ref 5]) (rest := []) (P := (fun zv9 wm9 => (vX5_take s 5) = zv9 ∧ (mX5_take s 5) = wm9)) dX11_pack_12 cvX11_381 okX5_take rfl (Nat.le_of_ble_eq_true rfl) BS_225 (Nat.le_of_ble_eq_true rfl) (Nat.le_of_ble_eq_true rfl) hci_5 (Nat.le_of_ble_eq_true rfl) (Nat.le_of_ble_eq_true rfl) (pX5_take hp_5  o5 ⟨rfl, rfl⟩) (fun zv9 wm9 hq9 => ?_)
  obtain ⟨rfl, rfl⟩ := hq9
  refine JT_istore_n (lv' := [(1, .int (vX5_take s 5)), (0, .ref 2)]) dX11_pack_15 rfl (Nat.le_of_ble_eq_true rfl) rfl ?_
  refine JT_aload_n (q := 1) dX11_pack_16 rfl rfl ?_
  refine JS_getR (x := 3) dX11_pack_17 flX11_10 BS_2 (Nat.le_of_ble_eq_true rfl) (Nat.le_of_ble_eq_true rfl) (Or.inl ⟨_, ct_11_0⟩) RF_2_0 ?_
  refine JT_iconst (v := 0) dX11_pack_20 ic_0 ?_
  refine JS_putI dX11_pack_21 flX11_104 BS_3 (Nat.le_of_ble_eq_true rfl) (Nat.le_of_ble_eq_true rfl) ct_9_1 ?_
  refine JT_iload_n (q := 0) dX11_pack_24 rfl rfl ?_
  refine JT_if_ne (tgt := 30) dX11_pack_25 (by decide) (fun hc4 => ?_) (fun hc4 => ?_)
  · have h := h.1 hc4
    refine JT_aload_n (q := 1) dX11_pack_30 rfl rfl ?_
    refine JS_getR (x := 225) dX11_pack_31 flX11_72 BS_2 (Nat.le_of_ble_eq_true rfl) (Nat.le_of_ble_eq_true rfl) (Or.inl ⟨_, ct_11_10⟩) RF_2_10 ?_
    refine JT_aload_n (q := 1) dX11_pack_34 rfl rfl ?_
    refine JS_getR (x := 31) dX11_pack_35 flX11_41 BS_2 (Nat.le_of_ble_eq_true rfl) (Nat.le_of_ble_eq_true rfl) (Or.inl ⟨_, ct_11_5⟩) RF_2_5 ?_
    refine JT_iconst (v := -1) dX11_pack_38 ic_m1 ?_
    refine JT_iconst (v := 0) dX11_pack_39 ic_0 ?_
    refine JS_callVI (M' := MX5_search) (d' := 21) (As := [.ref 31, .int (-1 : Int32), .int (0 : Int32)]) (rest := []) dX11_pack_40 cvX11_384 okX5_search rfl (Nat.le_of_ble_eq_true rfl) BS_225 (Nat.le_of_ble_eq_true rfl) (Nat.le_of_ble_eq_true rfl) hci_5 (Nat.le_of_ble_eq_true rfl) (Nat.le_of_ble_eq_true rfl) h (fun x2 s1 h => ?_)
    refine JT_istore_n (lv' := [(2, .int x2), (1, .int (vX5_take s 5)), (0, .ref 2)]) dX11_pack_43 rfl (Nat.le_of_ble_eq_true rfl) rfl ?_
    refine JT_aload_n (q := 2) dX11_pack_44 rfl rfl ?_
    refine JS_getR (x := 225) dX11_pack_45 flX11_72 BS_2 (Nat.le_of_ble_eq_true rfl) (Nat.le_of_ble_eq_true rfl) (Or.inl ⟨_, ct_11_10⟩) RF_2_10 ?_
    refine JS_callVV (M' := MX5_keepTold) (d' := 1) (As := []) (rest := []) (P := (fun wm9 => (mX5_keepTold s1 ) = wm9)) dX11_pack_48 cvX11_388 okX5_keepTold rfl (Nat.le_of_ble_eq_true rfl) BS_225 (Nat.le_of_ble_eq_true rfl) (Nat.le_of_ble_eq_true rfl) hci_5 (Nat.le_of_ble_eq_true rfl) (Nat.le_of_ble_eq_true rfl) (pX5_keepTold    rfl) (fun wm9 hq9 => ?_)
    subst hq9
    refine JT_iload_n (q := 0) dX11_pack_51 rfl rfl ?_
    exact JS_iret dX11_pack_52 rfl rfl h
  · have h := h.2 hc4
    refine JT_iconst (v := -1) dX11_pack_28 ic_m1 ?_
    exact JS_iret dX11_pack_29 rfl rfl h
set_option maxRecDepth 1000000 in
theorem bX11_price (a1 : Int32) (a2 : Int32) {s : SM} {Q : Int32 → SM → Prop} (h : (((vX6_hasBody s 5 a1) = 0 → Q (-1 : Int32) s) ∧ (¬ (vX6_hasBody s 5 a1) = 0 → ((a2 < (1 : Int32) → Q (-1 : Int32) s) ∧ (¬ a2 < (1 : Int32) → (((99 : Int32) < a2 → Q (-1 : Int32) s) ∧ (¬ (99 : Int32) < a2 → ((¬ (vX5_isPackedIn s 5) = 0 → KI MX5_search 21 [.ref 225, .ref 31, .int a1, .int a2] s (fun x2 s1 => KI MX5_search 21 [.ref 225, .ref 31, .int (-1 : Int32), .int (0 : Int32)] s1 (fun x4 s3 => Q (x2 - x4) s3))) ∧ ((vX5_isPackedIn s 5) = 0 → Q (-1 : Int32) s))))))))) : KI MX11_price 22 [.ref 2, .int a1, .int a2] s Q := by
  show BI MX11_price 22 0 [(0, .ref 2), (1, .int a1), (2, .int a2)] s Q
  refine JT_aload_n (q := 0) dX11_price_0 rfl rfl ?_
  refine JS_getR (x := 5) dX11_price_1 flX11_19 BS_2 (Nat.le_of_ble_eq_true rfl) (Nat.le_of_ble_eq_true rfl) (Or.inl ⟨_, ct_11_1⟩) RF_2_1 ?_
  refine JT_iload_n (q := 1) dX11_price_4 rfl rfl ?_
  refine JS_callVI (M' := MX6_hasBody) (d' := 0) (As := [.int a1]) (rest := []) (P := (fun zv9 wm9 => (vX6_hasBody s 5 a1) = zv9 ∧ s = wm9)) dX11_price_5 cvX11_172 okX6_hasBody rfl (Nat.le_of_ble_eq_true rfl) BS_5 (Nat.le_of_ble_eq_true rfl) (Nat.le_of_ble_eq_true rfl) hci_6 (Nat.le_of_ble_eq_true rfl) (Nat.le_of_ble_eq_true rfl) (pX6_hasBody hp_5 (a1)  ⟨rfl, rfl⟩) (fun zv9 wm9 hq9 => ?_)
  obtain ⟨rfl, rfl⟩ := hq9
  refine JT_if_eq (tgt := 36) dX11_price_8 (by decide) (fun hc9 => ?_) (fun hc9 => ?_)
  · have h := h.1 hc9
    refine JT_iconst (v := -1) dX11_price_36 ic_m1 ?_
    exact JS_iret dX11_price_37 rfl rfl h
  · have h := h.2 hc9
    refine JT_iload_n (q := 2) dX11_price_11 rfl rfl ?_
    refine JT_iconst (v := 1) dX11_price_12 ic_1 ?_
    refine JT_icmp_lt (tgt := 36) dX11_price_13 (by decide) (fun hc8 => ?_) (fun hc8 => ?_)
    · have h := h.1 hc8
      refine JT_iconst (v := -1) dX11_price_36 ic_m1 ?_
      exact JS_iret dX11_price_37 rfl rfl h
    · have h := h.2 hc8
      refine JT_iload_n (q := 2) dX11_price_16 rfl rfl ?_
      refine JT_bipush (v := 99) dX11_price_17 bp_99 ?_
      refine JT_icmp_gt (tgt := 36) dX11_price_19 (by decide) (fun hc7 => ?_) (fun hc7 => ?_)
      · have h := h.1 hc7
        refine JT_iconst (v := -1) dX11_price_36 ic_m1 ?_
        exact JS_iret dX11_price_37 rfl rfl h
      · have h := h.2 hc7
        refine JT_aload_n (q := 0) dX11_price_22 rfl rfl ?_
        refine JS_getR (x := 225) dX11_price_23 flX11_72 BS_2 (Nat.le_of_ble_eq_true rfl) (Nat.le_of_ble_eq_true rfl) (Or.inl ⟨_, ct_11_10⟩) RF_2_10 ?_
        refine JT_aload_n (q := 0) dX11_price_26 rfl rfl ?_
        refine JS_getR (x := 5) dX11_price_27 flX11_19 BS_2 (Nat.le_of_ble_eq_true rfl) (Nat.le_of_ble_eq_true rfl) (Or.inl ⟨_, ct_11_1⟩) RF_2_1 ?_
        refine JS_callVI (M' := MX5_isPackedIn) (d' := 0) (As := [.ref 5]) (rest := []) (P := (fun zv9 wm9 => (vX5_isPackedIn s 5) = zv9 ∧ s = wm9)) dX11_price_30 cvX11_394 okX5_isPackedIn rfl (Nat.le_of_ble_eq_true rfl) BS_225 (Nat.le_of_ble_eq_true rfl) (Nat.le_of_ble_eq_true rfl) hci_5 (Nat.le_of_ble_eq_true rfl) (Nat.le_of_ble_eq_true rfl) (pX5_isPackedIn hp_5   ⟨rfl, rfl⟩) (fun zv9 wm9 hq9 => ?_)
        obtain ⟨rfl, rfl⟩ := hq9
        refine JT_if_ne (tgt := 38) dX11_price_33 (by decide) (fun hc5 => ?_) (fun hc5 => ?_)
        · have h := h.1 hc5
          refine JT_aload_n (q := 0) dX11_price_38 rfl rfl ?_
          refine JS_getR (x := 225) dX11_price_39 flX11_72 BS_2 (Nat.le_of_ble_eq_true rfl) (Nat.le_of_ble_eq_true rfl) (Or.inl ⟨_, ct_11_10⟩) RF_2_10 ?_
          refine JT_aload_n (q := 0) dX11_price_42 rfl rfl ?_
          refine JS_getR (x := 31) dX11_price_43 flX11_41 BS_2 (Nat.le_of_ble_eq_true rfl) (Nat.le_of_ble_eq_true rfl) (Or.inl ⟨_, ct_11_5⟩) RF_2_5 ?_
          refine JT_iload_n (q := 1) dX11_price_46 rfl rfl ?_
          refine JT_iload_n (q := 2) dX11_price_47 rfl rfl ?_
          refine JS_callVI (M' := MX5_search) (d' := 21) (As := [.ref 31, .int a1, .int a2]) (rest := []) dX11_price_48 cvX11_384 okX5_search rfl (Nat.le_of_ble_eq_true rfl) BS_225 (Nat.le_of_ble_eq_true rfl) (Nat.le_of_ble_eq_true rfl) hci_5 (Nat.le_of_ble_eq_true rfl) (Nat.le_of_ble_eq_true rfl) h (fun x2 s1 h => ?_)
          refine JT_aload_n (q := 0) dX11_price_51 rfl rfl ?_
          refine JS_getR (x := 225) dX11_price_52 flX11_72 BS_2 (Nat.le_of_ble_eq_true rfl) (Nat.le_of_ble_eq_true rfl) (Or.inl ⟨_, ct_11_10⟩) RF_2_10 ?_
          refine JT_aload_n (q := 0) dX11_price_55 rfl rfl ?_
          refine JS_getR (x := 31) dX11_price_56 flX11_41 BS_2 (Nat.le_of_ble_eq_true rfl) (Nat.le_of_ble_eq_true rfl) (Or.inl ⟨_, ct_11_5⟩) RF_2_5 ?_
          refine JT_iconst (v := -1) dX11_price_59 ic_m1 ?_
          refine JT_iconst (v := 0) dX11_price_60 ic_0 ?_
          refine JS_callVI (M' := MX5_search) (d' := 21) (As := [.ref 31, .int (-1 : Int32), .int (0 : Int32)]) (rest := [.int x2]) dX11_price_61 cvX11_384 okX5_search rfl (Nat.le_of_ble_eq_true rfl) BS_225 (Nat.le_of_ble_eq_true rfl) (Nat.le_of_ble_eq_true rfl) hci_5 (Nat.le_of_ble_eq_true rfl) (Nat.le_of_ble_eq_true rfl) h (fun x4 s3 h => ?_)
          refine JT_isub dX11_price_64 ?_
          exact JS_iret dX11_price_65 rfl rfl h
        · have h := h.2 hc5
          refine JT_iconst (v := -1) dX11_price_36 ic_m1 ?_
          exact JS_iret dX11_price_37 rfl rfl h
