set_option maxRecDepth 1000000 in
noncomputable def mX12_packs (s : SM) (a1 : Int32) : SM := (if (gI s 264 (((3 : Int32) * a1)).toNatClampNeg) = (gI s 264 ((((3 : Int32) * a1) + (1 : Int32))).toNatClampNeg) then s else (if (vX12_isLiving s (gI s 264 (((3 : Int32) * a1)).toNatClampNeg)) = 0 then s else (if (vX12_isLiving s (gI s 264 ((((3 : Int32) * a1) + (1 : Int32))).toNatClampNeg)) = 0 then s else (if ((gI s 266 (a1).toNatClampNeg) - (gI s 266 (a1).toNatClampNeg) / (2 : Int32) * (2 : Int32)) = 0 then (if (2 : Int32) ≤ (gI s 266 (a1).toNatClampNeg) then (if (gI s 264 (((3 : Int32) * a1)).toNatClampNeg) < 0 then s else (if (gI s 250 (((13 : Int32) + (gI s 264 ((((3 : Int32) * a1) + (1 : Int32))).toNatClampNeg))).toNatClampNeg) < 0 then s else (if (vX12_isLiving s (gI s 264 (((3 : Int32) * a1)).toNatClampNeg)) = 0 then s else (if (vX12_isLiving s (gI s 250 (((13 : Int32) + (gI s 264 ((((3 : Int32) * a1) + (1 : Int32))).toNatClampNeg))).toNatClampNeg)) = 0 then s else ((fun (s38 : SM) => ((fun (s41 : SM) => s41) (pI s38 269 ((gI s 250 (((13 : Int32) + (gI s 264 ((((3 : Int32) * a1) + (1 : Int32))).toNatClampNeg))).toNatClampNeg)).toNatClampNeg ((gI s38 269 ((gI s 250 (((13 : Int32) + (gI s 264 ((((3 : Int32) * a1) + (1 : Int32))).toNatClampNeg))).toNatClampNeg)).toNatClampNeg) - (gI s 250 (((22 : Int32) + (gI s 264 ((((3 : Int32) * a1) + (2 : Int32))).toNatClampNeg))).toNatClampNeg))))) (pI s 269 ((gI s 264 (((3 : Int32) * a1)).toNatClampNeg)).toNatClampNeg ((gI s 269 ((gI s 264 (((3 : Int32) * a1)).toNatClampNeg)).toNatClampNeg) - (gI s 250 (((22 : Int32) + (gI s 264 ((((3 : Int32) * a1) + (2 : Int32))).toNatClampNeg))).toNatClampNeg)))))))) else (if (gI s 264 (((3 : Int32) * a1)).toNatClampNeg) < 0 then s else (if (gI s 264 ((((3 : Int32) * a1) + (1 : Int32))).toNatClampNeg) < 0 then s else (if (vX12_isLiving s (gI s 264 (((3 : Int32) * a1)).toNatClampNeg)) = 0 then s else (if (vX12_isLiving s (gI s 264 ((((3 : Int32) * a1) + (1 : Int32))).toNatClampNeg)) = 0 then s else ((fun (s50 : SM) => ((fun (s53 : SM) => s53) (pI s50 269 ((gI s 264 ((((3 : Int32) * a1) + (1 : Int32))).toNatClampNeg)).toNatClampNeg ((gI s50 269 ((gI s 264 ((((3 : Int32) * a1) + (1 : Int32))).toNatClampNeg)).toNatClampNeg) - (gI s 250 (((22 : Int32) + (gI s 264 ((((3 : Int32) * a1) + (2 : Int32))).toNatClampNeg))).toNatClampNeg))))) (pI s 269 ((gI s 264 (((3 : Int32) * a1)).toNatClampNeg)).toNatClampNeg ((gI s 269 ((gI s 264 (((3 : Int32) * a1)).toNatClampNeg)).toNatClampNeg) - (gI s 250 (((22 : Int32) + (gI s 264 ((((3 : Int32) * a1) + (2 : Int32))).toNatClampNeg))).toNatClampNeg))))))))) else (if (2 : Int32) ≤ (gI s 266 (a1).toNatClampNeg) then (if (gI s 250 (((13 : Int32) + (gI s 264 (((3 : Int32) * a1)).toNatClampNeg))).toNatClampNeg) < 0 then s else (if (gI s 250 (((13 : Int32) + (gI s 264 ((((3 : Int32) * a1) + (1 : Int32))).toNatClampNeg))).toNatClampNeg) < 0 then s else (if (vX12_isLiving s (gI s 250 (((13 : Int32) + (gI s 264 (((3 : Int32) * a1)).toNatClampNeg))).toNatClampNeg)) = 0 then s else (if (vX12_isLiving s (gI s 250 (((13 : Int32) + (gI s 264 ((((3 : Int32) * a1) + (1 : Int32))).toNatClampNeg))).toNatClampNeg)) = 0 then s else ((fun (s11 : SM) => ((fun (s14 : SM) => s14) (pI s11 269 ((gI s 250 (((13 : Int32) + (gI s 264 ((((3 : Int32) * a1) + (1 : Int32))).toNatClampNeg))).toNatClampNeg)).toNatClampNeg ((gI s11 269 ((gI s 250 (((13 : Int32) + (gI s 264 ((((3 : Int32) * a1) + (1 : Int32))).toNatClampNeg))).toNatClampNeg)).toNatClampNeg) - (gI s 250 (((22 : Int32) + (gI s 264 ((((3 : Int32) * a1) + (2 : Int32))).toNatClampNeg))).toNatClampNeg))))) (pI s 269 ((gI s 250 (((13 : Int32) + (gI s 264 (((3 : Int32) * a1)).toNatClampNeg))).toNatClampNeg)).toNatClampNeg ((gI s 269 ((gI s 250 (((13 : Int32) + (gI s 264 (((3 : Int32) * a1)).toNatClampNeg))).toNatClampNeg)).toNatClampNeg) - (gI s 250 (((22 : Int32) + (gI s 264 ((((3 : Int32) * a1) + (2 : Int32))).toNatClampNeg))).toNatClampNeg)))))))) else (if (gI s 250 (((13 : Int32) + (gI s 264 (((3 : Int32) * a1)).toNatClampNeg))).toNatClampNeg) < 0 then s else (if (gI s 264 ((((3 : Int32) * a1) + (1 : Int32))).toNatClampNeg) < 0 then s else (if (vX12_isLiving s (gI s 250 (((13 : Int32) + (gI s 264 (((3 : Int32) * a1)).toNatClampNeg))).toNatClampNeg)) = 0 then s else (if (vX12_isLiving s (gI s 264 ((((3 : Int32) * a1) + (1 : Int32))).toNatClampNeg)) = 0 then s else ((fun (s23 : SM) => ((fun (s26 : SM) => s26) (pI s23 269 ((gI s 264 ((((3 : Int32) * a1) + (1 : Int32))).toNatClampNeg)).toNatClampNeg ((gI s23 269 ((gI s 264 ((((3 : Int32) * a1) + (1 : Int32))).toNatClampNeg)).toNatClampNeg) - (gI s 250 (((22 : Int32) + (gI s 264 ((((3 : Int32) * a1) + (2 : Int32))).toNatClampNeg))).toNatClampNeg))))) (pI s 269 ((gI s 250 (((13 : Int32) + (gI s 264 (((3 : Int32) * a1)).toNatClampNeg))).toNatClampNeg)).toNatClampNeg ((gI s 269 ((gI s 250 (((13 : Int32) + (gI s 264 (((3 : Int32) * a1)).toNatClampNeg))).toNatClampNeg)).toNatClampNeg) - (gI s 250 (((22 : Int32) + (gI s 264 ((((3 : Int32) * a1) + (2 : Int32))).toNatClampNeg))).toNatClampNeg)))))))))))))
set_option maxRecDepth 1000000 in
def rX12_packs (s : SM) (a1 : Int32) : Prop := vp_in ((3 : Int32) * a1) 18 ∧ vp_in (((3 : Int32) * a1) + (1 : Int32)) 18 ∧ vp_in (((3 : Int32) * a1) + (2 : Int32)) 18 ∧ vp_in ((22 : Int32) + (gI s 264 ((((3 : Int32) * a1) + (2 : Int32))).toNatClampNeg)) 787 ∧ (¬ (gI s 264 (((3 : Int32) * a1)).toNatClampNeg) = (gI s 264 ((((3 : Int32) * a1) + (1 : Int32))).toNatClampNeg) → (¬ (vX12_isLiving s (gI s 264 (((3 : Int32) * a1)).toNatClampNeg)) = 0 → (¬ (vX12_isLiving s (gI s 264 ((((3 : Int32) * a1) + (1 : Int32))).toNatClampNeg)) = 0 → vp_in a1 6 ∧ ((¬ ((gI s 266 (a1).toNatClampNeg) - (gI s 266 (a1).toNatClampNeg) / (2 : Int32) * (2 : Int32)) = 0 → vp_in ((13 : Int32) + (gI s 264 (((3 : Int32) * a1)).toNatClampNeg)) 787 ∧ vp_in a1 6 ∧ (((2 : Int32) ≤ (gI s 266 (a1).toNatClampNeg) → vp_in ((13 : Int32) + (gI s 264 ((((3 : Int32) * a1) + (1 : Int32))).toNatClampNeg)) 787 ∧ (¬ (gI s 250 (((13 : Int32) + (gI s 264 (((3 : Int32) * a1)).toNatClampNeg))).toNatClampNeg) < 0 → (¬ (gI s 250 (((13 : Int32) + (gI s 264 ((((3 : Int32) * a1) + (1 : Int32))).toNatClampNeg))).toNatClampNeg) < 0 → (¬ (vX12_isLiving s (gI s 250 (((13 : Int32) + (gI s 264 (((3 : Int32) * a1)).toNatClampNeg))).toNatClampNeg)) = 0 → (¬ (vX12_isLiving s (gI s 250 (((13 : Int32) + (gI s 264 ((((3 : Int32) * a1) + (1 : Int32))).toNatClampNeg))).toNatClampNeg)) = 0 → vp_in (gI s 250 (((13 : Int32) + (gI s 264 (((3 : Int32) * a1)).toNatClampNeg))).toNatClampNeg) 9 ∧ vp_in (gI s 250 (((13 : Int32) + (gI s 264 (((3 : Int32) * a1)).toNatClampNeg))).toNatClampNeg) 9 ∧ (∀ s11, s11 = (pI s 269 ((gI s 250 (((13 : Int32) + (gI s 264 (((3 : Int32) * a1)).toNatClampNeg))).toNatClampNeg)).toNatClampNeg ((gI s 269 ((gI s 250 (((13 : Int32) + (gI s 264 (((3 : Int32) * a1)).toNatClampNeg))).toNatClampNeg)).toNatClampNeg) - (gI s 250 (((22 : Int32) + (gI s 264 ((((3 : Int32) * a1) + (2 : Int32))).toNatClampNeg))).toNatClampNeg))) → vp_in (gI s 250 (((13 : Int32) + (gI s 264 ((((3 : Int32) * a1) + (1 : Int32))).toNatClampNeg))).toNatClampNeg) 9 ∧ vp_in (gI s 250 (((13 : Int32) + (gI s 264 ((((3 : Int32) * a1) + (1 : Int32))).toNatClampNeg))).toNatClampNeg) 9)))))) ∧ (¬ (2 : Int32) ≤ (gI s 266 (a1).toNatClampNeg) → (¬ (gI s 250 (((13 : Int32) + (gI s 264 (((3 : Int32) * a1)).toNatClampNeg))).toNatClampNeg) < 0 → (¬ (gI s 264 ((((3 : Int32) * a1) + (1 : Int32))).toNatClampNeg) < 0 → (¬ (vX12_isLiving s (gI s 250 (((13 : Int32) + (gI s 264 (((3 : Int32) * a1)).toNatClampNeg))).toNatClampNeg)) = 0 → (¬ (vX12_isLiving s (gI s 264 ((((3 : Int32) * a1) + (1 : Int32))).toNatClampNeg)) = 0 → vp_in (gI s 250 (((13 : Int32) + (gI s 264 (((3 : Int32) * a1)).toNatClampNeg))).toNatClampNeg) 9 ∧ vp_in (gI s 250 (((13 : Int32) + (gI s 264 (((3 : Int32) * a1)).toNatClampNeg))).toNatClampNeg) 9 ∧ (∀ s23, s23 = (pI s 269 ((gI s 250 (((13 : Int32) + (gI s 264 (((3 : Int32) * a1)).toNatClampNeg))).toNatClampNeg)).toNatClampNeg ((gI s 269 ((gI s 250 (((13 : Int32) + (gI s 264 (((3 : Int32) * a1)).toNatClampNeg))).toNatClampNeg)).toNatClampNeg) - (gI s 250 (((22 : Int32) + (gI s 264 ((((3 : Int32) * a1) + (2 : Int32))).toNatClampNeg))).toNatClampNeg))) → vp_in (gI s 264 ((((3 : Int32) * a1) + (1 : Int32))).toNatClampNeg) 9 ∧ vp_in (gI s 264 ((((3 : Int32) * a1) + (1 : Int32))).toNatClampNeg) 9)))))))) ∧ (((gI s 266 (a1).toNatClampNeg) - (gI s 266 (a1).toNatClampNeg) / (2 : Int32) * (2 : Int32)) = 0 → vp_in a1 6 ∧ (((2 : Int32) ≤ (gI s 266 (a1).toNatClampNeg) → vp_in ((13 : Int32) + (gI s 264 ((((3 : Int32) * a1) + (1 : Int32))).toNatClampNeg)) 787 ∧ (¬ (gI s 264 (((3 : Int32) * a1)).toNatClampNeg) < 0 → (¬ (gI s 250 (((13 : Int32) + (gI s 264 ((((3 : Int32) * a1) + (1 : Int32))).toNatClampNeg))).toNatClampNeg) < 0 → (¬ (vX12_isLiving s (gI s 264 (((3 : Int32) * a1)).toNatClampNeg)) = 0 → (¬ (vX12_isLiving s (gI s 250 (((13 : Int32) + (gI s 264 ((((3 : Int32) * a1) + (1 : Int32))).toNatClampNeg))).toNatClampNeg)) = 0 → vp_in (gI s 264 (((3 : Int32) * a1)).toNatClampNeg) 9 ∧ vp_in (gI s 264 (((3 : Int32) * a1)).toNatClampNeg) 9 ∧ (∀ s38, s38 = (pI s 269 ((gI s 264 (((3 : Int32) * a1)).toNatClampNeg)).toNatClampNeg ((gI s 269 ((gI s 264 (((3 : Int32) * a1)).toNatClampNeg)).toNatClampNeg) - (gI s 250 (((22 : Int32) + (gI s 264 ((((3 : Int32) * a1) + (2 : Int32))).toNatClampNeg))).toNatClampNeg))) → vp_in (gI s 250 (((13 : Int32) + (gI s 264 ((((3 : Int32) * a1) + (1 : Int32))).toNatClampNeg))).toNatClampNeg) 9 ∧ vp_in (gI s 250 (((13 : Int32) + (gI s 264 ((((3 : Int32) * a1) + (1 : Int32))).toNatClampNeg))).toNatClampNeg) 9)))))) ∧ (¬ (2 : Int32) ≤ (gI s 266 (a1).toNatClampNeg) → (¬ (gI s 264 (((3 : Int32) * a1)).toNatClampNeg) < 0 → (¬ (gI s 264 ((((3 : Int32) * a1) + (1 : Int32))).toNatClampNeg) < 0 → (¬ (vX12_isLiving s (gI s 264 (((3 : Int32) * a1)).toNatClampNeg)) = 0 → (¬ (vX12_isLiving s (gI s 264 ((((3 : Int32) * a1) + (1 : Int32))).toNatClampNeg)) = 0 → vp_in (gI s 264 (((3 : Int32) * a1)).toNatClampNeg) 9 ∧ vp_in (gI s 264 (((3 : Int32) * a1)).toNatClampNeg) 9 ∧ (∀ s50, s50 = (pI s 269 ((gI s 264 (((3 : Int32) * a1)).toNatClampNeg)).toNatClampNeg ((gI s 269 ((gI s 264 (((3 : Int32) * a1)).toNatClampNeg)).toNatClampNeg) - (gI s 250 (((22 : Int32) + (gI s 264 ((((3 : Int32) * a1) + (2 : Int32))).toNatClampNeg))).toNatClampNeg))) → vp_in (gI s 264 ((((3 : Int32) * a1) + (1 : Int32))).toNatClampNeg) 9 ∧ vp_in (gI s 264 ((((3 : Int32) * a1) + (1 : Int32))).toNatClampNeg) 9))))))))))))
set_option maxRecDepth 1000000 in
noncomputable def vX12_read (s : SM) (a1 : Int32) (a2 : Int32) : Int32 := (if (vX12_isDeal (pI s 248 0 (0 : Int32)) a1) = 0 then (-1 : Int32) else (if (vX12_isIn (pI s 248 0 (0 : Int32)) a2 (0 : Int32) (1 : Int32)) = 0 then (-1 : Int32) else (if 0 ≤ (vX12_of (pI s 248 0 (0 : Int32)) a1 ((6 : Int32) + a2)) then (if (vX12_isRead (pI s 248 0 (0 : Int32)) a1 a2 (vX12_living (pI s 248 0 (0 : Int32)) )) = 0 then (0 : Int32) else (1 : Int32)) else (-1 : Int32))))
set_option maxRecDepth 1000000 in
noncomputable def mX12_read (s : SM) (a1 : Int32) (a2 : Int32) : SM := (pI s 248 0 (0 : Int32))
set_option maxRecDepth 1000000 in
def rX12_read (s : SM) (a1 : Int32) (a2 : Int32) : Prop := (¬ (vX12_isDeal (pI s 248 0 (0 : Int32)) a1) = 0 → (¬ (vX12_isIn (pI s 248 0 (0 : Int32)) a2 (0 : Int32) (1 : Int32)) = 0 → rX12_of (pI s 248 0 (0 : Int32)) a1 ((6 : Int32) + a2) ∧ (0 ≤ (vX12_of (pI s 248 0 (0 : Int32)) a1 ((6 : Int32) + a2)) → rX12_isRead (pI s 248 0 (0 : Int32)) a1 a2 (vX12_living (pI s 248 0 (0 : Int32)) ))))
set_option maxRecDepth 1000000 in
noncomputable def vX12_sign (s : SM) (a1 : Int32) : Int32 := (if (vX12_isSign s a1) = 0 then (vX12_bad s (1 : Int32)) else (1 : Int32))
set_option maxRecDepth 1000000 in
noncomputable def mX12_sign (s : SM) (a1 : Int32) : SM := (if (vX12_isSign s a1) = 0 then (mX12_bad s (1 : Int32)) else (mX12_next s ))
set_option maxRecDepth 1000000 in
def rX12_sign (s : SM) (a1 : Int32) : Prop := (¬ (vX12_isSign s a1) = 0 → rX12_next s )
set_option maxRecDepth 1000000 in
noncomputable def tX12_skin_29 (K : (SM → Int32 → Int32 → Int32 → Int32 × SM) × (SM → Int32 → Int32 → Int32 → Int32 → Int32 → Int32 × SM)) (s : SM) (a1 : Int32) (a2 : Int32) (a3 : Int32) : Int32 × SM := (if a2 ≤ a3 then ((gI s 248 35), s) else ((fun (s1 : SM) => ((fun (s3 : SM) => (if (vX12_has (mX12_put s3 (32 : Int32)) (vX12_of (mX12_put s3 (32 : Int32)) ((vX12_markOf s a1 a3) / (2 : Int32)) (8 : Int32)) ((vX12_markOf s a1 a3) - (vX12_markOf s a1 a3) / (2 : Int32) * (2 : Int32))) = 0 then ((fun (s4 : SM) => (K.2 s4 a1 a2 a3 (vX12_markOf s a1 a3) ((vX12_markOf s a1 a3) / (2 : Int32)))) (mX12_putNumber (mX12_put s3 (32 : Int32)) (vX12_of (mX12_put s3 (32 : Int32)) ((vX12_markOf s a1 a3) / (2 : Int32)) (2 : Int32)))) else (K.2 (mX12_put (mX12_put s3 (32 : Int32)) (63 : Int32)) a1 a2 a3 (vX12_markOf s a1 a3) ((vX12_markOf s a1 a3) / (2 : Int32))))) (mX12_putName (mX12_put s1 (32 : Int32)) (gL (mX12_put s1 (32 : Int32)) 253 ((vX12_of (mX12_put s1 (32 : Int32)) ((vX12_markOf s a1 a3) / (2 : Int32)) ((1 : Int32) - ((vX12_markOf s a1 a3) - (vX12_markOf s a1 a3) / (2 : Int32) * (2 : Int32))))).toNatClampNeg)))) (mX12_put s (if ((vX12_markOf s a1 a3) - (vX12_markOf s a1 a3) / (2 : Int32) * (2 : Int32)) = 0 then (43 : Int32) else (45 : Int32)))))
set_option maxRecDepth 1000000 in
def uX12_skin_29 (K : (SM → Int32 → Int32 → Int32 → Prop) × (SM → Int32 → Int32 → Int32 → Int32 → Int32 → Prop)) (s : SM) (a1 : Int32) (a2 : Int32) (a3 : Int32) : Prop := (¬ a2 ≤ a3 → rX12_markOf s a1 a3 ∧ rX12_put s (if ((vX12_markOf s a1 a3) - (vX12_markOf s a1 a3) / (2 : Int32) * (2 : Int32)) = 0 then (43 : Int32) else (45 : Int32)) ∧ (∀ s1, s1 = (mX12_put s (if ((vX12_markOf s a1 a3) - (vX12_markOf s a1 a3) / (2 : Int32) * (2 : Int32)) = 0 then (43 : Int32) else (45 : Int32))) → rX12_put s1 (32 : Int32) ∧ rX12_of (mX12_put s1 (32 : Int32)) ((vX12_markOf s a1 a3) / (2 : Int32)) ((1 : Int32) - ((vX12_markOf s a1 a3) - (vX12_markOf s a1 a3) / (2 : Int32) * (2 : Int32))) ∧ vp_in (vX12_of (mX12_put s1 (32 : Int32)) ((vX12_markOf s a1 a3) / (2 : Int32)) ((1 : Int32) - ((vX12_markOf s a1 a3) - (vX12_markOf s a1 a3) / (2 : Int32) * (2 : Int32)))) 30 ∧ rX12_putName (mX12_put s1 (32 : Int32)) (gL (mX12_put s1 (32 : Int32)) 253 ((vX12_of (mX12_put s1 (32 : Int32)) ((vX12_markOf s a1 a3) / (2 : Int32)) ((1 : Int32) - ((vX12_markOf s a1 a3) - (vX12_markOf s a1 a3) / (2 : Int32) * (2 : Int32))))).toNatClampNeg) ∧ (∀ s3, s3 = (mX12_putName (mX12_put s1 (32 : Int32)) (gL (mX12_put s1 (32 : Int32)) 253 ((vX12_of (mX12_put s1 (32 : Int32)) ((vX12_markOf s a1 a3) / (2 : Int32)) ((1 : Int32) - ((vX12_markOf s a1 a3) - (vX12_markOf s a1 a3) / (2 : Int32) * (2 : Int32))))).toNatClampNeg)) → rX12_put s3 (32 : Int32) ∧ rX12_of (mX12_put s3 (32 : Int32)) ((vX12_markOf s a1 a3) / (2 : Int32)) (8 : Int32) ∧ (((vX12_has (mX12_put s3 (32 : Int32)) (vX12_of (mX12_put s3 (32 : Int32)) ((vX12_markOf s a1 a3) / (2 : Int32)) (8 : Int32)) ((vX12_markOf s a1 a3) - (vX12_markOf s a1 a3) / (2 : Int32) * (2 : Int32))) = 0 → rX12_of (mX12_put s3 (32 : Int32)) ((vX12_markOf s a1 a3) / (2 : Int32)) (2 : Int32) ∧ rX12_putNumber (mX12_put s3 (32 : Int32)) (vX12_of (mX12_put s3 (32 : Int32)) ((vX12_markOf s a1 a3) / (2 : Int32)) (2 : Int32)) ∧ (∀ s4, s4 = (mX12_putNumber (mX12_put s3 (32 : Int32)) (vX12_of (mX12_put s3 (32 : Int32)) ((vX12_markOf s a1 a3) / (2 : Int32)) (2 : Int32))) → K.2 s4 a1 a2 a3 (vX12_markOf s a1 a3) ((vX12_markOf s a1 a3) / (2 : Int32)))) ∧ (¬ (vX12_has (mX12_put s3 (32 : Int32)) (vX12_of (mX12_put s3 (32 : Int32)) ((vX12_markOf s a1 a3) / (2 : Int32)) (8 : Int32)) ((vX12_markOf s a1 a3) - (vX12_markOf s a1 a3) / (2 : Int32) * (2 : Int32))) = 0 → rX12_put (mX12_put s3 (32 : Int32)) (63 : Int32) ∧ K.2 (mX12_put (mX12_put s3 (32 : Int32)) (63 : Int32)) a1 a2 a3 (vX12_markOf s a1 a3) ((vX12_markOf s a1 a3) / (2 : Int32)))))))
set_option maxRecDepth 1000000 in
noncomputable def tX12_skin_137 (K : (SM → Int32 → Int32 → Int32 → Int32 × SM) × (SM → Int32 → Int32 → Int32 → Int32 → Int32 → Int32 × SM)) (s : SM) (a1 : Int32) (a2 : Int32) (a3 : Int32) (a4 : Int32) (a5 : Int32) : Int32 × SM := ((fun (s2 : SM) => (if (vX12_of s2 a5 (5 : Int32)) ≤ 0 then (K.1 (mX12_put s2 (59 : Int32)) a1 a2 (a3 + 1)) else ((fun (s4 : SM) => (K.1 s4 a1 a2 (a3 + 1))) (mX12_put (mX12_put s2 (if (vX12_of s2 a5 (5 : Int32)) = (1 : Int32) then (120 : Int32) else (111 : Int32))) (59 : Int32))))) (mX12_putName (mX12_put s (32 : Int32)) (gL (mX12_put s (32 : Int32)) 253 (((9 : Int32) + (vX12_of (mX12_put s (32 : Int32)) a5 (3 : Int32)))).toNatClampNeg)))
set_option maxRecDepth 1000000 in
def uX12_skin_137 (K : (SM → Int32 → Int32 → Int32 → Prop) × (SM → Int32 → Int32 → Int32 → Int32 → Int32 → Prop)) (s : SM) (a1 : Int32) (a2 : Int32) (a3 : Int32) (a4 : Int32) (a5 : Int32) : Prop := rX12_put s (32 : Int32) ∧ rX12_of (mX12_put s (32 : Int32)) a5 (3 : Int32) ∧ vp_in ((9 : Int32) + (vX12_of (mX12_put s (32 : Int32)) a5 (3 : Int32))) 30 ∧ rX12_putName (mX12_put s (32 : Int32)) (gL (mX12_put s (32 : Int32)) 253 (((9 : Int32) + (vX12_of (mX12_put s (32 : Int32)) a5 (3 : Int32)))).toNatClampNeg) ∧ (∀ s2, s2 = (mX12_putName (mX12_put s (32 : Int32)) (gL (mX12_put s (32 : Int32)) 253 (((9 : Int32) + (vX12_of (mX12_put s (32 : Int32)) a5 (3 : Int32)))).toNatClampNeg)) → rX12_of s2 a5 (5 : Int32) ∧ (((vX12_of s2 a5 (5 : Int32)) ≤ 0 → rX12_put s2 (59 : Int32) ∧ K.1 (mX12_put s2 (59 : Int32)) a1 a2 (a3 + 1)) ∧ (¬ (vX12_of s2 a5 (5 : Int32)) ≤ 0 → rX12_of s2 a5 (5 : Int32) ∧ rX12_put s2 (if (vX12_of s2 a5 (5 : Int32)) = (1 : Int32) then (120 : Int32) else (111 : Int32)) ∧ rX12_put (mX12_put s2 (if (vX12_of s2 a5 (5 : Int32)) = (1 : Int32) then (120 : Int32) else (111 : Int32))) (59 : Int32) ∧ (∀ s4, s4 = (mX12_put (mX12_put s2 (if (vX12_of s2 a5 (5 : Int32)) = (1 : Int32) then (120 : Int32) else (111 : Int32))) (59 : Int32)) → K.1 s4 a1 a2 (a3 + 1)))))
set_option maxRecDepth 1000000 in
noncomputable def lX12_skin : Nat → (SM → Int32 → Int32 → Int32 → Int32 × SM) × (SM → Int32 → Int32 → Int32 → Int32 → Int32 → Int32 × SM)
  | 0 => (fun (s : SM) (a1 : Int32) (a2 : Int32) (a3 : Int32) => (0, s), fun (s : SM) (a1 : Int32) (a2 : Int32) (a3 : Int32) (a4 : Int32) (a5 : Int32) => (0, s))
  | n + 1 => (tX12_skin_29 (lX12_skin n), tX12_skin_137 (lX12_skin n))
set_option maxRecDepth 1000000 in
def qX12_skin : Nat → (SM → Int32 → Int32 → Int32 → Prop) × (SM → Int32 → Int32 → Int32 → Int32 → Int32 → Prop)
  | 0 => (fun (s : SM) (a1 : Int32) (a2 : Int32) (a3 : Int32) => False, fun (s : SM) (a1 : Int32) (a2 : Int32) (a3 : Int32) (a4 : Int32) (a5 : Int32) => False)
  | n + 1 => (uX12_skin_29 (qX12_skin n), uX12_skin_137 (qX12_skin n))
set_option maxRecDepth 1000000 in
noncomputable def fX12_skin (s : SM) (a1 : Int32) : Int32 × SM := (if (vX12_isBody (pI s 248 0 (0 : Int32)) a1) = 0 then ((-1 : Int32), (pI s 248 0 (0 : Int32))) else ((lX12_skin FU).1 (pI (pI s 248 0 (0 : Int32)) 248 35 (0 : Int32)) a1 (vX12_markOf (pI (pI s 248 0 (0 : Int32)) 248 35 (0 : Int32)) a1 (-1 : Int32)) (0 : Int32)))
set_option maxRecDepth 1000000 in
noncomputable def vX12_skin (s : SM) (a1 : Int32) : Int32 := fX12_skin s a1 |>.1
set_option maxRecDepth 1000000 in
noncomputable def mX12_skin (s : SM) (a1 : Int32) : SM := fX12_skin s a1 |>.2
set_option maxRecDepth 1000000 in
def rX12_skin (s : SM) (a1 : Int32) : Prop := (¬ (vX12_isBody (pI s 248 0 (0 : Int32)) a1) = 0 → rX12_markOf (pI (pI s 248 0 (0 : Int32)) 248 35 (0 : Int32)) a1 (-1 : Int32) ∧ (qX12_skin FU).1 (pI (pI s 248 0 (0 : Int32)) 248 35 (0 : Int32)) a1 (vX12_markOf (pI (pI s 248 0 (0 : Int32)) 248 35 (0 : Int32)) a1 (-1 : Int32)) (0 : Int32))
set_option maxRecDepth 1000000 in
noncomputable def tX12_strikes_2 (K : (SM → Int32 → Int32 → SM)) (s : SM) (a1 : Int32) (a2 : Int32) : SM := (if (2 : Int32) ≤ a2 then (mX12_set s a1 (5 : Int32) (1 : Int32)) else (if (vX12_isLiving s (vX12_of s a1 ((6 : Int32) + a2))) = 0 then (K s a1 (a2 + 1)) else ((fun (s4 : SM) => (K s4 a1 (a2 + 1))) (pI s 250 (((37 : Int32) + (vX12_of s a1 ((6 : Int32) + a2)))).toNatClampNeg ((gI s 250 (((37 : Int32) + (vX12_of s a1 ((6 : Int32) + a2)))).toNatClampNeg) + (gI s 250 ((2 : Int32)).toNatClampNeg))))))
set_option maxRecDepth 1000000 in
def uX12_strikes_2 (K : (SM → Int32 → Int32 → Prop)) (s : SM) (a1 : Int32) (a2 : Int32) : Prop := (((2 : Int32) ≤ a2 → rX12_set s a1 (5 : Int32) (1 : Int32)) ∧ (¬ (2 : Int32) ≤ a2 → rX12_of s a1 ((6 : Int32) + a2) ∧ (((vX12_isLiving s (vX12_of s a1 ((6 : Int32) + a2))) = 0 → K s a1 (a2 + 1)) ∧ (¬ (vX12_isLiving s (vX12_of s a1 ((6 : Int32) + a2))) = 0 → rX12_of s a1 ((6 : Int32) + a2) ∧ vp_in ((37 : Int32) + (vX12_of s a1 ((6 : Int32) + a2))) 787 ∧ vp_in ((37 : Int32) + (vX12_of s a1 ((6 : Int32) + a2))) 787 ∧ (∀ s4, s4 = (pI s 250 (((37 : Int32) + (vX12_of s a1 ((6 : Int32) + a2)))).toNatClampNeg ((gI s 250 (((37 : Int32) + (vX12_of s a1 ((6 : Int32) + a2)))).toNatClampNeg) + (gI s 250 ((2 : Int32)).toNatClampNeg))) → K s4 a1 (a2 + 1))))))
set_option maxRecDepth 1000000 in
noncomputable def lX12_strikes : Nat → (SM → Int32 → Int32 → SM)
  | 0 => fun (s : SM) (a1 : Int32) (a2 : Int32) => s
  | n + 1 => tX12_strikes_2 (lX12_strikes n)
set_option maxRecDepth 1000000 in
def qX12_strikes : Nat → (SM → Int32 → Int32 → Prop)
  | 0 => fun (s : SM) (a1 : Int32) (a2 : Int32) => False
  | n + 1 => uX12_strikes_2 (qX12_strikes n)
set_option maxRecDepth 1000000 in
noncomputable def fX12_strikes (s : SM) (a1 : Int32) : SM := ((lX12_strikes FU) s a1 (0 : Int32))
set_option maxRecDepth 1000000 in
noncomputable def mX12_strikes (s : SM) (a1 : Int32) : SM := fX12_strikes s a1
set_option maxRecDepth 1000000 in
def rX12_strikes (s : SM) (a1 : Int32) : Prop := (qX12_strikes FU) s a1 (0 : Int32)
set_option maxRecDepth 1000000 in
noncomputable def vX12_takes (s : SM) (a1 : Int32) (a2 : Int32) : Int32 := (if (gI s 248 11) = (2 : Int32) then (if (vX12_isIn s (gI s 248 14) a1 a2) = 0 then (vX12_bad s (2 : Int32)) else (1 : Int32)) else (vX12_bad s (1 : Int32)))
set_option maxRecDepth 1000000 in
noncomputable def mX12_takes (s : SM) (a1 : Int32) (a2 : Int32) : SM := (if (gI s 248 11) = (2 : Int32) then (if (vX12_isIn s (gI s 248 14) a1 a2) = 0 then (mX12_bad s (2 : Int32)) else (mX12_next (pI s 248 18 (gI s 248 14)) )) else (mX12_bad s (1 : Int32)))
set_option maxRecDepth 1000000 in
def rX12_takes (s : SM) (a1 : Int32) (a2 : Int32) : Prop := ((gI s 248 11) = (2 : Int32) → (¬ (vX12_isIn s (gI s 248 14) a1 a2) = 0 → rX12_next (pI s 248 18 (gI s 248 14)) ))
set_option maxRecDepth 1000000 in
noncomputable def vX12_takesName (s : SM) (a1 : Int32) (a2 : Int32) : Int32 := (if (vX12_isName s ) = 0 then (vX12_bad s (1 : Int32)) else (if 0 ≤ (gI (pI s 248 18 (vX12_find s a1 a2)) 248 18) then (1 : Int32) else (vX12_bad (pI s 248 18 (vX12_find s a1 a2)) (3 : Int32))))
set_option maxRecDepth 1000000 in
noncomputable def mX12_takesName (s : SM) (a1 : Int32) (a2 : Int32) : SM := (if (vX12_isName s ) = 0 then (mX12_bad s (1 : Int32)) else (if 0 ≤ (gI (pI s 248 18 (vX12_find s a1 a2)) 248 18) then (mX12_next (pI s 248 18 (vX12_find s a1 a2)) ) else (mX12_bad (pI s 248 18 (vX12_find s a1 a2)) (3 : Int32))))
set_option maxRecDepth 1000000 in
def rX12_takesName (s : SM) (a1 : Int32) (a2 : Int32) : Prop := rX12_isName s  ∧ (¬ (vX12_isName s ) = 0 → rX12_find s a1 a2 ∧ (0 ≤ (gI (pI s 248 18 (vX12_find s a1 a2)) 248 18) → rX12_next (pI s 248 18 (vX12_find s a1 a2)) ))
set_option maxRecDepth 1000000 in
noncomputable def vX12_valueOf (s : SM) (a1 : Int32) : Int32 := (vX12_valueBy s (vX12_of s a1 (2 : Int32)) (vX12_sortOf s a1))
set_option maxRecDepth 1000000 in
def rX12_valueOf (s : SM) (a1 : Int32) : Prop := rX12_of s a1 (2 : Int32) ∧ rX12_sortOf s a1
set_option maxRecDepth 1000000 in
noncomputable def vX12_whyDies (s : SM) (a1 : Int32) (a2 : Int32) : Int32 := (if a1 = a2 then (1 : Int32) else (if (vX12_isLiving s a1) = 0 then (1 : Int32) else (if (vX12_isLiving s a2) = 0 then (1 : Int32) else (0 : Int32))))
set_option maxRecDepth 1000000 in
noncomputable def mX2_note (s : SM) (L1 P1 : Nat) : SM := (mX4_copyFrom s (rfx 56 ((gI s 55 1)).toNatClampNeg) (rfx (rfx 56 ((gI s 55 1)).toNatClampNeg) 8) L1 P1)
set_option maxRecDepth 1000000 in
def rX2_note (s : SM) (L1 P1 : Nat) : Prop := vp_in (gI s 55 1) 9 ∧ RF 56 ((gI s 55 1)).toNatClampNeg = some (rfx 56 ((gI s 55 1)).toNatClampNeg) ∧ ((rfx 56 ((gI s 55 1)).toNatClampNeg), rfx (rfx 56 ((gI s 55 1)).toNatClampNeg) 8) ∈ LX ∧ rX4_copyFrom s (rfx 56 ((gI s 55 1)).toNatClampNeg) (rfx (rfx 56 ((gI s 55 1)).toNatClampNeg) 8) L1 P1
set_option maxRecDepth 1000000 in
noncomputable def vX2_takeBack (s : SM) (L1 P1 : Nat) : Int32 := (if (gI s 55 2) = 0 then (-1 : Int32) else ((fun (s1 : SM) => ((fun (s5 : SM) => (gI s5 55 2)) (mX4_copyFrom (pI s1 55 2 ((gI s1 55 2) - (1 : Int32))) L1 P1 (rfx 56 ((gI (pI s1 55 2 ((gI s1 55 2) - (1 : Int32))) 55 1)).toNatClampNeg) (rfx (rfx 56 ((gI (pI s1 55 2 ((gI s1 55 2) - (1 : Int32))) 55 1)).toNatClampNeg) 8)))) (pI s 55 1 ((((gI s 55 1) + (9 : Int32)) - (1 : Int32)) - (((gI s 55 1) + (9 : Int32)) - (1 : Int32)) / (9 : Int32) * (9 : Int32)))))
set_option maxRecDepth 1000000 in
noncomputable def mX2_takeBack (s : SM) (L1 P1 : Nat) : SM := (if (gI s 55 2) = 0 then s else ((fun (s1 : SM) => ((fun (s5 : SM) => s5) (mX4_copyFrom (pI s1 55 2 ((gI s1 55 2) - (1 : Int32))) L1 P1 (rfx 56 ((gI (pI s1 55 2 ((gI s1 55 2) - (1 : Int32))) 55 1)).toNatClampNeg) (rfx (rfx 56 ((gI (pI s1 55 2 ((gI s1 55 2) - (1 : Int32))) 55 1)).toNatClampNeg) 8)))) (pI s 55 1 ((((gI s 55 1) + (9 : Int32)) - (1 : Int32)) - (((gI s 55 1) + (9 : Int32)) - (1 : Int32)) / (9 : Int32) * (9 : Int32)))))
set_option maxRecDepth 1000000 in
def rX2_takeBack (s : SM) (L1 P1 : Nat) : Prop := (¬ (gI s 55 2) = 0 → (∀ s1, s1 = (pI s 55 1 ((((gI s 55 1) + (9 : Int32)) - (1 : Int32)) - (((gI s 55 1) + (9 : Int32)) - (1 : Int32)) / (9 : Int32) * (9 : Int32))) → vp_in (gI (pI s1 55 2 ((gI s1 55 2) - (1 : Int32))) 55 1) 9 ∧ RF 56 ((gI (pI s1 55 2 ((gI s1 55 2) - (1 : Int32))) 55 1)).toNatClampNeg = some (rfx 56 ((gI (pI s1 55 2 ((gI s1 55 2) - (1 : Int32))) 55 1)).toNatClampNeg) ∧ ((rfx 56 ((gI (pI s1 55 2 ((gI s1 55 2) - (1 : Int32))) 55 1)).toNatClampNeg), rfx (rfx 56 ((gI (pI s1 55 2 ((gI s1 55 2) - (1 : Int32))) 55 1)).toNatClampNeg) 8) ∈ LX ∧ rX4_copyFrom (pI s1 55 2 ((gI s1 55 2) - (1 : Int32))) L1 P1 (rfx 56 ((gI (pI s1 55 2 ((gI s1 55 2) - (1 : Int32))) 55 1)).toNatClampNeg) (rfx (rfx 56 ((gI (pI s1 55 2 ((gI s1 55 2) - (1 : Int32))) 55 1)).toNatClampNeg) 8)))
set_option maxRecDepth 1000000 in
noncomputable def mX3_bringBack (s : SM) (I0 P0 L0 B0 : Nat) (p1 : Nat) (L2 P2 : Nat) (k3 : Nat) : SM := (mX0_copyFrom (mX4_copyFrom (mX6_copyFrom s p1 P0) L2 P2 L0 P0) k3 B0)
set_option maxRecDepth 1000000 in
def rX3_bringBack (s : SM) (I0 P0 L0 B0 : Nat) (p1 : Nat) (L2 P2 : Nat) (k3 : Nat) : Prop := rX4_copyFrom (mX6_copyFrom s p1 P0) L2 P2 L0 P0
set_option maxRecDepth 1000000 in
noncomputable def mX3_keep (s : SM) (I0 P0 L0 B0 : Nat) (p1 : Nat) (L2 P2 : Nat) (k3 : Nat) : SM := (pI (mX0_copyFrom (mX4_copyFrom (mX6_copyFrom s P0 p1) L0 P0 L2 P2) B0 k3) I0 0 (1 : Int32))
set_option maxRecDepth 1000000 in
def rX3_keep (s : SM) (I0 P0 L0 B0 : Nat) (p1 : Nat) (L2 P2 : Nat) (k3 : Nat) : Prop := rX4_copyFrom (mX6_copyFrom s P0 p1) L0 P0 L2 P2
set_option maxRecDepth 1000000 in
noncomputable def vX4_debtBearerFor (s : SM) (L0 P0 : Nat) (a1 : Int32) (a2 : Int32) (a3 : Int32) : Int32 := (vX4_bearerFor (pI s (L0 + 7) (a3).toNatClampNeg ((gI s (L0 + 7) (a3).toNatClampNeg) - a2)) L0 P0 a1 a2)
set_option maxRecDepth 1000000 in
noncomputable def mX4_debtBearerFor (s : SM) (L0 P0 : Nat) (a1 : Int32) (a2 : Int32) (a3 : Int32) : SM := ((fun (s5 : SM) => s5) (pI (pI s (L0 + 7) (a3).toNatClampNeg ((gI s (L0 + 7) (a3).toNatClampNeg) - a2)) (L0 + 7) (a3).toNatClampNeg ((gI (pI s (L0 + 7) (a3).toNatClampNeg ((gI s (L0 + 7) (a3).toNatClampNeg) - a2)) (L0 + 7) (a3).toNatClampNeg) + a2)))
set_option maxRecDepth 1000000 in
def rX4_debtBearerFor (s : SM) (L0 P0 : Nat) (a1 : Int32) (a2 : Int32) (a3 : Int32) : Prop := vp_in a3 9 ∧ vp_in a3 9 ∧ rX4_bearerFor (pI s (L0 + 7) (a3).toNatClampNeg ((gI s (L0 + 7) (a3).toNatClampNeg) - a2)) L0 P0 a1 a2 ∧ vp_in a3 9 ∧ vp_in a3 9
set_option maxRecDepth 1000000 in
noncomputable def tX4_freedBy_4 (K : (SM → Nat → Nat → Int32 → Int32 → Int32 → Int32)) (s : SM) (L0 : Nat) (P0 : Nat) (a1 : Int32) (a2 : Int32) (a3 : Int32) : Int32 := (if (1 : Int32) < a3 then a2 else (if (vX4_isBuried s L0 P0 (vX4_bearer s L0 P0 a1 a3)) = 0 then (K s L0 P0 a1 (a2 + ((gI s (P0 + 5) ((gI s (L0 + 4) (a1).toNatClampNeg)).toNatClampNeg) - (vX6_dotOn s P0 (gI s (L0 + 4) (a1).toNatClampNeg)))) (a3 + 1)) else (K s L0 P0 a1 a2 (a3 + 1))))
set_option maxRecDepth 1000000 in
def uX4_freedBy_4 (K : (SM → Nat → Nat → Int32 → Int32 → Int32 → Prop)) (s : SM) (L0 : Nat) (P0 : Nat) (a1 : Int32) (a2 : Int32) (a3 : Int32) : Prop := (¬ (1 : Int32) < a3 → rX4_bearer s L0 P0 a1 a3 ∧ ((¬ (vX4_isBuried s L0 P0 (vX4_bearer s L0 P0 a1 a3)) = 0 → K s L0 P0 a1 a2 (a3 + 1)) ∧ ((vX4_isBuried s L0 P0 (vX4_bearer s L0 P0 a1 a3)) = 0 → vp_in a1 60 ∧ vp_in (gI s (L0 + 4) (a1).toNatClampNeg) 6 ∧ vp_in a1 60 ∧ rX6_dotOn s P0 (gI s (L0 + 4) (a1).toNatClampNeg) ∧ K s L0 P0 a1 (a2 + ((gI s (P0 + 5) ((gI s (L0 + 4) (a1).toNatClampNeg)).toNatClampNeg) - (vX6_dotOn s P0 (gI s (L0 + 4) (a1).toNatClampNeg)))) (a3 + 1))))
set_option maxRecDepth 1000000 in
noncomputable def lX4_freedBy : Nat → (SM → Nat → Nat → Int32 → Int32 → Int32 → Int32)
  | 0 => fun (s : SM) (L0 : Nat) (P0 : Nat) (a1 : Int32) (a2 : Int32) (a3 : Int32) => 0
  | n + 1 => tX4_freedBy_4 (lX4_freedBy n)
set_option maxRecDepth 1000000 in
def qX4_freedBy : Nat → (SM → Nat → Nat → Int32 → Int32 → Int32 → Prop)
  | 0 => fun (s : SM) (L0 : Nat) (P0 : Nat) (a1 : Int32) (a2 : Int32) (a3 : Int32) => False
  | n + 1 => uX4_freedBy_4 (qX4_freedBy n)
set_option maxRecDepth 1000000 in
noncomputable def fX4_freedBy (s : SM) (L0 P0 : Nat) (a1 : Int32) : Int32 := ((lX4_freedBy FU) s L0 P0 a1 (0 : Int32) (0 : Int32))
set_option maxRecDepth 1000000 in
noncomputable def vX4_freedBy (s : SM) (L0 P0 : Nat) (a1 : Int32) : Int32 := fX4_freedBy s L0 P0 a1
set_option maxRecDepth 1000000 in
def rX4_freedBy (s : SM) (L0 P0 : Nat) (a1 : Int32) : Prop := (qX4_freedBy FU) s L0 P0 a1 (0 : Int32) (0 : Int32)
set_option maxRecDepth 1000000 in
noncomputable def tX4_hasRoomForLines_43 (K : (SM → Nat → Nat → Int32 → Int32 → Int32 → Int32)) (s : SM) (L0 : Nat) (P0 : Nat) (a1 : Int32) (a2 : Int32) (a3 : Int32) : Int32 := (if (vX4_isBuried s L0 P0 a2) = 0 then (if (gI s (L0 + 7) (a2).toNatClampNeg) < a3 then (0 : Int32) else (1 : Int32)) else (1 : Int32))
set_option maxRecDepth 1000000 in
def uX4_hasRoomForLines_43 (K : (SM → Nat → Nat → Int32 → Int32 → Int32 → Prop)) (s : SM) (L0 : Nat) (P0 : Nat) (a1 : Int32) (a2 : Int32) (a3 : Int32) : Prop := ((vX4_isBuried s L0 P0 a2) = 0 → vp_in a2 9)
set_option maxRecDepth 1000000 in
noncomputable def lX4_hasRoomForLines : Nat → (SM → Nat → Nat → Int32 → Int32 → Int32 → Int32)
  | 0 => fun (s : SM) (L0 : Nat) (P0 : Nat) (a1 : Int32) (a2 : Int32) (a3 : Int32) => 0
  | n + 1 => tX4_hasRoomForLines_43 (lX4_hasRoomForLines n)
set_option maxRecDepth 1000000 in
def qX4_hasRoomForLines : Nat → (SM → Nat → Nat → Int32 → Int32 → Int32 → Prop)
  | 0 => fun (s : SM) (L0 : Nat) (P0 : Nat) (a1 : Int32) (a2 : Int32) (a3 : Int32) => False
  | n + 1 => uX4_hasRoomForLines_43 (qX4_hasRoomForLines n)
set_option maxRecDepth 1000000 in
noncomputable def fX4_hasRoomForLines (s : SM) (L0 P0 : Nat) (a1 : Int32) (a2 : Int32) : Int32 := (if a1 = a2 then (if (vX4_isBuried s L0 P0 a1) = 0 then (if (gI s (L0 + 7) (a1).toNatClampNeg) < ((2 : Int32) * (gI s P0 8)) then (0 : Int32) else ((lX4_hasRoomForLines FU) s L0 P0 a1 a2 ((2 : Int32) * (gI s P0 8)))) else ((lX4_hasRoomForLines FU) s L0 P0 a1 a2 ((2 : Int32) * (gI s P0 8)))) else (if (vX4_isBuried s L0 P0 a1) = 0 then (if (gI s (L0 + 7) (a1).toNatClampNeg) < (gI s P0 8) then (0 : Int32) else ((lX4_hasRoomForLines FU) s L0 P0 a1 a2 (gI s P0 8))) else ((lX4_hasRoomForLines FU) s L0 P0 a1 a2 (gI s P0 8))))
set_option maxRecDepth 1000000 in
noncomputable def vX4_hasRoomForLines (s : SM) (L0 P0 : Nat) (a1 : Int32) (a2 : Int32) : Int32 := fX4_hasRoomForLines s L0 P0 a1 a2
set_option maxRecDepth 1000000 in
def rX4_hasRoomForLines (s : SM) (L0 P0 : Nat) (a1 : Int32) (a2 : Int32) : Prop := ((¬ a1 = a2 → ((¬ (vX4_isBuried s L0 P0 a1) = 0 → (qX4_hasRoomForLines FU) s L0 P0 a1 a2 (gI s P0 8)) ∧ ((vX4_isBuried s L0 P0 a1) = 0 → vp_in a1 9 ∧ (¬ (gI s (L0 + 7) (a1).toNatClampNeg) < (gI s P0 8) → (qX4_hasRoomForLines FU) s L0 P0 a1 a2 (gI s P0 8))))) ∧ (a1 = a2 → ((¬ (vX4_isBuried s L0 P0 a1) = 0 → (qX4_hasRoomForLines FU) s L0 P0 a1 a2 ((2 : Int32) * (gI s P0 8))) ∧ ((vX4_isBuried s L0 P0 a1) = 0 → vp_in a1 9 ∧ (¬ (gI s (L0 + 7) (a1).toNatClampNeg) < ((2 : Int32) * (gI s P0 8)) → (qX4_hasRoomForLines FU) s L0 P0 a1 a2 ((2 : Int32) * (gI s P0 8)))))))
set_option maxRecDepth 1000000 in
noncomputable def vX4_isReadable (s : SM) (L0 P0 : Nat) (a1 : Int32) (a2 : Int32) : Int32 := (if (vX4_unscarredBearer s L0 P0 a1 a2) = (-1 : Int32) then (0 : Int32) else (if (vX4_lives s L0 P0 (vX4_unscarredBearer s L0 P0 a1 a2)) = 0 then (0 : Int32) else (1 : Int32)))
set_option maxRecDepth 1000000 in
def rX4_isReadable (s : SM) (L0 P0 : Nat) (a1 : Int32) (a2 : Int32) : Prop := rX4_unscarredBearer s L0 P0 a1 a2
set_option maxRecDepth 1000000 in
noncomputable def vX4_isToldBy (s : SM) (L0 P0 : Nat) (a1 : Int32) (a2 : Int32) (a3 : Int32) : Int32 := (if (vX4_unscarredBearer s L0 P0 a1 a2) = (-1 : Int32) then (0 : Int32) else (if (vX11_isIn s (vX4_unscarredBearer s L0 P0 a1 a2) a3) = 0 then (0 : Int32) else (1 : Int32)))
set_option maxRecDepth 1000000 in
def rX4_isToldBy (s : SM) (L0 P0 : Nat) (a1 : Int32) (a2 : Int32) (a3 : Int32) : Prop := rX4_unscarredBearer s L0 P0 a1 a2
set_option maxRecDepth 1000000 in
noncomputable def tX4_latestOpen_7 (K : (SM → Nat → Nat → Int32 → Int32 → Int32)) (s : SM) (L0 : Nat) (P0 : Nat) (a1 : Int32) (a2 : Int32) : Int32 := (if a2 < a1 then (-1 : Int32) else (if (vX4_isOpen s L0 P0 a2) = 0 then (K s L0 P0 a1 (a2 + (-1))) else a2))
set_option maxRecDepth 1000000 in
def uX4_latestOpen_7 (K : (SM → Nat → Nat → Int32 → Int32 → Prop)) (s : SM) (L0 : Nat) (P0 : Nat) (a1 : Int32) (a2 : Int32) : Prop := (¬ a2 < a1 → rX4_isOpen s L0 P0 a2 ∧ ((vX4_isOpen s L0 P0 a2) = 0 → K s L0 P0 a1 (a2 + (-1))))
set_option maxRecDepth 1000000 in
noncomputable def lX4_latestOpen : Nat → (SM → Nat → Nat → Int32 → Int32 → Int32)
  | 0 => fun (s : SM) (L0 : Nat) (P0 : Nat) (a1 : Int32) (a2 : Int32) => 0
  | n + 1 => tX4_latestOpen_7 (lX4_latestOpen n)
set_option maxRecDepth 1000000 in
def qX4_latestOpen : Nat → (SM → Nat → Nat → Int32 → Int32 → Prop)
  | 0 => fun (s : SM) (L0 : Nat) (P0 : Nat) (a1 : Int32) (a2 : Int32) => False
  | n + 1 => uX4_latestOpen_7 (qX4_latestOpen n)
set_option maxRecDepth 1000000 in
noncomputable def fX4_latestOpen (s : SM) (L0 P0 : Nat) (a1 : Int32) : Int32 := ((lX4_latestOpen FU) s L0 P0 a1 ((gI s L0 9) - (1 : Int32)))
set_option maxRecDepth 1000000 in
noncomputable def vX4_latestOpen (s : SM) (L0 P0 : Nat) (a1 : Int32) : Int32 := fX4_latestOpen s L0 P0 a1
set_option maxRecDepth 1000000 in
def rX4_latestOpen (s : SM) (L0 P0 : Nat) (a1 : Int32) : Prop := (qX4_latestOpen FU) s L0 P0 a1 ((gI s L0 9) - (1 : Int32))
set_option maxRecDepth 1000000 in
noncomputable def tX4_lendersTo_4 (K : (SM → Nat → Nat → Int32 → Int32 → Int32 → Int32)) (s : SM) (L0 : Nat) (P0 : Nat) (a1 : Int32) (a2 : Int32) (a3 : Int32) : Int32 := (if (gI s L0 9) ≤ a3 then a2 else (if (vX4_isOpen s L0 P0 a3) = 0 then (K s L0 P0 a1 a2 (a3 + 1)) else (if (vX11_isIn s (gI s (L0 + 2) (a3).toNatClampNeg) a1) = 0 then (K s L0 P0 a1 a2 (a3 + 1)) else (K s L0 P0 a1 (a2 ||| ((1 : Int32) <<< ((gI s (L0 + 1) (a3).toNatClampNeg) &&& 31))) (a3 + 1)))))
set_option maxRecDepth 1000000 in
def uX4_lendersTo_4 (K : (SM → Nat → Nat → Int32 → Int32 → Int32 → Prop)) (s : SM) (L0 : Nat) (P0 : Nat) (a1 : Int32) (a2 : Int32) (a3 : Int32) : Prop := (¬ (gI s L0 9) ≤ a3 → rX4_isOpen s L0 P0 a3 ∧ (((vX4_isOpen s L0 P0 a3) = 0 → K s L0 P0 a1 a2 (a3 + 1)) ∧ (¬ (vX4_isOpen s L0 P0 a3) = 0 → vp_in a3 60 ∧ (((vX11_isIn s (gI s (L0 + 2) (a3).toNatClampNeg) a1) = 0 → K s L0 P0 a1 a2 (a3 + 1)) ∧ (¬ (vX11_isIn s (gI s (L0 + 2) (a3).toNatClampNeg) a1) = 0 → vp_in a3 60 ∧ K s L0 P0 a1 (a2 ||| ((1 : Int32) <<< ((gI s (L0 + 1) (a3).toNatClampNeg) &&& 31))) (a3 + 1))))))
set_option maxRecDepth 1000000 in
noncomputable def lX4_lendersTo : Nat → (SM → Nat → Nat → Int32 → Int32 → Int32 → Int32)
  | 0 => fun (s : SM) (L0 : Nat) (P0 : Nat) (a1 : Int32) (a2 : Int32) (a3 : Int32) => 0
  | n + 1 => tX4_lendersTo_4 (lX4_lendersTo n)
set_option maxRecDepth 1000000 in
def qX4_lendersTo : Nat → (SM → Nat → Nat → Int32 → Int32 → Int32 → Prop)
  | 0 => fun (s : SM) (L0 : Nat) (P0 : Nat) (a1 : Int32) (a2 : Int32) (a3 : Int32) => False
  | n + 1 => uX4_lendersTo_4 (qX4_lendersTo n)
set_option maxRecDepth 1000000 in
noncomputable def fX4_lendersTo (s : SM) (L0 P0 : Nat) (a1 : Int32) : Int32 := ((lX4_lendersTo FU) s L0 P0 a1 (0 : Int32) (0 : Int32))
set_option maxRecDepth 1000000 in
noncomputable def vX4_lendersTo (s : SM) (L0 P0 : Nat) (a1 : Int32) : Int32 := fX4_lendersTo s L0 P0 a1
set_option maxRecDepth 1000000 in
def rX4_lendersTo (s : SM) (L0 P0 : Nat) (a1 : Int32) : Prop := (qX4_lendersTo FU) s L0 P0 a1 (0 : Int32) (0 : Int32)
set_option maxRecDepth 1000000 in
noncomputable def tX4_netOf_4 (K : (SM → Nat → Nat → Int32 → Int32 → Int32 → Int32)) (s : SM) (L0 : Nat) (P0 : Nat) (a1 : Int32) (a2 : Int32) (a3 : Int32) : Int32 := (if (gI s L0 9) ≤ a3 then a2 else (if (vX4_isOpen s L0 P0 a3) = 0 then (K s L0 P0 a1 a2 (a3 + 1)) else (if (gI s (L0 + 1) (a3).toNatClampNeg) = a1 then (if (gI s (L0 + 2) (a3).toNatClampNeg) = a1 then (K s L0 P0 a1 ((a2 + (vX4_valueOf s L0 P0 a3)) - (vX4_valueOf s L0 P0 a3)) (a3 + 1)) else (K s L0 P0 a1 ((a2 + (vX4_valueOf s L0 P0 a3)) - (0 : Int32)) (a3 + 1))) else (if (gI s (L0 + 2) (a3).toNatClampNeg) = a1 then (K s L0 P0 a1 ((a2 + (0 : Int32)) - (vX4_valueOf s L0 P0 a3)) (a3 + 1)) else (K s L0 P0 a1 ((a2 + (0 : Int32)) - (0 : Int32)) (a3 + 1))))))
set_option maxRecDepth 1000000 in
def uX4_netOf_4 (K : (SM → Nat → Nat → Int32 → Int32 → Int32 → Prop)) (s : SM) (L0 : Nat) (P0 : Nat) (a1 : Int32) (a2 : Int32) (a3 : Int32) : Prop := (¬ (gI s L0 9) ≤ a3 → rX4_isOpen s L0 P0 a3 ∧ (((vX4_isOpen s L0 P0 a3) = 0 → K s L0 P0 a1 a2 (a3 + 1)) ∧ (¬ (vX4_isOpen s L0 P0 a3) = 0 → vp_in a3 60 ∧ ((¬ (gI s (L0 + 1) (a3).toNatClampNeg) = a1 → vp_in a3 60 ∧ ((¬ (gI s (L0 + 2) (a3).toNatClampNeg) = a1 → K s L0 P0 a1 ((a2 + (0 : Int32)) - (0 : Int32)) (a3 + 1)) ∧ ((gI s (L0 + 2) (a3).toNatClampNeg) = a1 → rX4_valueOf s L0 P0 a3 ∧ K s L0 P0 a1 ((a2 + (0 : Int32)) - (vX4_valueOf s L0 P0 a3)) (a3 + 1)))) ∧ ((gI s (L0 + 1) (a3).toNatClampNeg) = a1 → rX4_valueOf s L0 P0 a3 ∧ vp_in a3 60 ∧ ((¬ (gI s (L0 + 2) (a3).toNatClampNeg) = a1 → K s L0 P0 a1 ((a2 + (vX4_valueOf s L0 P0 a3)) - (0 : Int32)) (a3 + 1)) ∧ ((gI s (L0 + 2) (a3).toNatClampNeg) = a1 → rX4_valueOf s L0 P0 a3 ∧ K s L0 P0 a1 ((a2 + (vX4_valueOf s L0 P0 a3)) - (vX4_valueOf s L0 P0 a3)) (a3 + 1))))))))
set_option maxRecDepth 1000000 in
noncomputable def lX4_netOf : Nat → (SM → Nat → Nat → Int32 → Int32 → Int32 → Int32)
  | 0 => fun (s : SM) (L0 : Nat) (P0 : Nat) (a1 : Int32) (a2 : Int32) (a3 : Int32) => 0
  | n + 1 => tX4_netOf_4 (lX4_netOf n)
set_option maxRecDepth 1000000 in
def qX4_netOf : Nat → (SM → Nat → Nat → Int32 → Int32 → Int32 → Prop)
  | 0 => fun (s : SM) (L0 : Nat) (P0 : Nat) (a1 : Int32) (a2 : Int32) (a3 : Int32) => False
  | n + 1 => uX4_netOf_4 (qX4_netOf n)
set_option maxRecDepth 1000000 in
noncomputable def fX4_netOf (s : SM) (L0 P0 : Nat) (a1 : Int32) : Int32 := ((lX4_netOf FU) s L0 P0 a1 (0 : Int32) (0 : Int32))
set_option maxRecDepth 1000000 in
noncomputable def vX4_netOf (s : SM) (L0 P0 : Nat) (a1 : Int32) : Int32 := fX4_netOf s L0 P0 a1
set_option maxRecDepth 1000000 in
def rX4_netOf (s : SM) (L0 P0 : Nat) (a1 : Int32) : Prop := (qX4_netOf FU) s L0 P0 a1 (0 : Int32) (0 : Int32)
set_option maxRecDepth 1000000 in
noncomputable def tX4_openAhead_4 (K : (SM → Nat → Nat → Int32 → Int32 → Int32 → Int32)) (s : SM) (L0 : Nat) (P0 : Nat) (a1 : Int32) (a2 : Int32) (a3 : Int32) : Int32 := (if (gI s L0 9) ≤ a3 then a2 else (if (vX4_isOpen s L0 P0 a3) = 0 then (K s L0 P0 a1 a2 (a3 + 1)) else (if (vX4_valueOf s L0 P0 a1) < (vX4_valueOf s L0 P0 a3) then (K s L0 P0 a1 (a2 + (1 : Int32)) (a3 + 1)) else (K s L0 P0 a1 (a2 + (if (vX4_valueOf s L0 P0 a3) = (vX4_valueOf s L0 P0 a1) then (if a1 ≤ a3 then (0 : Int32) else (1 : Int32)) else (0 : Int32))) (a3 + 1)))))
set_option maxRecDepth 1000000 in
def uX4_openAhead_4 (K : (SM → Nat → Nat → Int32 → Int32 → Int32 → Prop)) (s : SM) (L0 : Nat) (P0 : Nat) (a1 : Int32) (a2 : Int32) (a3 : Int32) : Prop := (¬ (gI s L0 9) ≤ a3 → rX4_isOpen s L0 P0 a3 ∧ (((vX4_isOpen s L0 P0 a3) = 0 → K s L0 P0 a1 a2 (a3 + 1)) ∧ (¬ (vX4_isOpen s L0 P0 a3) = 0 → rX4_valueOf s L0 P0 a3 ∧ rX4_valueOf s L0 P0 a1 ∧ (((vX4_valueOf s L0 P0 a1) < (vX4_valueOf s L0 P0 a3) → K s L0 P0 a1 (a2 + (1 : Int32)) (a3 + 1)) ∧ (¬ (vX4_valueOf s L0 P0 a1) < (vX4_valueOf s L0 P0 a3) → rX4_valueOf s L0 P0 a3 ∧ rX4_valueOf s L0 P0 a1 ∧ K s L0 P0 a1 (a2 + (if (vX4_valueOf s L0 P0 a3) = (vX4_valueOf s L0 P0 a1) then (if a1 ≤ a3 then (0 : Int32) else (1 : Int32)) else (0 : Int32))) (a3 + 1))))))
set_option maxRecDepth 1000000 in
noncomputable def lX4_openAhead : Nat → (SM → Nat → Nat → Int32 → Int32 → Int32 → Int32)
  | 0 => fun (s : SM) (L0 : Nat) (P0 : Nat) (a1 : Int32) (a2 : Int32) (a3 : Int32) => 0
  | n + 1 => tX4_openAhead_4 (lX4_openAhead n)
set_option maxRecDepth 1000000 in
def qX4_openAhead : Nat → (SM → Nat → Nat → Int32 → Int32 → Int32 → Prop)
  | 0 => fun (s : SM) (L0 : Nat) (P0 : Nat) (a1 : Int32) (a2 : Int32) (a3 : Int32) => False
  | n + 1 => uX4_openAhead_4 (qX4_openAhead n)
set_option maxRecDepth 1000000 in
noncomputable def fX4_openAhead (s : SM) (L0 P0 : Nat) (a1 : Int32) : Int32 := ((lX4_openAhead FU) s L0 P0 a1 (0 : Int32) (0 : Int32))
set_option maxRecDepth 1000000 in
noncomputable def vX4_openAhead (s : SM) (L0 P0 : Nat) (a1 : Int32) : Int32 := fX4_openAhead s L0 P0 a1
set_option maxRecDepth 1000000 in
def rX4_openAhead (s : SM) (L0 P0 : Nat) (a1 : Int32) : Prop := (qX4_openAhead FU) s L0 P0 a1 (0 : Int32) (0 : Int32)
set_option maxRecDepth 1000000 in
noncomputable def tX4_openDeals_4 (K : (SM → Nat → Nat → Int32 → Int32 → Int32)) (s : SM) (L0 : Nat) (P0 : Nat) (a1 : Int32) (a2 : Int32) : Int32 := (if (gI s L0 9) ≤ a2 then a1 else (K s L0 P0 (a1 + (if (vX4_isOpen s L0 P0 a2) = 0 then (0 : Int32) else (1 : Int32))) (a2 + 1)))
set_option maxRecDepth 1000000 in
def uX4_openDeals_4 (K : (SM → Nat → Nat → Int32 → Int32 → Prop)) (s : SM) (L0 : Nat) (P0 : Nat) (a1 : Int32) (a2 : Int32) : Prop := (¬ (gI s L0 9) ≤ a2 → rX4_isOpen s L0 P0 a2 ∧ K s L0 P0 (a1 + (if (vX4_isOpen s L0 P0 a2) = 0 then (0 : Int32) else (1 : Int32))) (a2 + 1))
set_option maxRecDepth 1000000 in
noncomputable def lX4_openDeals : Nat → (SM → Nat → Nat → Int32 → Int32 → Int32)
  | 0 => fun (s : SM) (L0 : Nat) (P0 : Nat) (a1 : Int32) (a2 : Int32) => 0
  | n + 1 => tX4_openDeals_4 (lX4_openDeals n)
set_option maxRecDepth 1000000 in
def qX4_openDeals : Nat → (SM → Nat → Nat → Int32 → Int32 → Prop)
  | 0 => fun (s : SM) (L0 : Nat) (P0 : Nat) (a1 : Int32) (a2 : Int32) => False
  | n + 1 => uX4_openDeals_4 (qX4_openDeals n)
set_option maxRecDepth 1000000 in
noncomputable def fX4_openDeals (s : SM) (L0 P0 : Nat) : Int32 := ((lX4_openDeals FU) s L0 P0 (0 : Int32) (0 : Int32))
set_option maxRecDepth 1000000 in
noncomputable def vX4_openDeals (s : SM) (L0 P0 : Nat) : Int32 := fX4_openDeals s L0 P0
set_option maxRecDepth 1000000 in
def rX4_openDeals (s : SM) (L0 P0 : Nat) : Prop := (qX4_openDeals FU) s L0 P0 (0 : Int32) (0 : Int32)
set_option maxRecDepth 1000000 in
noncomputable def tX4_openFor_5 (K : (SM → Nat → Nat → Int32 → Int32 → Int32 → Int32 → Int32) × (SM → Nat → Nat → Int32 → Int32 → Int32 → Int32 → Int32) × (SM → Nat → Nat → Int32 → Int32 → Int32 → Int32 → Int32 → Int32)) (s : SM) (L0 : Nat) (P0 : Nat) (a1 : Int32) (a2 : Int32) (a3 : Int32) (a4 : Int32) : Int32 := (if (gI s L0 9) ≤ a4 then a3 else (if (gI s (L0 + 1) (a4).toNatClampNeg) = a1 then (if (gI s (L0 + 2) (a4).toNatClampNeg) = a2 then (K.2.1 s L0 P0 a1 a2 a3 a4) else (if (gI s (L0 + 2) (a4).toNatClampNeg) = a1 then (if (gI s (L0 + 1) (a4).toNatClampNeg) = a2 then (K.2.2 s L0 P0 a1 a2 a3 a4 (1 : Int32)) else (K.1 s L0 P0 a1 a2 (a3 + (if (vX4_isOpen s L0 P0 a4) = 0 then (0 : Int32) else (if (1 : Int32) = 0 then (if (1 : Int32) = 0 then (0 : Int32) else (1 : Int32)) else (1 : Int32)))) (a4 + 1))) else (K.2.2 s L0 P0 a1 a2 a3 a4 (1 : Int32)))) else (K.2.1 s L0 P0 a1 a2 a3 a4)))
set_option maxRecDepth 1000000 in
def uX4_openFor_5 (K : (SM → Nat → Nat → Int32 → Int32 → Int32 → Int32 → Prop) × (SM → Nat → Nat → Int32 → Int32 → Int32 → Int32 → Prop) × (SM → Nat → Nat → Int32 → Int32 → Int32 → Int32 → Int32 → Prop)) (s : SM) (L0 : Nat) (P0 : Nat) (a1 : Int32) (a2 : Int32) (a3 : Int32) (a4 : Int32) : Prop := (¬ (gI s L0 9) ≤ a4 → vp_in a4 60 ∧ ((¬ (gI s (L0 + 1) (a4).toNatClampNeg) = a1 → K.2.1 s L0 P0 a1 a2 a3 a4) ∧ ((gI s (L0 + 1) (a4).toNatClampNeg) = a1 → vp_in a4 60 ∧ (((gI s (L0 + 2) (a4).toNatClampNeg) = a2 → K.2.1 s L0 P0 a1 a2 a3 a4) ∧ (¬ (gI s (L0 + 2) (a4).toNatClampNeg) = a2 → vp_in a4 60 ∧ ((¬ (gI s (L0 + 2) (a4).toNatClampNeg) = a1 → K.2.2 s L0 P0 a1 a2 a3 a4 (1 : Int32)) ∧ ((gI s (L0 + 2) (a4).toNatClampNeg) = a1 → vp_in a4 60 ∧ (((gI s (L0 + 1) (a4).toNatClampNeg) = a2 → K.2.2 s L0 P0 a1 a2 a3 a4 (1 : Int32)) ∧ (¬ (gI s (L0 + 1) (a4).toNatClampNeg) = a2 → rX4_isOpen s L0 P0 a4 ∧ K.1 s L0 P0 a1 a2 (a3 + (if (vX4_isOpen s L0 P0 a4) = 0 then (0 : Int32) else (if (1 : Int32) = 0 then (if (1 : Int32) = 0 then (0 : Int32) else (1 : Int32)) else (1 : Int32)))) (a4 + 1))))))))))
set_option maxRecDepth 1000000 in
noncomputable def tX4_openFor_40 (K : (SM → Nat → Nat → Int32 → Int32 → Int32 → Int32 → Int32) × (SM → Nat → Nat → Int32 → Int32 → Int32 → Int32 → Int32) × (SM → Nat → Nat → Int32 → Int32 → Int32 → Int32 → Int32 → Int32)) (s : SM) (L0 : Nat) (P0 : Nat) (a1 : Int32) (a2 : Int32) (a3 : Int32) (a4 : Int32) : Int32 := (if (gI s (L0 + 2) (a4).toNatClampNeg) = a1 then (if (gI s (L0 + 1) (a4).toNatClampNeg) = a2 then (K.2.2 s L0 P0 a1 a2 a3 a4 (0 : Int32)) else (K.1 s L0 P0 a1 a2 (a3 + (if (vX4_isOpen s L0 P0 a4) = 0 then (0 : Int32) else (if (0 : Int32) = 0 then (if (1 : Int32) = 0 then (0 : Int32) else (1 : Int32)) else (1 : Int32)))) (a4 + 1))) else (K.2.2 s L0 P0 a1 a2 a3 a4 (0 : Int32)))
set_option maxRecDepth 1000000 in
def uX4_openFor_40 (K : (SM → Nat → Nat → Int32 → Int32 → Int32 → Int32 → Prop) × (SM → Nat → Nat → Int32 → Int32 → Int32 → Int32 → Prop) × (SM → Nat → Nat → Int32 → Int32 → Int32 → Int32 → Int32 → Prop)) (s : SM) (L0 : Nat) (P0 : Nat) (a1 : Int32) (a2 : Int32) (a3 : Int32) (a4 : Int32) : Prop := vp_in a4 60 ∧ ((¬ (gI s (L0 + 2) (a4).toNatClampNeg) = a1 → K.2.2 s L0 P0 a1 a2 a3 a4 (0 : Int32)) ∧ ((gI s (L0 + 2) (a4).toNatClampNeg) = a1 → vp_in a4 60 ∧ (((gI s (L0 + 1) (a4).toNatClampNeg) = a2 → K.2.2 s L0 P0 a1 a2 a3 a4 (0 : Int32)) ∧ (¬ (gI s (L0 + 1) (a4).toNatClampNeg) = a2 → rX4_isOpen s L0 P0 a4 ∧ K.1 s L0 P0 a1 a2 (a3 + (if (vX4_isOpen s L0 P0 a4) = 0 then (0 : Int32) else (if (0 : Int32) = 0 then (if (1 : Int32) = 0 then (0 : Int32) else (1 : Int32)) else (1 : Int32)))) (a4 + 1)))))
set_option maxRecDepth 1000000 in
noncomputable def tX4_openFor_69 (K : (SM → Nat → Nat → Int32 → Int32 → Int32 → Int32 → Int32) × (SM → Nat → Nat → Int32 → Int32 → Int32 → Int32 → Int32) × (SM → Nat → Nat → Int32 → Int32 → Int32 → Int32 → Int32 → Int32)) (s : SM) (L0 : Nat) (P0 : Nat) (a1 : Int32) (a2 : Int32) (a3 : Int32) (a4 : Int32) (a5 : Int32) : Int32 := (K.1 s L0 P0 a1 a2 (a3 + (if (vX4_isOpen s L0 P0 a4) = 0 then (0 : Int32) else (if a5 = 0 then (if (0 : Int32) = 0 then (0 : Int32) else (1 : Int32)) else (1 : Int32)))) (a4 + 1))
set_option maxRecDepth 1000000 in
def uX4_openFor_69 (K : (SM → Nat → Nat → Int32 → Int32 → Int32 → Int32 → Prop) × (SM → Nat → Nat → Int32 → Int32 → Int32 → Int32 → Prop) × (SM → Nat → Nat → Int32 → Int32 → Int32 → Int32 → Int32 → Prop)) (s : SM) (L0 : Nat) (P0 : Nat) (a1 : Int32) (a2 : Int32) (a3 : Int32) (a4 : Int32) (a5 : Int32) : Prop := rX4_isOpen s L0 P0 a4 ∧ K.1 s L0 P0 a1 a2 (a3 + (if (vX4_isOpen s L0 P0 a4) = 0 then (0 : Int32) else (if a5 = 0 then (if (0 : Int32) = 0 then (0 : Int32) else (1 : Int32)) else (1 : Int32)))) (a4 + 1)
set_option maxRecDepth 1000000 in
noncomputable def lX4_openFor : Nat → (SM → Nat → Nat → Int32 → Int32 → Int32 → Int32 → Int32) × (SM → Nat → Nat → Int32 → Int32 → Int32 → Int32 → Int32) × (SM → Nat → Nat → Int32 → Int32 → Int32 → Int32 → Int32 → Int32)
  | 0 => (fun (s : SM) (L0 : Nat) (P0 : Nat) (a1 : Int32) (a2 : Int32) (a3 : Int32) (a4 : Int32) => 0, fun (s : SM) (L0 : Nat) (P0 : Nat) (a1 : Int32) (a2 : Int32) (a3 : Int32) (a4 : Int32) => 0, fun (s : SM) (L0 : Nat) (P0 : Nat) (a1 : Int32) (a2 : Int32) (a3 : Int32) (a4 : Int32) (a5 : Int32) => 0)
  | n + 1 => (tX4_openFor_5 (lX4_openFor n), tX4_openFor_40 (lX4_openFor n), tX4_openFor_69 (lX4_openFor n))
set_option maxRecDepth 1000000 in
def qX4_openFor : Nat → (SM → Nat → Nat → Int32 → Int32 → Int32 → Int32 → Prop) × (SM → Nat → Nat → Int32 → Int32 → Int32 → Int32 → Prop) × (SM → Nat → Nat → Int32 → Int32 → Int32 → Int32 → Int32 → Prop)
  | 0 => (fun (s : SM) (L0 : Nat) (P0 : Nat) (a1 : Int32) (a2 : Int32) (a3 : Int32) (a4 : Int32) => False, fun (s : SM) (L0 : Nat) (P0 : Nat) (a1 : Int32) (a2 : Int32) (a3 : Int32) (a4 : Int32) => False, fun (s : SM) (L0 : Nat) (P0 : Nat) (a1 : Int32) (a2 : Int32) (a3 : Int32) (a4 : Int32) (a5 : Int32) => False)
  | n + 1 => (uX4_openFor_5 (qX4_openFor n), uX4_openFor_40 (qX4_openFor n), uX4_openFor_69 (qX4_openFor n))
set_option maxRecDepth 1000000 in
noncomputable def fX4_openFor (s : SM) (L0 P0 : Nat) (a1 : Int32) (a2 : Int32) : Int32 := ((lX4_openFor FU).1 s L0 P0 a1 a2 (0 : Int32) (0 : Int32))
set_option maxRecDepth 1000000 in
noncomputable def vX4_openFor (s : SM) (L0 P0 : Nat) (a1 : Int32) (a2 : Int32) : Int32 := fX4_openFor s L0 P0 a1 a2
set_option maxRecDepth 1000000 in
def rX4_openFor (s : SM) (L0 P0 : Nat) (a1 : Int32) (a2 : Int32) : Prop := (qX4_openFor FU).1 s L0 P0 a1 a2 (0 : Int32) (0 : Int32)
set_option maxRecDepth 1000000 in
noncomputable def mX4_takeOff (s : SM) (L0 P0 : Nat) (a1 : Int32) (a2 : Int32) : SM := (if a2 = (-1 : Int32) then s else ((fun (s5 : SM) => (if (vX4_lives s5 L0 P0 a2) = 0 then s5 else (mX4_scratch s5 L0 P0 a2 (vX6_dotOn s5 P0 (gI s5 (L0 + 4) (a1).toNatClampNeg))))) (pI s (L0 + 7) (a2).toNatClampNeg ((gI s (L0 + 7) (a2).toNatClampNeg) + (gI s (P0 + 5) ((gI s (L0 + 4) (a1).toNatClampNeg)).toNatClampNeg)))))
set_option maxRecDepth 1000000 in
def rX4_takeOff (s : SM) (L0 P0 : Nat) (a1 : Int32) (a2 : Int32) : Prop := (¬ a2 = (-1 : Int32) → vp_in a2 9 ∧ vp_in a1 60 ∧ vp_in (gI s (L0 + 4) (a1).toNatClampNeg) 6 ∧ vp_in a2 9 ∧ (∀ s5, s5 = (pI s (L0 + 7) (a2).toNatClampNeg ((gI s (L0 + 7) (a2).toNatClampNeg) + (gI s (P0 + 5) ((gI s (L0 + 4) (a1).toNatClampNeg)).toNatClampNeg))) → (¬ (vX4_lives s5 L0 P0 a2) = 0 → vp_in a1 60 ∧ rX6_dotOn s5 P0 (gI s5 (L0 + 4) (a1).toNatClampNeg) ∧ rX4_scratch s5 L0 P0 a2 (vX6_dotOn s5 P0 (gI s5 (L0 + 4) (a1).toNatClampNeg)))))
set_option maxRecDepth 1000000 in
noncomputable def tX4_tryBury_37 (K : (SM → Nat → Nat → Int32 → Int32 → Int32 → Int32 × SM)) (s : SM) (L0 : Nat) (P0 : Nat) (a1 : Int32) (a2 : Int32) (a3 : Int32) : Int32 × SM := (if (gI s L0 9) ≤ a3 then ((0 : Int32), s) else (if (vX4_isOpen s L0 P0 a3) = 0 then (K s L0 P0 a1 a2 (a3 + 1)) else (if (gI s (L0 + 1) (a3).toNatClampNeg) = a1 then (if (gI (pI s (L0 + 1) (a3).toNatClampNeg a2) (L0 + 2) (a3).toNatClampNeg) = a1 then ((fun (s37 : SM) => (K s37 L0 P0 a1 a2 (a3 + 1))) (pI (pI (pI s (L0 + 1) (a3).toNatClampNeg a2) (L0 + 2) (a3).toNatClampNeg a2) (L0 + 6) (a3).toNatClampNeg (if (gI (pI (pI s (L0 + 1) (a3).toNatClampNeg a2) (L0 + 2) (a3).toNatClampNeg a2) (L0 + 1) (a3).toNatClampNeg) = (gI (pI (pI s (L0 + 1) (a3).toNatClampNeg a2) (L0 + 2) (a3).toNatClampNeg a2) (L0 + 2) (a3).toNatClampNeg) then (2 : Int32) else (0 : Int32)))) else ((fun (s26 : SM) => ((fun (s30 : SM) => (K s30 L0 P0 a1 a2 (a3 + 1))) (pI s26 (L0 + 6) (a3).toNatClampNeg (if (gI s26 (L0 + 1) (a3).toNatClampNeg) = (gI s26 (L0 + 2) (a3).toNatClampNeg) then (2 : Int32) else (0 : Int32))))) (pI (pI s (L0 + 1) (a3).toNatClampNeg a2) (L0 + 2) (a3).toNatClampNeg (gI (pI s (L0 + 1) (a3).toNatClampNeg a2) (L0 + 2) (a3).toNatClampNeg)))) else (if (gI (pI s (L0 + 1) (a3).toNatClampNeg (gI s (L0 + 1) (a3).toNatClampNeg)) (L0 + 2) (a3).toNatClampNeg) = a1 then ((fun (s18 : SM) => (K s18 L0 P0 a1 a2 (a3 + 1))) (pI (pI (pI s (L0 + 1) (a3).toNatClampNeg (gI s (L0 + 1) (a3).toNatClampNeg)) (L0 + 2) (a3).toNatClampNeg a2) (L0 + 6) (a3).toNatClampNeg (if (gI (pI (pI s (L0 + 1) (a3).toNatClampNeg (gI s (L0 + 1) (a3).toNatClampNeg)) (L0 + 2) (a3).toNatClampNeg a2) (L0 + 1) (a3).toNatClampNeg) = (gI (pI (pI s (L0 + 1) (a3).toNatClampNeg (gI s (L0 + 1) (a3).toNatClampNeg)) (L0 + 2) (a3).toNatClampNeg a2) (L0 + 2) (a3).toNatClampNeg) then (2 : Int32) else (0 : Int32)))) else ((fun (s7 : SM) => ((fun (s11 : SM) => (K s11 L0 P0 a1 a2 (a3 + 1))) (pI s7 (L0 + 6) (a3).toNatClampNeg (if (gI s7 (L0 + 1) (a3).toNatClampNeg) = (gI s7 (L0 + 2) (a3).toNatClampNeg) then (2 : Int32) else (0 : Int32))))) (pI (pI s (L0 + 1) (a3).toNatClampNeg (gI s (L0 + 1) (a3).toNatClampNeg)) (L0 + 2) (a3).toNatClampNeg (gI (pI s (L0 + 1) (a3).toNatClampNeg (gI s (L0 + 1) (a3).toNatClampNeg)) (L0 + 2) (a3).toNatClampNeg)))))))
set_option maxRecDepth 1000000 in
def uX4_tryBury_37 (K : (SM → Nat → Nat → Int32 → Int32 → Int32 → Prop)) (s : SM) (L0 : Nat) (P0 : Nat) (a1 : Int32) (a2 : Int32) (a3 : Int32) : Prop := (¬ (gI s L0 9) ≤ a3 → rX4_isOpen s L0 P0 a3 ∧ (((vX4_isOpen s L0 P0 a3) = 0 → K s L0 P0 a1 a2 (a3 + 1)) ∧ (¬ (vX4_isOpen s L0 P0 a3) = 0 → vp_in a3 60 ∧ ((¬ (gI s (L0 + 1) (a3).toNatClampNeg) = a1 → vp_in a3 60 ∧ vp_in a3 60 ∧ vp_in a3 60 ∧ ((¬ (gI (pI s (L0 + 1) (a3).toNatClampNeg (gI s (L0 + 1) (a3).toNatClampNeg)) (L0 + 2) (a3).toNatClampNeg) = a1 → vp_in a3 60 ∧ vp_in a3 60 ∧ (∀ s7, s7 = (pI (pI s (L0 + 1) (a3).toNatClampNeg (gI s (L0 + 1) (a3).toNatClampNeg)) (L0 + 2) (a3).toNatClampNeg (gI (pI s (L0 + 1) (a3).toNatClampNeg (gI s (L0 + 1) (a3).toNatClampNeg)) (L0 + 2) (a3).toNatClampNeg)) → vp_in a3 60 ∧ vp_in a3 60 ∧ vp_in a3 60 ∧ (∀ s11, s11 = (pI s7 (L0 + 6) (a3).toNatClampNeg (if (gI s7 (L0 + 1) (a3).toNatClampNeg) = (gI s7 (L0 + 2) (a3).toNatClampNeg) then (2 : Int32) else (0 : Int32))) → K s11 L0 P0 a1 a2 (a3 + 1)))) ∧ ((gI (pI s (L0 + 1) (a3).toNatClampNeg (gI s (L0 + 1) (a3).toNatClampNeg)) (L0 + 2) (a3).toNatClampNeg) = a1 → vp_in a3 60 ∧ vp_in a3 60 ∧ vp_in a3 60 ∧ vp_in a3 60 ∧ (∀ s18, s18 = (pI (pI (pI s (L0 + 1) (a3).toNatClampNeg (gI s (L0 + 1) (a3).toNatClampNeg)) (L0 + 2) (a3).toNatClampNeg a2) (L0 + 6) (a3).toNatClampNeg (if (gI (pI (pI s (L0 + 1) (a3).toNatClampNeg (gI s (L0 + 1) (a3).toNatClampNeg)) (L0 + 2) (a3).toNatClampNeg a2) (L0 + 1) (a3).toNatClampNeg) = (gI (pI (pI s (L0 + 1) (a3).toNatClampNeg (gI s (L0 + 1) (a3).toNatClampNeg)) (L0 + 2) (a3).toNatClampNeg a2) (L0 + 2) (a3).toNatClampNeg) then (2 : Int32) else (0 : Int32))) → K s18 L0 P0 a1 a2 (a3 + 1))))) ∧ ((gI s (L0 + 1) (a3).toNatClampNeg) = a1 → vp_in a3 60 ∧ vp_in a3 60 ∧ ((¬ (gI (pI s (L0 + 1) (a3).toNatClampNeg a2) (L0 + 2) (a3).toNatClampNeg) = a1 → vp_in a3 60 ∧ vp_in a3 60 ∧ (∀ s26, s26 = (pI (pI s (L0 + 1) (a3).toNatClampNeg a2) (L0 + 2) (a3).toNatClampNeg (gI (pI s (L0 + 1) (a3).toNatClampNeg a2) (L0 + 2) (a3).toNatClampNeg)) → vp_in a3 60 ∧ vp_in a3 60 ∧ vp_in a3 60 ∧ (∀ s30, s30 = (pI s26 (L0 + 6) (a3).toNatClampNeg (if (gI s26 (L0 + 1) (a3).toNatClampNeg) = (gI s26 (L0 + 2) (a3).toNatClampNeg) then (2 : Int32) else (0 : Int32))) → K s30 L0 P0 a1 a2 (a3 + 1)))) ∧ ((gI (pI s (L0 + 1) (a3).toNatClampNeg a2) (L0 + 2) (a3).toNatClampNeg) = a1 → vp_in a3 60 ∧ vp_in a3 60 ∧ vp_in a3 60 ∧ vp_in a3 60 ∧ (∀ s37, s37 = (pI (pI (pI s (L0 + 1) (a3).toNatClampNeg a2) (L0 + 2) (a3).toNatClampNeg a2) (L0 + 6) (a3).toNatClampNeg (if (gI (pI (pI s (L0 + 1) (a3).toNatClampNeg a2) (L0 + 2) (a3).toNatClampNeg a2) (L0 + 1) (a3).toNatClampNeg) = (gI (pI (pI s (L0 + 1) (a3).toNatClampNeg a2) (L0 + 2) (a3).toNatClampNeg a2) (L0 + 2) (a3).toNatClampNeg) then (2 : Int32) else (0 : Int32))) → K s37 L0 P0 a1 a2 (a3 + 1)))))))))
set_option maxRecDepth 1000000 in
noncomputable def lX4_tryBury : Nat → (SM → Nat → Nat → Int32 → Int32 → Int32 → Int32 × SM)
  | 0 => fun (s : SM) (L0 : Nat) (P0 : Nat) (a1 : Int32) (a2 : Int32) (a3 : Int32) => (0, s)
  | n + 1 => tX4_tryBury_37 (lX4_tryBury n)
set_option maxRecDepth 1000000 in
def qX4_tryBury : Nat → (SM → Nat → Nat → Int32 → Int32 → Int32 → Prop)
  | 0 => fun (s : SM) (L0 : Nat) (P0 : Nat) (a1 : Int32) (a2 : Int32) (a3 : Int32) => False
  | n + 1 => uX4_tryBury_37 (qX4_tryBury n)
set_option maxRecDepth 1000000 in
noncomputable def fX4_tryBury (s : SM) (L0 P0 : Nat) (a1 : Int32) (a2 : Int32) : Int32 × SM := (if a1 = a2 then ((1 : Int32), s) else (if (vX4_lives s L0 P0 a1) = 0 then ((1 : Int32), s) else (if (vX4_lives s L0 P0 a2) = 0 then ((1 : Int32), s) else ((lX4_tryBury FU) (pI s L0 14 ((gI s L0 14) ||| ((1 : Int32) <<< (a1 &&& 31)))) L0 P0 a1 a2 (0 : Int32)))))
set_option maxRecDepth 1000000 in
noncomputable def vX4_tryBury (s : SM) (L0 P0 : Nat) (a1 : Int32) (a2 : Int32) : Int32 := fX4_tryBury s L0 P0 a1 a2 |>.1
set_option maxRecDepth 1000000 in
noncomputable def mX4_tryBury (s : SM) (L0 P0 : Nat) (a1 : Int32) (a2 : Int32) : SM := fX4_tryBury s L0 P0 a1 a2 |>.2
set_option maxRecDepth 1000000 in
def rX4_tryBury (s : SM) (L0 P0 : Nat) (a1 : Int32) (a2 : Int32) : Prop := (¬ a1 = a2 → (¬ (vX4_lives s L0 P0 a1) = 0 → (¬ (vX4_lives s L0 P0 a2) = 0 → (qX4_tryBury FU) (pI s L0 14 ((gI s L0 14) ||| ((1 : Int32) <<< (a1 &&& 31)))) L0 P0 a1 a2 (0 : Int32))))
set_option maxRecDepth 1000000 in
noncomputable def tX5_isTold_31 (K : (SM → Nat → Int32 → Int32 → Int32)) (s : SM) (p1 : Nat) (a2 : Int32) (a3 : Int32) : Int32 := (if ((3 : Int32) * a2) ≤ a3 then (1 : Int32) else (if (vX6_hasDealers s p1 (vX9_byteOr s a3 (-1 : Int32)) (vX9_byteOr s (a3 + (1 : Int32)) (-1 : Int32)) (vX9_byteOr s (a3 + (2 : Int32)) (-1 : Int32))) = 0 then (0 : Int32) else (K s p1 a2 (a3 + 3))))
set_option maxRecDepth 1000000 in
def uX5_isTold_31 (K : (SM → Nat → Int32 → Int32 → Prop)) (s : SM) (p1 : Nat) (a2 : Int32) (a3 : Int32) : Prop := (¬ ((3 : Int32) * a2) ≤ a3 → rX9_byteOr s a3 (-1 : Int32) ∧ rX9_byteOr s (a3 + (1 : Int32)) (-1 : Int32) ∧ rX9_byteOr s (a3 + (2 : Int32)) (-1 : Int32) ∧ (¬ (vX6_hasDealers s p1 (vX9_byteOr s a3 (-1 : Int32)) (vX9_byteOr s (a3 + (1 : Int32)) (-1 : Int32)) (vX9_byteOr s (a3 + (2 : Int32)) (-1 : Int32))) = 0 → K s p1 a2 (a3 + 3)))
set_option maxRecDepth 1000000 in
noncomputable def lX5_isTold : Nat → (SM → Nat → Int32 → Int32 → Int32)
  | 0 => fun (s : SM) (p1 : Nat) (a2 : Int32) (a3 : Int32) => 0
  | n + 1 => tX5_isTold_31 (lX5_isTold n)
set_option maxRecDepth 1000000 in
def qX5_isTold : Nat → (SM → Nat → Int32 → Int32 → Prop)
  | 0 => fun (s : SM) (p1 : Nat) (a2 : Int32) (a3 : Int32) => False
  | n + 1 => uX5_isTold_31 (qX5_isTold n)
set_option maxRecDepth 1000000 in
noncomputable def fX5_isTold (s : SM) (p1 : Nat) : Int32 := (if ((gI s 3 1) - (gI s 3 1) / (3 : Int32) * (3 : Int32)) = 0 then (if ((gI s 3 1) / (3 : Int32)) < (1 : Int32) then (0 : Int32) else (if ((gI s 3 1) / (3 : Int32)) ≤ (6 : Int32) then ((lX5_isTold FU) s p1 ((gI s 3 1) / (3 : Int32)) (0 : Int32)) else (0 : Int32))) else (0 : Int32))
set_option maxRecDepth 1000000 in
noncomputable def vX5_isTold (s : SM) (p1 : Nat) : Int32 := fX5_isTold s p1
set_option maxRecDepth 1000000 in
def rX5_isTold (s : SM) (p1 : Nat) : Prop := (((gI s 3 1) - (gI s 3 1) / (3 : Int32) * (3 : Int32)) = 0 → (¬ ((gI s 3 1) / (3 : Int32)) < (1 : Int32) → (((gI s 3 1) / (3 : Int32)) ≤ (6 : Int32) → (qX5_isTold FU) s p1 ((gI s 3 1) / (3 : Int32)) (0 : Int32))))
set_option maxRecDepth 1000000 in
noncomputable def vX7_mayBeIn (s : SM) (a1 : Int32) : Int32 := (if (vX4_isOpen s (gDx s 0) (rfx (gDx s 0) 8) a1) = 0 then (0 : Int32) else (if (vX6_isForRings s (rfx (gDx s 0) 8) (gI s ((gDx s 0) + 4) (a1).toNatClampNeg)) = 0 then (0 : Int32) else (1 : Int32)))
set_option maxRecDepth 1000000 in
def rX7_mayBeIn (s : SM) (a1 : Int32) : Prop := gD s 0 = some (gDx s 0) ∧ ((gDx s 0), rfx (gDx s 0) 8) ∈ LX ∧ rX4_isOpen s (gDx s 0) (rfx (gDx s 0) 8) a1 ∧ (¬ (vX4_isOpen s (gDx s 0) (rfx (gDx s 0) 8) a1) = 0 → gD s 0 = some (gDx s 0) ∧ ((gDx s 0), rfx (gDx s 0) 8) ∈ LX ∧ gD s 0 = some (gDx s 0) ∧ ((gDx s 0), rfx (gDx s 0) 8) ∈ LX ∧ vp_in a1 60 ∧ rX6_isForRings s (rfx (gDx s 0) 8) (gI s ((gDx s 0) + 4) (a1).toNatClampNeg))
set_option maxRecDepth 1000000 in
noncomputable def tX9_nextToken_0 (K : (SM → SM) × (SM → SM) × (SM → SM)) (s : SM)  : SM := (if (gI s 3 1) ≤ (gI s 3 7) then (K.2.1 s ) else (if (vX9_isBlank s (vX9_byteOr s (gI s 3 7) (0 : Int32))) = 0 then (K.2.1 s ) else (K.1 (pI s 3 7 ((gI s 3 7) + (1 : Int32))) )))
set_option maxRecDepth 1000000 in
def uX9_nextToken_0 (K : (SM → Prop) × (SM → Prop) × (SM → Prop)) (s : SM)  : Prop := (((gI s 3 1) ≤ (gI s 3 7) → K.2.1 s ) ∧ (¬ (gI s 3 1) ≤ (gI s 3 7) → rX9_byteOr s (gI s 3 7) (0 : Int32) ∧ (((vX9_isBlank s (vX9_byteOr s (gI s 3 7) (0 : Int32))) = 0 → K.2.1 s ) ∧ (¬ (vX9_isBlank s (vX9_byteOr s (gI s 3 7) (0 : Int32))) = 0 → K.1 (pI s 3 7 ((gI s 3 7) + (1 : Int32))) ))))
set_option maxRecDepth 1000000 in
noncomputable def tX9_nextToken_39 (K : (SM → SM) × (SM → SM) × (SM → SM)) (s : SM)  : SM := (if (gI (pI s 3 8 (gI s 3 7)) 3 1) ≤ (gI (pI s 3 8 (gI s 3 7)) 3 7) then (K.2.2 (pI s 3 8 (gI s 3 7)) ) else (if (gI (pI s 3 8 (gI s 3 7)) 3 7) < (600 : Int32) then (if (vX9_isLetter (pI s 3 8 (gI s 3 7)) (vX9_byteOr (pI s 3 8 (gI s 3 7)) (gI (pI s 3 8 (gI s 3 7)) 3 7) (0 : Int32))) = 0 then (if (vX9_isDigit (pI s 3 8 (gI s 3 7)) (vX9_byteOr (pI s 3 8 (gI s 3 7)) (gI (pI s 3 8 (gI s 3 7)) 3 7) (0 : Int32))) = 0 then ((fun (s2 : SM) => (pI s2 3 7 ((gI s2 3 7) + (1 : Int32)))) (pI (pI s 3 8 (gI s 3 7)) 3 9 (if (vX9_byteOr (pI s 3 8 (gI s 3 7)) (gI (pI s 3 8 (gI s 3 7)) 3 7) (0 : Int32)) = (59 : Int32) then (3 : Int32) else (4 : Int32)))) else (mX9_readRun (pI s 3 8 (gI s 3 7)) )) else (mX9_readRun (pI s 3 8 (gI s 3 7)) )) else (K.2.2 (pI s 3 8 (gI s 3 7)) )))
set_option maxRecDepth 1000000 in
def uX9_nextToken_39 (K : (SM → Prop) × (SM → Prop) × (SM → Prop)) (s : SM)  : Prop := (((gI (pI s 3 8 (gI s 3 7)) 3 1) ≤ (gI (pI s 3 8 (gI s 3 7)) 3 7) → K.2.2 (pI s 3 8 (gI s 3 7)) ) ∧ (¬ (gI (pI s 3 8 (gI s 3 7)) 3 1) ≤ (gI (pI s 3 8 (gI s 3 7)) 3 7) → (((gI (pI s 3 8 (gI s 3 7)) 3 7) < (600 : Int32) → rX9_byteOr (pI s 3 8 (gI s 3 7)) (gI (pI s 3 8 (gI s 3 7)) 3 7) (0 : Int32) ∧ ((¬ (vX9_isLetter (pI s 3 8 (gI s 3 7)) (vX9_byteOr (pI s 3 8 (gI s 3 7)) (gI (pI s 3 8 (gI s 3 7)) 3 7) (0 : Int32))) = 0 → rX9_readRun (pI s 3 8 (gI s 3 7)) ) ∧ ((vX9_isLetter (pI s 3 8 (gI s 3 7)) (vX9_byteOr (pI s 3 8 (gI s 3 7)) (gI (pI s 3 8 (gI s 3 7)) 3 7) (0 : Int32))) = 0 → (¬ (vX9_isDigit (pI s 3 8 (gI s 3 7)) (vX9_byteOr (pI s 3 8 (gI s 3 7)) (gI (pI s 3 8 (gI s 3 7)) 3 7) (0 : Int32))) = 0 → rX9_readRun (pI s 3 8 (gI s 3 7)) )))) ∧ (¬ (gI (pI s 3 8 (gI s 3 7)) 3 7) < (600 : Int32) → K.2.2 (pI s 3 8 (gI s 3 7)) ))))
set_option maxRecDepth 1000000 in
noncomputable def tX9_nextToken_68 (K : (SM → SM) × (SM → SM) × (SM → SM)) (s : SM)  : SM := (pI (pI s 3 8 (if (600 : Int32) < (gI s 3 1) then (600 : Int32) else (gI s 3 1))) 3 9 (0 : Int32))
set_option maxRecDepth 1000000 in
def uX9_nextToken_68 (K : (SM → Prop) × (SM → Prop) × (SM → Prop)) (s : SM)  : Prop := True
set_option maxRecDepth 1000000 in
noncomputable def lX9_nextToken : Nat → (SM → SM) × (SM → SM) × (SM → SM)
  | 0 => (fun (s : SM)  => s, fun (s : SM)  => s, fun (s : SM)  => s)
  | n + 1 => (tX9_nextToken_0 (lX9_nextToken n), tX9_nextToken_39 (lX9_nextToken n), tX9_nextToken_68 (lX9_nextToken n))
set_option maxRecDepth 1000000 in
def qX9_nextToken : Nat → (SM → Prop) × (SM → Prop) × (SM → Prop)
  | 0 => (fun (s : SM)  => False, fun (s : SM)  => False, fun (s : SM)  => False)
  | n + 1 => (uX9_nextToken_0 (qX9_nextToken n), uX9_nextToken_39 (qX9_nextToken n), uX9_nextToken_68 (qX9_nextToken n))
set_option maxRecDepth 1000000 in
noncomputable def fX9_nextToken (s : SM)  : SM := ((lX9_nextToken FU).1 s )
set_option maxRecDepth 1000000 in
noncomputable def mX9_nextToken (s : SM)  : SM := fX9_nextToken s 
set_option maxRecDepth 1000000 in
def rX9_nextToken (s : SM)  : Prop := (qX9_nextToken FU).1 s 
set_option maxRecDepth 1000000 in
noncomputable def tX0_readSide_30 (K : (SM → Nat → Int32 × SM)) (s : SM) (k0 : Nat) : Int32 × SM := ((fun (s2 : SM) => ((1 : Int32), s2)) (pI s (k0 + 3) ((gI s k0 0)).toNatClampNeg (if (vX9_says s (109342978500980 : Int64)) = 0 then (1 : Int32) else (0 : Int32))))
set_option maxRecDepth 1000000 in
def uX0_readSide_30 (K : (SM → Nat → Prop)) (s : SM) (k0 : Nat) : Prop := vp_in (gI s k0 0) 40
set_option maxRecDepth 1000000 in
noncomputable def lX0_readSide : Nat → (SM → Nat → Int32 × SM)
  | 0 => fun (s : SM) (k0 : Nat) => (0, s)
  | n + 1 => tX0_readSide_30 (lX0_readSide n)
set_option maxRecDepth 1000000 in
def qX0_readSide : Nat → (SM → Nat → Prop)
  | 0 => fun (s : SM) (k0 : Nat) => False
  | n + 1 => uX0_readSide_30 (qX0_readSide n)
set_option maxRecDepth 1000000 in
noncomputable def fX0_readSide (s : SM) (k0 : Nat) : Int32 × SM := (if (vX9_says (mX9_nextToken s ) (109342978500980 : Int64)) = 0 then (if (vX9_says (mX9_nextToken s ) (1684365940 : Int64)) = 0 then ((vX9_refuse (mX9_nextToken s ) (1 : Int32)), (mX9_refuse (mX9_nextToken s ) (1 : Int32))) else ((lX0_readSide FU) (mX9_nextToken s ) k0)) else ((lX0_readSide FU) (mX9_nextToken s ) k0))
set_option maxRecDepth 1000000 in
noncomputable def vX0_readSide (s : SM) (k0 : Nat) : Int32 := fX0_readSide s k0 |>.1
set_option maxRecDepth 1000000 in
noncomputable def mX0_readSide (s : SM) (k0 : Nat) : SM := fX0_readSide s k0 |>.2
set_option maxRecDepth 1000000 in
def rX0_readSide (s : SM) (k0 : Nat) : Prop := rX9_nextToken s  ∧ ((¬ (vX9_says (mX9_nextToken s ) (109342978500980 : Int64)) = 0 → (qX0_readSide FU) (mX9_nextToken s ) k0) ∧ ((vX9_says (mX9_nextToken s ) (109342978500980 : Int64)) = 0 → (¬ (vX9_says (mX9_nextToken s ) (1684365940 : Int64)) = 0 → (qX0_readSide FU) (mX9_nextToken s ) k0)))
set_option maxRecDepth 1000000 in
noncomputable def vX11_body (s : SM) (a1 : Int32) (a2 : Int32) : Option Int32 := (if (vX6_hasBody s 5 a1) = 0 then none else (if a2 = 0 then (some (gI s 7 (a1).toNatClampNeg)) else (if a2 = 1 then (some (gI s 8 (a1).toNatClampNeg)) else (if a2 = 2 then (some (if (vX4_lives s 31 5 a1) = 0 then (0 : Int32) else (1 : Int32))) else (if a2 = 3 then (some (gI s 38 (a1).toNatClampNeg)) else (if a2 = 4 then (some (vX4_netOf s 31 5 a1)) else (if a2 = 5 then (some (vX4_marksOn s 31 5 a1 (99 : Int32))) else (if a2 = 6 then (some (gI s 39 (a1).toNatClampNeg)) else none))))))))
set_option maxRecDepth 1000000 in
def rX11_body (s : SM) (a1 : Int32) (a2 : Int32) : Prop := (¬ (vX6_hasBody s 5 a1) = 0 → ((a2 = 0 → vp_in a1 9) ∧ (a2 = 1 → vp_in a1 9) ∧ (a2 = 3 → vp_in a1 9) ∧ (a2 = 4 → rX4_netOf s 31 5 a1) ∧ (a2 = 5 → rX4_marksOn s 31 5 a1 (99 : Int32)) ∧ (a2 = 6 → vp_in a1 9)))
set_option maxRecDepth 1000000 in
noncomputable def tX11_chain_31 (K : (SM → Int32 → Int32 → Int32 → Int32 → Int32)) (s : SM) (a1 : Int32) (a2 : Int32) (a3 : Int32) (a4 : Int32) : Int32 := (if (9 : Int32) ≤ a4 then (-1 : Int32) else (if (vX11_isIn s a2 a3) = 0 then (K s a1 a2 (a3 ||| (vX4_lendersTo s 31 5 a3)) (a4 + 1)) else a4))
set_option maxRecDepth 1000000 in
def uX11_chain_31 (K : (SM → Int32 → Int32 → Int32 → Int32 → Prop)) (s : SM) (a1 : Int32) (a2 : Int32) (a3 : Int32) (a4 : Int32) : Prop := (¬ (9 : Int32) ≤ a4 → ((vX11_isIn s a2 a3) = 0 → rX4_lendersTo s 31 5 a3 ∧ K s a1 a2 (a3 ||| (vX4_lendersTo s 31 5 a3)) (a4 + 1)))
set_option maxRecDepth 1000000 in
noncomputable def lX11_chain : Nat → (SM → Int32 → Int32 → Int32 → Int32 → Int32)
  | 0 => fun (s : SM) (a1 : Int32) (a2 : Int32) (a3 : Int32) (a4 : Int32) => 0
  | n + 1 => tX11_chain_31 (lX11_chain n)
set_option maxRecDepth 1000000 in
def qX11_chain : Nat → (SM → Int32 → Int32 → Int32 → Int32 → Prop)
  | 0 => fun (s : SM) (a1 : Int32) (a2 : Int32) (a3 : Int32) (a4 : Int32) => False
  | n + 1 => uX11_chain_31 (qX11_chain n)
set_option maxRecDepth 1000000 in
noncomputable def fX11_chain (s : SM) (a1 : Int32) (a2 : Int32) : Int32 := (if (vX6_hasBody s 5 a1) = 0 then (-1 : Int32) else (if (vX6_hasBody s 5 a2) = 0 then (-1 : Int32) else ((lX11_chain FU) s a1 a2 ((1 : Int32) <<< (a1 &&& 31)) (0 : Int32))))
set_option maxRecDepth 1000000 in
noncomputable def vX11_chain (s : SM) (a1 : Int32) (a2 : Int32) : Int32 := fX11_chain s a1 a2
set_option maxRecDepth 1000000 in
def rX11_chain (s : SM) (a1 : Int32) (a2 : Int32) : Prop := (¬ (vX6_hasBody s 5 a1) = 0 → (¬ (vX6_hasBody s 5 a2) = 0 → (qX11_chain FU) s a1 a2 ((1 : Int32) <<< (a1 &&& 31)) (0 : Int32)))
set_option maxRecDepth 1000000 in
noncomputable def vX11_count (s : SM) (a1 : Int32) : Int32 := (if a1 = 0 then (gI s 5 6) else (if a1 = 1 then (gI s 5 7) else (if a1 = 2 then (gI s 5 8) else (if a1 = 3 then (gI s 5 9) else (if a1 = 4 then (gI s 31 9) else (if a1 = 5 then (vX4_openDeals s 31 5) else (if a1 = 6 then (gI s 31 10) else (if a1 = 7 then (gI s 19 0) else (if a1 = 8 then (gI s 3 1) else (-1 : Int32))))))))))
set_option maxRecDepth 1000000 in
def rX11_count (s : SM) (a1 : Int32) : Prop := (a1 = 5 → rX4_openDeals s 31 5)
set_option maxRecDepth 1000000 in
noncomputable def vX11_dies (s : SM) (a1 : Int32) (a2 : Int32) : Int32 := (if (vX6_hasBody s 5 a1) = 0 then (-1 : Int32) else (if (vX6_hasBody s 5 a2) = 0 then (-1 : Int32) else (if (vX4_tryBury (mX2_note s 31 5) 31 5 a1 a2) = 0 then (vX4_openFor (mX2_note s 31 5) 31 5 a1 a2) else ((-10 : Int32) - (vX4_tryBury (mX2_note s 31 5) 31 5 a1 a2)))))
set_option maxRecDepth 1000000 in
noncomputable def mX11_dies (s : SM) (a1 : Int32) (a2 : Int32) : SM := (if (vX6_hasBody s 5 a1) = 0 then s else (if (vX6_hasBody s 5 a2) = 0 then s else (if (vX4_tryBury (mX2_note s 31 5) 31 5 a1 a2) = 0 then (mX2_keepNoted (mX4_tryBury (mX2_note s 31 5) 31 5 a1 a2) ) else (mX4_tryBury (mX2_note s 31 5) 31 5 a1 a2))))
set_option maxRecDepth 1000000 in
def rX11_dies (s : SM) (a1 : Int32) (a2 : Int32) : Prop := (¬ (vX6_hasBody s 5 a1) = 0 → (¬ (vX6_hasBody s 5 a2) = 0 → rX2_note s 31 5 ∧ rX4_openFor (mX2_note s 31 5) 31 5 a1 a2 ∧ rX4_tryBury (mX2_note s 31 5) 31 5 a1 a2))
set_option maxRecDepth 1000000 in
noncomputable def tX11_greatest_8 (K : (SM → Int32 → Int32 → Int32)) (s : SM) (a1 : Int32) (a2 : Int32) : Int32 := (if (gI s 31 9) ≤ a2 then (-1 : Int32) else (if (vX4_isOpen s 31 5 a2) = 0 then (K s a1 (a2 + 1)) else (if (vX4_openAhead s 31 5 a2) = a1 then a2 else (K s a1 (a2 + 1)))))
set_option maxRecDepth 1000000 in
def uX11_greatest_8 (K : (SM → Int32 → Int32 → Prop)) (s : SM) (a1 : Int32) (a2 : Int32) : Prop := (¬ (gI s 31 9) ≤ a2 → rX4_isOpen s 31 5 a2 ∧ (((vX4_isOpen s 31 5 a2) = 0 → K s a1 (a2 + 1)) ∧ (¬ (vX4_isOpen s 31 5 a2) = 0 → rX4_openAhead s 31 5 a2 ∧ (¬ (vX4_openAhead s 31 5 a2) = a1 → K s a1 (a2 + 1)))))
set_option maxRecDepth 1000000 in
noncomputable def lX11_greatest : Nat → (SM → Int32 → Int32 → Int32)
  | 0 => fun (s : SM) (a1 : Int32) (a2 : Int32) => 0
  | n + 1 => tX11_greatest_8 (lX11_greatest n)
set_option maxRecDepth 1000000 in
def qX11_greatest : Nat → (SM → Int32 → Int32 → Prop)
  | 0 => fun (s : SM) (a1 : Int32) (a2 : Int32) => False
  | n + 1 => uX11_greatest_8 (qX11_greatest n)
set_option maxRecDepth 1000000 in
noncomputable def fX11_greatest (s : SM) (a1 : Int32) : Int32 := (if 0 ≤ a1 then ((lX11_greatest FU) s a1 (0 : Int32)) else (-1 : Int32))
set_option maxRecDepth 1000000 in
noncomputable def vX11_greatest (s : SM) (a1 : Int32) : Int32 := fX11_greatest s a1
set_option maxRecDepth 1000000 in
def rX11_greatest (s : SM) (a1 : Int32) : Prop := (0 ≤ a1 → (qX11_greatest FU) s a1 (0 : Int32))
set_option maxRecDepth 1000000 in
noncomputable def vX11_image (s : SM) (a1 : Int32) : Int32 := (if a1 < 0 then (0 : Int32) else (if a1 < (2 : Int32) then (1 : Int32) else (0 : Int32)))
set_option maxRecDepth 1000000 in
noncomputable def mX11_image (s : SM) (a1 : Int32) : SM := (if a1 < 0 then s else (if a1 < (2 : Int32) then ((fun (s4 : SM) => s4) (mX3_keep s (rfx 165 (a1).toNatClampNeg) (rfx (rfx 165 (a1).toNatClampNeg) 1) (rfx (rfx 165 (a1).toNatClampNeg) 2) (rfx (rfx 165 (a1).toNatClampNeg) 3) 5 31 5 19)) else s))
set_option maxRecDepth 1000000 in
def rX11_image (s : SM) (a1 : Int32) : Prop := (¬ a1 < 0 → (a1 < (2 : Int32) → vp_in a1 2 ∧ RF 165 (a1).toNatClampNeg = some (rfx 165 (a1).toNatClampNeg) ∧ ((rfx 165 (a1).toNatClampNeg), rfx (rfx 165 (a1).toNatClampNeg) 1, rfx (rfx 165 (a1).toNatClampNeg) 2, rfx (rfx 165 (a1).toNatClampNeg) 3) ∈ IX ∧ rX3_keep s (rfx 165 (a1).toNatClampNeg) (rfx (rfx 165 (a1).toNatClampNeg) 1) (rfx (rfx 165 (a1).toNatClampNeg) 2) (rfx (rfx 165 (a1).toNatClampNeg) 3) 5 31 5 19))
set_option maxRecDepth 1000000 in
noncomputable def vX11_read (s : SM) (a1 : Int32) (a2 : Int32) : Int32 := (if (vX4_hasDeal s 31 5 a1) = 0 then (-1 : Int32) else (if (vX11_isSide s a2) = 0 then (-1 : Int32) else (if (vX4_bearer s 31 5 a1 a2) = (-1 : Int32) then (-1 : Int32) else (if (vX4_isReadable s 31 5 a1 a2) = 0 then (0 : Int32) else (1 : Int32)))))
set_option maxRecDepth 1000000 in
def rX11_read (s : SM) (a1 : Int32) (a2 : Int32) : Prop := (¬ (vX4_hasDeal s 31 5 a1) = 0 → (¬ (vX11_isSide s a2) = 0 → rX4_bearer s 31 5 a1 a2 ∧ (¬ (vX4_bearer s 31 5 a1 a2) = (-1 : Int32) → rX4_isReadable s 31 5 a1 a2)))
set_option maxRecDepth 1000000 in
noncomputable def vX11_restore (s : SM) (a1 : Int32) : Int32 := (if a1 < 0 then (0 : Int32) else (if (2 : Int32) ≤ a1 then (0 : Int32) else (if (gI s (rfx 165 (a1).toNatClampNeg) 0) = 0 then (0 : Int32) else (1 : Int32))))
set_option maxRecDepth 1000000 in
noncomputable def mX11_restore (s : SM) (a1 : Int32) : SM := (if a1 < 0 then s else (if (2 : Int32) ≤ a1 then s else (if (gI s (rfx 165 (a1).toNatClampNeg) 0) = 0 then s else ((fun (s7 : SM) => (mX2_forget s7 )) (mX3_bringBack s (rfx 165 (a1).toNatClampNeg) (rfx (rfx 165 (a1).toNatClampNeg) 1) (rfx (rfx 165 (a1).toNatClampNeg) 2) (rfx (rfx 165 (a1).toNatClampNeg) 3) 5 31 5 19)))))
set_option maxRecDepth 1000000 in
def rX11_restore (s : SM) (a1 : Int32) : Prop := (¬ a1 < 0 → (¬ (2 : Int32) ≤ a1 → vp_in a1 2 ∧ RF 165 (a1).toNatClampNeg = some (rfx 165 (a1).toNatClampNeg) ∧ ((rfx 165 (a1).toNatClampNeg), rfx (rfx 165 (a1).toNatClampNeg) 1, rfx (rfx 165 (a1).toNatClampNeg) 2, rfx (rfx 165 (a1).toNatClampNeg) 3) ∈ IX ∧ (¬ (gI s (rfx 165 (a1).toNatClampNeg) 0) = 0 → vp_in a1 2 ∧ RF 165 (a1).toNatClampNeg = some (rfx 165 (a1).toNatClampNeg) ∧ ((rfx 165 (a1).toNatClampNeg), rfx (rfx 165 (a1).toNatClampNeg) 1, rfx (rfx 165 (a1).toNatClampNeg) 2, rfx (rfx 165 (a1).toNatClampNeg) 3) ∈ IX ∧ rX3_bringBack s (rfx 165 (a1).toNatClampNeg) (rfx (rfx 165 (a1).toNatClampNeg) 1) (rfx (rfx 165 (a1).toNatClampNeg) 2) (rfx (rfx 165 (a1).toNatClampNeg) 3) 5 31 5 19)))
set_option maxRecDepth 1000000 in
noncomputable def tX11_skin_23 (K : (SM → Int32 → Int32 → Int32 × SM) × (SM → Int32 → Int32 → Int32 → Int32 × SM)) (s : SM) (a1 : Int32) (a2 : Int32) : Int32 × SM := (if (gI s 31 9) ≤ a2 then ((gI s 244 0), s) else (K.2 s a1 a2 (0 : Int32)))
set_option maxRecDepth 1000000 in
def uX11_skin_23 (K : (SM → Int32 → Int32 → Prop) × (SM → Int32 → Int32 → Int32 → Prop)) (s : SM) (a1 : Int32) (a2 : Int32) : Prop := (¬ (gI s 31 9) ≤ a2 → K.2 s a1 a2 (0 : Int32))
set_option maxRecDepth 1000000 in
noncomputable def tX11_skin_36 (K : (SM → Int32 → Int32 → Int32 × SM) × (SM → Int32 → Int32 → Int32 → Int32 × SM)) (s : SM) (a1 : Int32) (a2 : Int32) (a3 : Int32) : Int32 × SM := (if (1 : Int32) < a3 then (K.1 s a1 (a2 + 1)) else (if (vX4_bearer s 31 5 a2 a3) = a1 then (K.2 (mX11_addMark s a2 a3) a1 a2 (a3 + 1)) else (K.2 s a1 a2 (a3 + 1))))
set_option maxRecDepth 1000000 in
def uX11_skin_36 (K : (SM → Int32 → Int32 → Prop) × (SM → Int32 → Int32 → Int32 → Prop)) (s : SM) (a1 : Int32) (a2 : Int32) (a3 : Int32) : Prop := (((1 : Int32) < a3 → K.1 s a1 (a2 + 1)) ∧ (¬ (1 : Int32) < a3 → rX4_bearer s 31 5 a2 a3 ∧ ((¬ (vX4_bearer s 31 5 a2 a3) = a1 → K.2 s a1 a2 (a3 + 1)) ∧ ((vX4_bearer s 31 5 a2 a3) = a1 → rX11_addMark s a2 a3 ∧ K.2 (mX11_addMark s a2 a3) a1 a2 (a3 + 1)))))
set_option maxRecDepth 1000000 in
noncomputable def lX11_skin : Nat → (SM → Int32 → Int32 → Int32 × SM) × (SM → Int32 → Int32 → Int32 → Int32 × SM)
  | 0 => (fun (s : SM) (a1 : Int32) (a2 : Int32) => (0, s), fun (s : SM) (a1 : Int32) (a2 : Int32) (a3 : Int32) => (0, s))
  | n + 1 => (tX11_skin_23 (lX11_skin n), tX11_skin_36 (lX11_skin n))
set_option maxRecDepth 1000000 in
def qX11_skin : Nat → (SM → Int32 → Int32 → Prop) × (SM → Int32 → Int32 → Int32 → Prop)
  | 0 => (fun (s : SM) (a1 : Int32) (a2 : Int32) => False, fun (s : SM) (a1 : Int32) (a2 : Int32) (a3 : Int32) => False)
  | n + 1 => (uX11_skin_23 (qX11_skin n), uX11_skin_36 (qX11_skin n))
set_option maxRecDepth 1000000 in
noncomputable def fX11_skin (s : SM) (a1 : Int32) : Int32 × SM := (if (vX6_hasBody s 5 a1) = 0 then ((-1 : Int32), s) else ((lX11_skin FU).1 (pI s 244 0 (0 : Int32)) a1 (0 : Int32)))
set_option maxRecDepth 1000000 in
noncomputable def vX11_skin (s : SM) (a1 : Int32) : Int32 := fX11_skin s a1 |>.1
set_option maxRecDepth 1000000 in
noncomputable def mX11_skin (s : SM) (a1 : Int32) : SM := fX11_skin s a1 |>.2
set_option maxRecDepth 1000000 in
def rX11_skin (s : SM) (a1 : Int32) : Prop := (¬ (vX6_hasBody s 5 a1) = 0 → (qX11_skin FU).1 (pI s 244 0 (0 : Int32)) a1 (0 : Int32))
set_option maxRecDepth 1000000 in
noncomputable def vX11_undo (s : SM)  : Int32 := (vX2_takeBack s 31 5)
set_option maxRecDepth 1000000 in
noncomputable def mX11_undo (s : SM)  : SM := (mX2_takeBack s 31 5)
set_option maxRecDepth 1000000 in
def rX11_undo (s : SM)  : Prop := rX2_takeBack s 31 5
set_option maxRecDepth 1000000 in
noncomputable def vX11_year (s : SM)  : Int32 := (if (vX4_tryYear (mX2_note s 31 5) 31 5) = 0 then (gI (mX2_keepNoted (mX4_tryYear (mX2_note s 31 5) 31 5) ) 31 10) else (-1 : Int32))
set_option maxRecDepth 1000000 in
noncomputable def mX11_year (s : SM)  : SM := (if (vX4_tryYear (mX2_note s 31 5) 31 5) = 0 then (mX2_keepNoted (mX4_tryYear (mX2_note s 31 5) 31 5) ) else (mX4_tryYear (mX2_note s 31 5) 31 5))
set_option maxRecDepth 1000000 in
def rX11_year (s : SM)  : Prop := rX2_note s 31 5
set_option maxRecDepth 1000000 in
noncomputable def tX12_arePacked_2 (K : (SM → Int32 → Int32 → Int32 → Int32 × SM) × (SM → Int32 → Int32 → Int32 → Int32 × SM) × (SM → Int32 → Int32 → Int32 → Int32 × SM)) (s : SM) (a1 : Int32) (a2 : Int32) (a3 : Int32) : Int32 × SM := (if (gI s 250 ((0 : Int32)).toNatClampNeg) ≤ a3 then (K.2.1 s a1 a2 (0 : Int32)) else (K.1 (pI s 269 (a3).toNatClampNeg ((vX12_leftOf s a3) + (if a3 = a1 then a2 else (0 : Int32)))) a1 a2 (a3 + 1)))
set_option maxRecDepth 1000000 in
def uX12_arePacked_2 (K : (SM → Int32 → Int32 → Int32 → Prop) × (SM → Int32 → Int32 → Int32 → Prop) × (SM → Int32 → Int32 → Int32 → Prop)) (s : SM) (a1 : Int32) (a2 : Int32) (a3 : Int32) : Prop := (((gI s 250 ((0 : Int32)).toNatClampNeg) ≤ a3 → K.2.1 s a1 a2 (0 : Int32)) ∧ (¬ (gI s 250 ((0 : Int32)).toNatClampNeg) ≤ a3 → rX12_leftOf s a3 ∧ vp_in a3 9 ∧ K.1 (pI s 269 (a3).toNatClampNeg ((vX12_leftOf s a3) + (if a3 = a1 then a2 else (0 : Int32)))) a1 a2 (a3 + 1)))
set_option maxRecDepth 1000000 in
noncomputable def tX12_arePacked_42 (K : (SM → Int32 → Int32 → Int32 → Int32 × SM) × (SM → Int32 → Int32 → Int32 → Int32 × SM) × (SM → Int32 → Int32 → Int32 → Int32 × SM)) (s : SM) (a1 : Int32) (a2 : Int32) (a3 : Int32) : Int32 × SM := (if (gI s 248 45) ≤ a3 then (K.2.2 s a1 a2 (0 : Int32)) else (if (4 : Int32) ≤ (gI s 266 (a3).toNatClampNeg) then (K.2.1 s a1 a2 (a3 + 1)) else (if (vX12_packs s a3) = 0 then ((0 : Int32), (mX12_packs s a3)) else (K.2.1 (mX12_packs s a3) a1 a2 (a3 + 1)))))
set_option maxRecDepth 1000000 in
def uX12_arePacked_42 (K : (SM → Int32 → Int32 → Int32 → Prop) × (SM → Int32 → Int32 → Int32 → Prop) × (SM → Int32 → Int32 → Int32 → Prop)) (s : SM) (a1 : Int32) (a2 : Int32) (a3 : Int32) : Prop := (((gI s 248 45) ≤ a3 → K.2.2 s a1 a2 (0 : Int32)) ∧ (¬ (gI s 248 45) ≤ a3 → vp_in a3 6 ∧ (((4 : Int32) ≤ (gI s 266 (a3).toNatClampNeg) → K.2.1 s a1 a2 (a3 + 1)) ∧ (¬ (4 : Int32) ≤ (gI s 266 (a3).toNatClampNeg) → rX12_packs s a3 ∧ (¬ (vX12_packs s a3) = 0 → K.2.1 (mX12_packs s a3) a1 a2 (a3 + 1))))))
set_option maxRecDepth 1000000 in
noncomputable def tX12_arePacked_78 (K : (SM → Int32 → Int32 → Int32 → Int32 × SM) × (SM → Int32 → Int32 → Int32 → Int32 × SM) × (SM → Int32 → Int32 → Int32 → Int32 × SM)) (s : SM) (a1 : Int32) (a2 : Int32) (a3 : Int32) : Int32 × SM := (if (gI s 250 ((0 : Int32)).toNatClampNeg) ≤ a3 then ((1 : Int32), s) else (if 0 ≤ (gI s 269 (a3).toNatClampNeg) then (K.2.2 s a1 a2 (a3 + 1)) else (if ((vX12_leftOf s a3) + (if a3 = a1 then a2 else (0 : Int32))) ≤ (gI s 269 (a3).toNatClampNeg) then (K.2.2 s a1 a2 (a3 + 1)) else ((0 : Int32), s))))
set_option maxRecDepth 1000000 in
def uX12_arePacked_78 (K : (SM → Int32 → Int32 → Int32 → Prop) × (SM → Int32 → Int32 → Int32 → Prop) × (SM → Int32 → Int32 → Int32 → Prop)) (s : SM) (a1 : Int32) (a2 : Int32) (a3 : Int32) : Prop := (¬ (gI s 250 ((0 : Int32)).toNatClampNeg) ≤ a3 → vp_in a3 9 ∧ ((0 ≤ (gI s 269 (a3).toNatClampNeg) → K.2.2 s a1 a2 (a3 + 1)) ∧ (¬ 0 ≤ (gI s 269 (a3).toNatClampNeg) → vp_in a3 9 ∧ rX12_leftOf s a3 ∧ (((vX12_leftOf s a3) + (if a3 = a1 then a2 else (0 : Int32))) ≤ (gI s 269 (a3).toNatClampNeg) → K.2.2 s a1 a2 (a3 + 1)))))
set_option maxRecDepth 1000000 in
noncomputable def lX12_arePacked : Nat → (SM → Int32 → Int32 → Int32 → Int32 × SM) × (SM → Int32 → Int32 → Int32 → Int32 × SM) × (SM → Int32 → Int32 → Int32 → Int32 × SM)
  | 0 => (fun (s : SM) (a1 : Int32) (a2 : Int32) (a3 : Int32) => (0, s), fun (s : SM) (a1 : Int32) (a2 : Int32) (a3 : Int32) => (0, s), fun (s : SM) (a1 : Int32) (a2 : Int32) (a3 : Int32) => (0, s))
  | n + 1 => (tX12_arePacked_2 (lX12_arePacked n), tX12_arePacked_42 (lX12_arePacked n), tX12_arePacked_78 (lX12_arePacked n))
set_option maxRecDepth 1000000 in
def qX12_arePacked : Nat → (SM → Int32 → Int32 → Int32 → Prop) × (SM → Int32 → Int32 → Int32 → Prop) × (SM → Int32 → Int32 → Int32 → Prop)
  | 0 => (fun (s : SM) (a1 : Int32) (a2 : Int32) (a3 : Int32) => False, fun (s : SM) (a1 : Int32) (a2 : Int32) (a3 : Int32) => False, fun (s : SM) (a1 : Int32) (a2 : Int32) (a3 : Int32) => False)
  | n + 1 => (uX12_arePacked_2 (qX12_arePacked n), uX12_arePacked_42 (qX12_arePacked n), uX12_arePacked_78 (qX12_arePacked n))
set_option maxRecDepth 1000000 in
noncomputable def fX12_arePacked (s : SM) (a1 : Int32) (a2 : Int32) : Int32 × SM := ((lX12_arePacked FU).1 s a1 a2 (0 : Int32))
set_option maxRecDepth 1000000 in
noncomputable def vX12_arePacked (s : SM) (a1 : Int32) (a2 : Int32) : Int32 := fX12_arePacked s a1 a2 |>.1
set_option maxRecDepth 1000000 in
noncomputable def mX12_arePacked (s : SM) (a1 : Int32) (a2 : Int32) : SM := fX12_arePacked s a1 a2 |>.2
set_option maxRecDepth 1000000 in
def rX12_arePacked (s : SM) (a1 : Int32) (a2 : Int32) : Prop := (qX12_arePacked FU).1 s a1 a2 (0 : Int32)
set_option maxRecDepth 1000000 in
noncomputable def vX12_bearerOf (s : SM) (a1 : Int32) (a2 : Int32) (a3 : Int32) : Int32 := (if ((vX12_leftOf s a1) - (if a1 = a3 then a2 else (0 : Int32))) < a2 then (if (gI s 250 (((13 : Int32) + a1)).toNatClampNeg) < 0 then (-1 : Int32) else (if (vX12_isLiving s (gI s 250 (((13 : Int32) + a1)).toNatClampNeg)) = 0 then (-1 : Int32) else (if ((vX12_leftOf s (gI s 250 (((13 : Int32) + a1)).toNatClampNeg)) - (if (gI s 250 (((13 : Int32) + a1)).toNatClampNeg) = a3 then a2 else (0 : Int32))) < a2 then (-1 : Int32) else (gI s 250 (((13 : Int32) + a1)).toNatClampNeg)))) else a1)
set_option maxRecDepth 1000000 in
def rX12_bearerOf (s : SM) (a1 : Int32) (a2 : Int32) (a3 : Int32) : Prop := rX12_leftOf s a1 ∧ (((vX12_leftOf s a1) - (if a1 = a3 then a2 else (0 : Int32))) < a2 → vp_in ((13 : Int32) + a1) 787 ∧ (¬ (gI s 250 (((13 : Int32) + a1)).toNatClampNeg) < 0 → (¬ (vX12_isLiving s (gI s 250 (((13 : Int32) + a1)).toNatClampNeg)) = 0 → rX12_leftOf s (gI s 250 (((13 : Int32) + a1)).toNatClampNeg))))
set_option maxRecDepth 1000000 in
noncomputable def tX12_between_34 (K : (SM → Int32 → Int32 → Int32 → Int32 → Int32 → Int32 × SM)) (s : SM) (a1 : Int32) (a2 : Int32) (a3 : Int32) (a4 : Int32) (a5 : Int32) : Int32 × SM := (if (gI s 250 ((34 : Int32)).toNatClampNeg) ≤ a5 then ((if a3 = (-1 : Int32) then a4 else (-1 : Int32)), s) else (if (vX12_isOpen s a5) = 0 then (K s a1 a2 a3 a4 (a5 + 1)) else (if (vX12_of s a5 (0 : Int32)) = a1 then (if (vX12_of s a5 (1 : Int32)) = a2 then (if a4 = a3 then (a5, s) else (K s a1 a2 a3 (a4 + 1) (a5 + 1))) else (K s a1 a2 a3 a4 (a5 + 1))) else (K s a1 a2 a3 a4 (a5 + 1)))))
set_option maxRecDepth 1000000 in
def uX12_between_34 (K : (SM → Int32 → Int32 → Int32 → Int32 → Int32 → Prop)) (s : SM) (a1 : Int32) (a2 : Int32) (a3 : Int32) (a4 : Int32) (a5 : Int32) : Prop := (¬ (gI s 250 ((34 : Int32)).toNatClampNeg) ≤ a5 → rX12_isOpen s a5 ∧ (((vX12_isOpen s a5) = 0 → K s a1 a2 a3 a4 (a5 + 1)) ∧ (¬ (vX12_isOpen s a5) = 0 → rX12_of s a5 (0 : Int32) ∧ ((¬ (vX12_of s a5 (0 : Int32)) = a1 → K s a1 a2 a3 a4 (a5 + 1)) ∧ ((vX12_of s a5 (0 : Int32)) = a1 → rX12_of s a5 (1 : Int32) ∧ (((vX12_of s a5 (1 : Int32)) = a2 → (¬ a4 = a3 → K s a1 a2 a3 (a4 + 1) (a5 + 1))) ∧ (¬ (vX12_of s a5 (1 : Int32)) = a2 → K s a1 a2 a3 a4 (a5 + 1))))))))
set_option maxRecDepth 1000000 in
noncomputable def lX12_between : Nat → (SM → Int32 → Int32 → Int32 → Int32 → Int32 → Int32 × SM)
  | 0 => fun (s : SM) (a1 : Int32) (a2 : Int32) (a3 : Int32) (a4 : Int32) (a5 : Int32) => (0, s)
  | n + 1 => tX12_between_34 (lX12_between n)
set_option maxRecDepth 1000000 in
def qX12_between : Nat → (SM → Int32 → Int32 → Int32 → Int32 → Int32 → Prop)
  | 0 => fun (s : SM) (a1 : Int32) (a2 : Int32) (a3 : Int32) (a4 : Int32) (a5 : Int32) => False
  | n + 1 => uX12_between_34 (qX12_between n)
set_option maxRecDepth 1000000 in
noncomputable def fX12_between (s : SM) (a1 : Int32) (a2 : Int32) (a3 : Int32) : Int32 × SM := (if (vX12_isBody (pI s 248 0 (0 : Int32)) a1) = 0 then ((-1 : Int32), (pI s 248 0 (0 : Int32))) else (if (vX12_isBody (pI s 248 0 (0 : Int32)) a2) = 0 then ((-1 : Int32), (pI s 248 0 (0 : Int32))) else (if (-1 : Int32) ≤ a3 then ((lX12_between FU) (pI s 248 0 (0 : Int32)) a1 a2 a3 (0 : Int32) (0 : Int32)) else ((-1 : Int32), (pI s 248 0 (0 : Int32))))))
set_option maxRecDepth 1000000 in
noncomputable def vX12_between (s : SM) (a1 : Int32) (a2 : Int32) (a3 : Int32) : Int32 := fX12_between s a1 a2 a3 |>.1
set_option maxRecDepth 1000000 in
noncomputable def mX12_between (s : SM) (a1 : Int32) (a2 : Int32) (a3 : Int32) : SM := fX12_between s a1 a2 a3 |>.2
set_option maxRecDepth 1000000 in
def rX12_between (s : SM) (a1 : Int32) (a2 : Int32) (a3 : Int32) : Prop := (¬ (vX12_isBody (pI s 248 0 (0 : Int32)) a1) = 0 → (¬ (vX12_isBody (pI s 248 0 (0 : Int32)) a2) = 0 → ((-1 : Int32) ≤ a3 → (qX12_between FU) (pI s 248 0 (0 : Int32)) a1 a2 a3 (0 : Int32) (0 : Int32))))
set_option maxRecDepth 1000000 in
noncomputable def tX12_bookLine_122 (K : (SM → Int32 → Int32 → Int32 → Int32 × SM) × (SM → Int32 → Int32 → Int32 → Int32 × SM) × (SM → Int32 → Int32 → Int32 → Int32 × SM)) (s : SM) (a1 : Int32) (a2 : Int32) (a3 : Int32) : Int32 × SM := (if (5 : Int32) ≤ a3 then (if a1 = (3 : Int32) then ((1 : Int32), (mX12_next (pI s 252 (a2).toNatClampNeg a1) )) else (if a1 = (5 : Int32) then ((1 : Int32), (mX12_next (pI s 252 (a2).toNatClampNeg a1) )) else (if a1 = (1 : Int32) then (K.2.1 (mX12_next (pI s 252 (a2).toNatClampNeg a1) ) a1 a2 a3) else (if a1 = (2 : Int32) then (K.2.1 (mX12_next (pI s 252 (a2).toNatClampNeg a1) ) a1 a2 a3) else ((fun (s2 : SM) => (if (vX12_takesName (mX12_next (pI s 252 (a2).toNatClampNeg a1) ) (0 : Int32) (gI (mX12_next (pI s 252 (a2).toNatClampNeg a1) ) 250 ((0 : Int32)).toNatClampNeg)) = 0 then ((0 : Int32), s2) else ((fun (s4 : SM) => (if (vX12_takesName (pI s2 252 ((a2 + (1 : Int32))).toNatClampNeg (gI s2 248 18)) (0 : Int32) (gI (pI s2 252 ((a2 + (1 : Int32))).toNatClampNeg (gI s2 248 18)) 250 ((0 : Int32)).toNatClampNeg)) = 0 then ((0 : Int32), s4) else (if a1 = (4 : Int32) then ((1 : Int32), (pI s4 252 ((a2 + (2 : Int32))).toNatClampNeg (gI s4 248 18))) else (if (vX12_takes (pI s4 252 ((a2 + (2 : Int32))).toNatClampNeg (gI s4 248 18)) (1 : Int32) (99 : Int32)) = 0 then ((0 : Int32), (mX12_takes (pI s4 252 ((a2 + (2 : Int32))).toNatClampNeg (gI s4 248 18)) (1 : Int32) (99 : Int32))) else ((fun (s7 : SM) => (if (vX12_takesName s7 (9 : Int32) (gI s7 250 ((1 : Int32)).toNatClampNeg)) = 0 then ((0 : Int32), (mX12_takesName s7 (9 : Int32) (gI s7 250 ((1 : Int32)).toNatClampNeg))) else ((fun (s9 : SM) => ((1 : Int32), s9)) (pI (mX12_takesName s7 (9 : Int32) (gI s7 250 ((1 : Int32)).toNatClampNeg)) 252 ((a2 + (4 : Int32))).toNatClampNeg (gI (mX12_takesName s7 (9 : Int32) (gI s7 250 ((1 : Int32)).toNatClampNeg)) 248 18))))) (pI (mX12_takes (pI s4 252 ((a2 + (2 : Int32))).toNatClampNeg (gI s4 248 18)) (1 : Int32) (99 : Int32)) 252 ((a2 + (3 : Int32))).toNatClampNeg (gI (mX12_takes (pI s4 252 ((a2 + (2 : Int32))).toNatClampNeg (gI s4 248 18)) (1 : Int32) (99 : Int32)) 248 18))))))) (mX12_takesName (pI s2 252 ((a2 + (1 : Int32))).toNatClampNeg (gI s2 248 18)) (0 : Int32) (gI (pI s2 252 ((a2 + (1 : Int32))).toNatClampNeg (gI s2 248 18)) 250 ((0 : Int32)).toNatClampNeg))))) (mX12_takesName (mX12_next (pI s 252 (a2).toNatClampNeg a1) ) (0 : Int32) (gI (mX12_next (pI s 252 (a2).toNatClampNeg a1) ) 250 ((0 : Int32)).toNatClampNeg))))))) else (K.1 (pI s 252 ((a2 + a3)).toNatClampNeg (0 : Int32)) a1 a2 (a3 + 1)))
set_option maxRecDepth 1000000 in
def uX12_bookLine_122 (K : (SM → Int32 → Int32 → Int32 → Prop) × (SM → Int32 → Int32 → Int32 → Prop) × (SM → Int32 → Int32 → Int32 → Prop)) (s : SM) (a1 : Int32) (a2 : Int32) (a3 : Int32) : Prop := (((5 : Int32) ≤ a3 → vp_in a2 201 ∧ rX12_next (pI s 252 (a2).toNatClampNeg a1)  ∧ (¬ a1 = (3 : Int32) → (¬ a1 = (5 : Int32) → ((a1 = (1 : Int32) → K.2.1 (mX12_next (pI s 252 (a2).toNatClampNeg a1) ) a1 a2 a3) ∧ (¬ a1 = (1 : Int32) → ((¬ a1 = (2 : Int32) → rX12_takesName (mX12_next (pI s 252 (a2).toNatClampNeg a1) ) (0 : Int32) (gI (mX12_next (pI s 252 (a2).toNatClampNeg a1) ) 250 ((0 : Int32)).toNatClampNeg) ∧ (∀ s2, s2 = (mX12_takesName (mX12_next (pI s 252 (a2).toNatClampNeg a1) ) (0 : Int32) (gI (mX12_next (pI s 252 (a2).toNatClampNeg a1) ) 250 ((0 : Int32)).toNatClampNeg)) → (¬ (vX12_takesName (mX12_next (pI s 252 (a2).toNatClampNeg a1) ) (0 : Int32) (gI (mX12_next (pI s 252 (a2).toNatClampNeg a1) ) 250 ((0 : Int32)).toNatClampNeg)) = 0 → vp_in (a2 + (1 : Int32)) 201 ∧ rX12_takesName (pI s2 252 ((a2 + (1 : Int32))).toNatClampNeg (gI s2 248 18)) (0 : Int32) (gI (pI s2 252 ((a2 + (1 : Int32))).toNatClampNeg (gI s2 248 18)) 250 ((0 : Int32)).toNatClampNeg) ∧ (∀ s4, s4 = (mX12_takesName (pI s2 252 ((a2 + (1 : Int32))).toNatClampNeg (gI s2 248 18)) (0 : Int32) (gI (pI s2 252 ((a2 + (1 : Int32))).toNatClampNeg (gI s2 248 18)) 250 ((0 : Int32)).toNatClampNeg)) → (¬ (vX12_takesName (pI s2 252 ((a2 + (1 : Int32))).toNatClampNeg (gI s2 248 18)) (0 : Int32) (gI (pI s2 252 ((a2 + (1 : Int32))).toNatClampNeg (gI s2 248 18)) 250 ((0 : Int32)).toNatClampNeg)) = 0 → vp_in (a2 + (2 : Int32)) 201 ∧ (¬ a1 = (4 : Int32) → rX12_takes (pI s4 252 ((a2 + (2 : Int32))).toNatClampNeg (gI s4 248 18)) (1 : Int32) (99 : Int32) ∧ (¬ (vX12_takes (pI s4 252 ((a2 + (2 : Int32))).toNatClampNeg (gI s4 248 18)) (1 : Int32) (99 : Int32)) = 0 → vp_in (a2 + (3 : Int32)) 201 ∧ (∀ s7, s7 = (pI (mX12_takes (pI s4 252 ((a2 + (2 : Int32))).toNatClampNeg (gI s4 248 18)) (1 : Int32) (99 : Int32)) 252 ((a2 + (3 : Int32))).toNatClampNeg (gI (mX12_takes (pI s4 252 ((a2 + (2 : Int32))).toNatClampNeg (gI s4 248 18)) (1 : Int32) (99 : Int32)) 248 18)) → rX12_takesName s7 (9 : Int32) (gI s7 250 ((1 : Int32)).toNatClampNeg) ∧ (¬ (vX12_takesName s7 (9 : Int32) (gI s7 250 ((1 : Int32)).toNatClampNeg)) = 0 → vp_in (a2 + (4 : Int32)) 201))))))))) ∧ (a1 = (2 : Int32) → K.2.1 (mX12_next (pI s 252 (a2).toNatClampNeg a1) ) a1 a2 a3))))))) ∧ (¬ (5 : Int32) ≤ a3 → vp_in (a2 + a3) 201 ∧ K.1 (pI s 252 ((a2 + a3)).toNatClampNeg (0 : Int32)) a1 a2 (a3 + 1)))
set_option maxRecDepth 1000000 in
noncomputable def tX12_bookLine_175 (K : (SM → Int32 → Int32 → Int32 → Int32 × SM) × (SM → Int32 → Int32 → Int32 → Int32 × SM) × (SM → Int32 → Int32 → Int32 → Int32 × SM)) (s : SM) (a1 : Int32) (a2 : Int32) (a3 : Int32) : Int32 × SM := (if (vX12_takes s (0 : Int32) (59 : Int32)) = 0 then ((0 : Int32), (mX12_takes s (0 : Int32) (59 : Int32))) else ((fun (s2 : SM) => (if a1 = (1 : Int32) then ((1 : Int32), s2) else (if (vX12_isWord s2 (109342978500980 : Int64)) = 0 then (if (vX12_isWord s2 (1684365940 : Int64)) = 0 then ((vX12_bad s2 (1 : Int32)), (mX12_bad s2 (1 : Int32))) else (K.2.2 s2 a1 a2 a3)) else (K.2.2 s2 a1 a2 a3)))) (pI (mX12_takes s (0 : Int32) (59 : Int32)) 252 ((a2 + (1 : Int32))).toNatClampNeg (gI (mX12_takes s (0 : Int32) (59 : Int32)) 248 18))))
set_option maxRecDepth 1000000 in
def uX12_bookLine_175 (K : (SM → Int32 → Int32 → Int32 → Prop) × (SM → Int32 → Int32 → Int32 → Prop) × (SM → Int32 → Int32 → Int32 → Prop)) (s : SM) (a1 : Int32) (a2 : Int32) (a3 : Int32) : Prop := rX12_takes s (0 : Int32) (59 : Int32) ∧ (¬ (vX12_takes s (0 : Int32) (59 : Int32)) = 0 → vp_in (a2 + (1 : Int32)) 201 ∧ (∀ s2, s2 = (pI (mX12_takes s (0 : Int32) (59 : Int32)) 252 ((a2 + (1 : Int32))).toNatClampNeg (gI (mX12_takes s (0 : Int32) (59 : Int32)) 248 18)) → (¬ a1 = (1 : Int32) → ((¬ (vX12_isWord s2 (109342978500980 : Int64)) = 0 → K.2.2 s2 a1 a2 a3) ∧ ((vX12_isWord s2 (109342978500980 : Int64)) = 0 → (¬ (vX12_isWord s2 (1684365940 : Int64)) = 0 → K.2.2 s2 a1 a2 a3))))))
set_option maxRecDepth 1000000 in
noncomputable def tX12_bookLine_232 (K : (SM → Int32 → Int32 → Int32 → Int32 × SM) × (SM → Int32 → Int32 → Int32 → Int32 × SM) × (SM → Int32 → Int32 → Int32 → Int32 × SM)) (s : SM) (a1 : Int32) (a2 : Int32) (a3 : Int32) : Int32 × SM := ((fun (s2 : SM) => ((1 : Int32), (mX12_next s2 ))) (pI s 252 ((a2 + (2 : Int32))).toNatClampNeg (if (vX12_isWord s (1684365940 : Int64)) = 0 then (0 : Int32) else (1 : Int32))))
set_option maxRecDepth 1000000 in
def uX12_bookLine_232 (K : (SM → Int32 → Int32 → Int32 → Prop) × (SM → Int32 → Int32 → Int32 → Prop) × (SM → Int32 → Int32 → Int32 → Prop)) (s : SM) (a1 : Int32) (a2 : Int32) (a3 : Int32) : Prop := vp_in (a2 + (2 : Int32)) 201 ∧ (∀ s2, s2 = (pI s 252 ((a2 + (2 : Int32))).toNatClampNeg (if (vX12_isWord s (1684365940 : Int64)) = 0 then (0 : Int32) else (1 : Int32))) → rX12_next s2 )
set_option maxRecDepth 1000000 in
noncomputable def lX12_bookLine : Nat → (SM → Int32 → Int32 → Int32 → Int32 × SM) × (SM → Int32 → Int32 → Int32 → Int32 × SM) × (SM → Int32 → Int32 → Int32 → Int32 × SM)
  | 0 => (fun (s : SM) (a1 : Int32) (a2 : Int32) (a3 : Int32) => (0, s), fun (s : SM) (a1 : Int32) (a2 : Int32) (a3 : Int32) => (0, s), fun (s : SM) (a1 : Int32) (a2 : Int32) (a3 : Int32) => (0, s))
  | n + 1 => (tX12_bookLine_122 (lX12_bookLine n), tX12_bookLine_175 (lX12_bookLine n), tX12_bookLine_232 (lX12_bookLine n))
set_option maxRecDepth 1000000 in
def qX12_bookLine : Nat → (SM → Int32 → Int32 → Int32 → Prop) × (SM → Int32 → Int32 → Int32 → Prop) × (SM → Int32 → Int32 → Int32 → Prop)
  | 0 => (fun (s : SM) (a1 : Int32) (a2 : Int32) (a3 : Int32) => False, fun (s : SM) (a1 : Int32) (a2 : Int32) (a3 : Int32) => False, fun (s : SM) (a1 : Int32) (a2 : Int32) (a3 : Int32) => False)
  | n + 1 => (uX12_bookLine_122 (qX12_bookLine n), uX12_bookLine_175 (qX12_bookLine n), uX12_bookLine_232 (qX12_bookLine n))
set_option maxRecDepth 1000000 in
noncomputable def fX12_bookLine (s : SM)  : Int32 × SM := (if (vX12_isWord s (1684365676 : Int64)) = 0 then (if (vX12_isWord s (126943972911973 : Int64)) = 0 then (if (vX12_isWord s (1935892850 : Int64)) = 0 then (if (vX12_isWord s (1919512167 : Int64)) = 0 then (if (vX12_isWord s (1684628851 : Int64)) = 0 then (if 0 ≤ (if (vX12_isWord s (2036687218 : Int64)) = 0 then (-1 : Int32) else (5 : Int32)) then (if (gI s 248 36) = (40 : Int32) then ((vX12_bad s (4 : Int32)), (mX12_bad s (4 : Int32))) else ((lX12_bookLine FU).1 s (if (vX12_isWord s (2036687218 : Int64)) = 0 then (-1 : Int32) else (5 : Int32)) ((1 : Int32) + ((5 : Int32) * (gI s 248 36))) (0 : Int32))) else ((vX12_bad s (1 : Int32)), (mX12_bad s (1 : Int32)))) else (if 0 ≤ (4 : Int32) then (if (gI s 248 36) = (40 : Int32) then ((vX12_bad s (4 : Int32)), (mX12_bad s (4 : Int32))) else ((lX12_bookLine FU).1 s (4 : Int32) ((1 : Int32) + ((5 : Int32) * (gI s 248 36))) (0 : Int32))) else ((vX12_bad s (1 : Int32)), (mX12_bad s (1 : Int32))))) else (if 0 ≤ (3 : Int32) then (if (gI s 248 36) = (40 : Int32) then ((vX12_bad s (4 : Int32)), (mX12_bad s (4 : Int32))) else ((lX12_bookLine FU).1 s (3 : Int32) ((1 : Int32) + ((5 : Int32) * (gI s 248 36))) (0 : Int32))) else ((vX12_bad s (1 : Int32)), (mX12_bad s (1 : Int32))))) else (if 0 ≤ (2 : Int32) then (if (gI s 248 36) = (40 : Int32) then ((vX12_bad s (4 : Int32)), (mX12_bad s (4 : Int32))) else ((lX12_bookLine FU).1 s (2 : Int32) ((1 : Int32) + ((5 : Int32) * (gI s 248 36))) (0 : Int32))) else ((vX12_bad s (1 : Int32)), (mX12_bad s (1 : Int32))))) else (if 0 ≤ (1 : Int32) then (if (gI s 248 36) = (40 : Int32) then ((vX12_bad s (4 : Int32)), (mX12_bad s (4 : Int32))) else ((lX12_bookLine FU).1 s (1 : Int32) ((1 : Int32) + ((5 : Int32) * (gI s 248 36))) (0 : Int32))) else ((vX12_bad s (1 : Int32)), (mX12_bad s (1 : Int32))))) else (if 0 ≤ (0 : Int32) then (if (gI s 248 36) = (40 : Int32) then ((vX12_bad s (4 : Int32)), (mX12_bad s (4 : Int32))) else ((lX12_bookLine FU).1 s (0 : Int32) ((1 : Int32) + ((5 : Int32) * (gI s 248 36))) (0 : Int32))) else ((vX12_bad s (1 : Int32)), (mX12_bad s (1 : Int32)))))
set_option maxRecDepth 1000000 in
noncomputable def vX12_bookLine (s : SM)  : Int32 := fX12_bookLine s  |>.1
set_option maxRecDepth 1000000 in
noncomputable def mX12_bookLine (s : SM)  : SM := fX12_bookLine s  |>.2
set_option maxRecDepth 1000000 in
def rX12_bookLine (s : SM)  : Prop := (((vX12_isWord s (1684365676 : Int64)) = 0 → (((vX12_isWord s (126943972911973 : Int64)) = 0 → (((vX12_isWord s (1935892850 : Int64)) = 0 → (((vX12_isWord s (1919512167 : Int64)) = 0 → (((vX12_isWord s (1684628851 : Int64)) = 0 → (0 ≤ (if (vX12_isWord s (2036687218 : Int64)) = 0 then (-1 : Int32) else (5 : Int32)) → (¬ (gI s 248 36) = (40 : Int32) → (qX12_bookLine FU).1 s (if (vX12_isWord s (2036687218 : Int64)) = 0 then (-1 : Int32) else (5 : Int32)) ((1 : Int32) + ((5 : Int32) * (gI s 248 36))) (0 : Int32)))) ∧ (¬ (vX12_isWord s (1684628851 : Int64)) = 0 → (0 ≤ (4 : Int32) → (¬ (gI s 248 36) = (40 : Int32) → (qX12_bookLine FU).1 s (4 : Int32) ((1 : Int32) + ((5 : Int32) * (gI s 248 36))) (0 : Int32)))))) ∧ (¬ (vX12_isWord s (1919512167 : Int64)) = 0 → (0 ≤ (3 : Int32) → (¬ (gI s 248 36) = (40 : Int32) → (qX12_bookLine FU).1 s (3 : Int32) ((1 : Int32) + ((5 : Int32) * (gI s 248 36))) (0 : Int32)))))) ∧ (¬ (vX12_isWord s (1935892850 : Int64)) = 0 → (0 ≤ (2 : Int32) → (¬ (gI s 248 36) = (40 : Int32) → (qX12_bookLine FU).1 s (2 : Int32) ((1 : Int32) + ((5 : Int32) * (gI s 248 36))) (0 : Int32)))))) ∧ (¬ (vX12_isWord s (126943972911973 : Int64)) = 0 → (0 ≤ (1 : Int32) → (¬ (gI s 248 36) = (40 : Int32) → (qX12_bookLine FU).1 s (1 : Int32) ((1 : Int32) + ((5 : Int32) * (gI s 248 36))) (0 : Int32)))))) ∧ (¬ (vX12_isWord s (1684365676 : Int64)) = 0 → (0 ≤ (0 : Int32) → (¬ (gI s 248 36) = (40 : Int32) → (qX12_bookLine FU).1 s (0 : Int32) ((1 : Int32) + ((5 : Int32) * (gI s 248 36))) (0 : Int32)))))
set_option maxRecDepth 1000000 in
noncomputable def tX12_buries_18 (K : (SM → Int32 → Int32 → Int32 → Int32 → Int32 × SM) × (SM → Int32 → Int32 → Int32 → Int32 → Int32 × SM)) (s : SM) (a1 : Int32) (a2 : Int32) (a3 : Int32) (a4 : Int32) : Int32 × SM := (if (gI s 250 ((34 : Int32)).toNatClampNeg) ≤ a4 then (a3, s) else (if (vX12_isOpen s a4) = 0 then (K.1 s a1 a2 a3 (a4 + 1)) else (if (vX12_of s a4 (0 : Int32)) = a1 then (K.2 s a1 a2 a3 a4) else (if (vX12_of s a4 (1 : Int32)) = a1 then (K.2 s a1 a2 a3 a4) else (K.1 s a1 a2 a3 (a4 + 1))))))
set_option maxRecDepth 1000000 in
def uX12_buries_18 (K : (SM → Int32 → Int32 → Int32 → Int32 → Prop) × (SM → Int32 → Int32 → Int32 → Int32 → Prop)) (s : SM) (a1 : Int32) (a2 : Int32) (a3 : Int32) (a4 : Int32) : Prop := (¬ (gI s 250 ((34 : Int32)).toNatClampNeg) ≤ a4 → rX12_isOpen s a4 ∧ (((vX12_isOpen s a4) = 0 → K.1 s a1 a2 a3 (a4 + 1)) ∧ (¬ (vX12_isOpen s a4) = 0 → rX12_of s a4 (0 : Int32) ∧ (((vX12_of s a4 (0 : Int32)) = a1 → K.2 s a1 a2 a3 a4) ∧ (¬ (vX12_of s a4 (0 : Int32)) = a1 → rX12_of s a4 (1 : Int32) ∧ (((vX12_of s a4 (1 : Int32)) = a1 → K.2 s a1 a2 a3 a4) ∧ (¬ (vX12_of s a4 (1 : Int32)) = a1 → K.1 s a1 a2 a3 (a4 + 1))))))))
set_option maxRecDepth 1000000 in
noncomputable def tX12_buries_64 (K : (SM → Int32 → Int32 → Int32 → Int32 → Int32 × SM) × (SM → Int32 → Int32 → Int32 → Int32 → Int32 × SM)) (s : SM) (a1 : Int32) (a2 : Int32) (a3 : Int32) (a4 : Int32) : Int32 × SM := (if (vX12_of (mX12_set s a4 (if (vX12_of s a4 (0 : Int32)) = a1 then (0 : Int32) else (1 : Int32)) a2) a4 (0 : Int32)) = (vX12_of (mX12_set s a4 (if (vX12_of s a4 (0 : Int32)) = a1 then (0 : Int32) else (1 : Int32)) a2) a4 (1 : Int32)) then ((fun (s1 : SM) => (K.1 s1 a1 a2 a3 (a4 + 1))) (mX12_set (mX12_set s a4 (if (vX12_of s a4 (0 : Int32)) = a1 then (0 : Int32) else (1 : Int32)) a2) a4 (5 : Int32) (2 : Int32))) else (K.1 (mX12_set s a4 (if (vX12_of s a4 (0 : Int32)) = a1 then (0 : Int32) else (1 : Int32)) a2) a1 a2 (a3 + 1) (a4 + 1)))
set_option maxRecDepth 1000000 in
def uX12_buries_64 (K : (SM → Int32 → Int32 → Int32 → Int32 → Prop) × (SM → Int32 → Int32 → Int32 → Int32 → Prop)) (s : SM) (a1 : Int32) (a2 : Int32) (a3 : Int32) (a4 : Int32) : Prop := rX12_of s a4 (0 : Int32) ∧ rX12_set s a4 (if (vX12_of s a4 (0 : Int32)) = a1 then (0 : Int32) else (1 : Int32)) a2 ∧ rX12_of (mX12_set s a4 (if (vX12_of s a4 (0 : Int32)) = a1 then (0 : Int32) else (1 : Int32)) a2) a4 (0 : Int32) ∧ rX12_of (mX12_set s a4 (if (vX12_of s a4 (0 : Int32)) = a1 then (0 : Int32) else (1 : Int32)) a2) a4 (1 : Int32) ∧ ((¬ (vX12_of (mX12_set s a4 (if (vX12_of s a4 (0 : Int32)) = a1 then (0 : Int32) else (1 : Int32)) a2) a4 (0 : Int32)) = (vX12_of (mX12_set s a4 (if (vX12_of s a4 (0 : Int32)) = a1 then (0 : Int32) else (1 : Int32)) a2) a4 (1 : Int32)) → K.1 (mX12_set s a4 (if (vX12_of s a4 (0 : Int32)) = a1 then (0 : Int32) else (1 : Int32)) a2) a1 a2 (a3 + 1) (a4 + 1)) ∧ ((vX12_of (mX12_set s a4 (if (vX12_of s a4 (0 : Int32)) = a1 then (0 : Int32) else (1 : Int32)) a2) a4 (0 : Int32)) = (vX12_of (mX12_set s a4 (if (vX12_of s a4 (0 : Int32)) = a1 then (0 : Int32) else (1 : Int32)) a2) a4 (1 : Int32)) → rX12_set (mX12_set s a4 (if (vX12_of s a4 (0 : Int32)) = a1 then (0 : Int32) else (1 : Int32)) a2) a4 (5 : Int32) (2 : Int32) ∧ (∀ s1, s1 = (mX12_set (mX12_set s a4 (if (vX12_of s a4 (0 : Int32)) = a1 then (0 : Int32) else (1 : Int32)) a2) a4 (5 : Int32) (2 : Int32)) → K.1 s1 a1 a2 a3 (a4 + 1))))
set_option maxRecDepth 1000000 in
noncomputable def lX12_buries : Nat → (SM → Int32 → Int32 → Int32 → Int32 → Int32 × SM) × (SM → Int32 → Int32 → Int32 → Int32 → Int32 × SM)
  | 0 => (fun (s : SM) (a1 : Int32) (a2 : Int32) (a3 : Int32) (a4 : Int32) => (0, s), fun (s : SM) (a1 : Int32) (a2 : Int32) (a3 : Int32) (a4 : Int32) => (0, s))
  | n + 1 => (tX12_buries_18 (lX12_buries n), tX12_buries_64 (lX12_buries n))
set_option maxRecDepth 1000000 in
def qX12_buries : Nat → (SM → Int32 → Int32 → Int32 → Int32 → Prop) × (SM → Int32 → Int32 → Int32 → Int32 → Prop)
  | 0 => (fun (s : SM) (a1 : Int32) (a2 : Int32) (a3 : Int32) (a4 : Int32) => False, fun (s : SM) (a1 : Int32) (a2 : Int32) (a3 : Int32) (a4 : Int32) => False)
  | n + 1 => (uX12_buries_18 (qX12_buries n), uX12_buries_64 (qX12_buries n))
set_option maxRecDepth 1000000 in
noncomputable def fX12_buries (s : SM) (a1 : Int32) (a2 : Int32) : Int32 × SM := ((lX12_buries FU).1 (pI s 250 ((36 : Int32)).toNatClampNeg ((gI s 250 ((36 : Int32)).toNatClampNeg) ||| ((1 : Int32) <<< (a1 &&& 31)))) a1 a2 (0 : Int32) (0 : Int32))
set_option maxRecDepth 1000000 in
noncomputable def vX12_buries (s : SM) (a1 : Int32) (a2 : Int32) : Int32 := fX12_buries s a1 a2 |>.1
set_option maxRecDepth 1000000 in
noncomputable def mX12_buries (s : SM) (a1 : Int32) (a2 : Int32) : SM := fX12_buries s a1 a2 |>.2
set_option maxRecDepth 1000000 in
def rX12_buries (s : SM) (a1 : Int32) (a2 : Int32) : Prop := (qX12_buries FU).1 (pI s 250 ((36 : Int32)).toNatClampNeg ((gI s 250 ((36 : Int32)).toNatClampNeg) ||| ((1 : Int32) <<< (a1 &&& 31)))) a1 a2 (0 : Int32) (0 : Int32)
set_option maxRecDepth 1000000 in
noncomputable def tX12_chain_30 (K : (SM → Int32 → Int32 → Int32 → Int32 → Int32 × SM) × (SM → Int32 → Int32 → Int32 → Int32 → Int32 → Int32 → Int32 × SM)) (s : SM) (a1 : Int32) (a2 : Int32) (a3 : Int32) (a4 : Int32) : Int32 × SM := (if (gI s 250 ((0 : Int32)).toNatClampNeg) < a4 then ((-1 : Int32), s) else (if (vX12_has s a3 a2) = 0 then (K.2 s a1 a2 a3 a4 a3 (0 : Int32)) else (a4, s)))
set_option maxRecDepth 1000000 in
def uX12_chain_30 (K : (SM → Int32 → Int32 → Int32 → Int32 → Prop) × (SM → Int32 → Int32 → Int32 → Int32 → Int32 → Int32 → Prop)) (s : SM) (a1 : Int32) (a2 : Int32) (a3 : Int32) (a4 : Int32) : Prop := (¬ (gI s 250 ((0 : Int32)).toNatClampNeg) < a4 → ((vX12_has s a3 a2) = 0 → K.2 s a1 a2 a3 a4 a3 (0 : Int32)))
set_option maxRecDepth 1000000 in
noncomputable def tX12_chain_58 (K : (SM → Int32 → Int32 → Int32 → Int32 → Int32 × SM) × (SM → Int32 → Int32 → Int32 → Int32 → Int32 → Int32 → Int32 × SM)) (s : SM) (a1 : Int32) (a2 : Int32) (a3 : Int32) (a4 : Int32) (a5 : Int32) (a6 : Int32) : Int32 × SM := (if (gI s 250 ((34 : Int32)).toNatClampNeg) ≤ a6 then (K.1 s a1 a2 a5 (a4 + 1)) else (if (vX12_isOpen s a6) = 0 then (K.2 s a1 a2 a3 a4 a5 (a6 + 1)) else (if (vX12_has s a3 (vX12_of s a6 (1 : Int32))) = 0 then (K.2 s a1 a2 a3 a4 a5 (a6 + 1)) else (K.2 s a1 a2 a3 a4 (a5 ||| ((1 : Int32) <<< ((vX12_of s a6 (0 : Int32)) &&& 31))) (a6 + 1)))))
set_option maxRecDepth 1000000 in
def uX12_chain_58 (K : (SM → Int32 → Int32 → Int32 → Int32 → Prop) × (SM → Int32 → Int32 → Int32 → Int32 → Int32 → Int32 → Prop)) (s : SM) (a1 : Int32) (a2 : Int32) (a3 : Int32) (a4 : Int32) (a5 : Int32) (a6 : Int32) : Prop := (((gI s 250 ((34 : Int32)).toNatClampNeg) ≤ a6 → K.1 s a1 a2 a5 (a4 + 1)) ∧ (¬ (gI s 250 ((34 : Int32)).toNatClampNeg) ≤ a6 → rX12_isOpen s a6 ∧ (((vX12_isOpen s a6) = 0 → K.2 s a1 a2 a3 a4 a5 (a6 + 1)) ∧ (¬ (vX12_isOpen s a6) = 0 → rX12_of s a6 (1 : Int32) ∧ (((vX12_has s a3 (vX12_of s a6 (1 : Int32))) = 0 → K.2 s a1 a2 a3 a4 a5 (a6 + 1)) ∧ (¬ (vX12_has s a3 (vX12_of s a6 (1 : Int32))) = 0 → rX12_of s a6 (0 : Int32) ∧ K.2 s a1 a2 a3 a4 (a5 ||| ((1 : Int32) <<< ((vX12_of s a6 (0 : Int32)) &&& 31))) (a6 + 1)))))))
set_option maxRecDepth 1000000 in
noncomputable def lX12_chain : Nat → (SM → Int32 → Int32 → Int32 → Int32 → Int32 × SM) × (SM → Int32 → Int32 → Int32 → Int32 → Int32 → Int32 → Int32 × SM)
  | 0 => (fun (s : SM) (a1 : Int32) (a2 : Int32) (a3 : Int32) (a4 : Int32) => (0, s), fun (s : SM) (a1 : Int32) (a2 : Int32) (a3 : Int32) (a4 : Int32) (a5 : Int32) (a6 : Int32) => (0, s))
  | n + 1 => (tX12_chain_30 (lX12_chain n), tX12_chain_58 (lX12_chain n))
set_option maxRecDepth 1000000 in
def qX12_chain : Nat → (SM → Int32 → Int32 → Int32 → Int32 → Prop) × (SM → Int32 → Int32 → Int32 → Int32 → Int32 → Int32 → Prop)
  | 0 => (fun (s : SM) (a1 : Int32) (a2 : Int32) (a3 : Int32) (a4 : Int32) => False, fun (s : SM) (a1 : Int32) (a2 : Int32) (a3 : Int32) (a4 : Int32) (a5 : Int32) (a6 : Int32) => False)
  | n + 1 => (uX12_chain_30 (qX12_chain n), uX12_chain_58 (qX12_chain n))
set_option maxRecDepth 1000000 in
noncomputable def fX12_chain (s : SM) (a1 : Int32) (a2 : Int32) : Int32 × SM := (if (vX12_isBody (pI s 248 0 (0 : Int32)) a1) = 0 then ((-1 : Int32), (pI s 248 0 (0 : Int32))) else (if (vX12_isBody (pI s 248 0 (0 : Int32)) a2) = 0 then ((-1 : Int32), (pI s 248 0 (0 : Int32))) else ((lX12_chain FU).1 (pI s 248 0 (0 : Int32)) a1 a2 ((1 : Int32) <<< (a1 &&& 31)) (0 : Int32))))
set_option maxRecDepth 1000000 in
noncomputable def vX12_chain (s : SM) (a1 : Int32) (a2 : Int32) : Int32 := fX12_chain s a1 a2 |>.1
set_option maxRecDepth 1000000 in
noncomputable def mX12_chain (s : SM) (a1 : Int32) (a2 : Int32) : SM := fX12_chain s a1 a2 |>.2
set_option maxRecDepth 1000000 in
def rX12_chain (s : SM) (a1 : Int32) (a2 : Int32) : Prop := (¬ (vX12_isBody (pI s 248 0 (0 : Int32)) a1) = 0 → (¬ (vX12_isBody (pI s 248 0 (0 : Int32)) a2) = 0 → (qX12_chain FU).1 (pI s 248 0 (0 : Int32)) a1 a2 ((1 : Int32) <<< (a1 &&& 31)) (0 : Int32)))
set_option maxRecDepth 1000000 in
noncomputable def tX12_cuts_15 (K : (SM → Int32 → Int32 → Int32 × SM) × (SM → Int32 → Int32 → Int32 → Int32 → Int32 × SM) × (SM → Int32 → Int32 → Int32 → Int32 → Int32 → Int32 × SM)) (s : SM) (a1 : Int32) (a2 : Int32) : Int32 × SM := (if (gI s 248 29) ≤ a2 then (a1, s) else (if (vX12_of (mX12_set s (gI s 257 (a2).toNatClampNeg) (2 : Int32) ((vX12_of s (gI s 257 (a2).toNatClampNeg) (2 : Int32)) - a1)) (gI s 257 (a2).toNatClampNeg) (2 : Int32)) ≤ 0 then ((fun (s2 : SM) => (K.2.1 s2 a1 a2 (gI s 257 (a2).toNatClampNeg) (0 : Int32))) (mX12_set (mX12_set s (gI s 257 (a2).toNatClampNeg) (2 : Int32) ((vX12_of s (gI s 257 (a2).toNatClampNeg) (2 : Int32)) - a1)) (gI s 257 (a2).toNatClampNeg) (5 : Int32) (2 : Int32))) else (K.1 (mX12_set s (gI s 257 (a2).toNatClampNeg) (2 : Int32) ((vX12_of s (gI s 257 (a2).toNatClampNeg) (2 : Int32)) - a1)) a1 (a2 + 1))))
set_option maxRecDepth 1000000 in
def uX12_cuts_15 (K : (SM → Int32 → Int32 → Prop) × (SM → Int32 → Int32 → Int32 → Int32 → Prop) × (SM → Int32 → Int32 → Int32 → Int32 → Int32 → Prop)) (s : SM) (a1 : Int32) (a2 : Int32) : Prop := (¬ (gI s 248 29) ≤ a2 → vp_in a2 5 ∧ rX12_of s (gI s 257 (a2).toNatClampNeg) (2 : Int32) ∧ rX12_set s (gI s 257 (a2).toNatClampNeg) (2 : Int32) ((vX12_of s (gI s 257 (a2).toNatClampNeg) (2 : Int32)) - a1) ∧ rX12_of (mX12_set s (gI s 257 (a2).toNatClampNeg) (2 : Int32) ((vX12_of s (gI s 257 (a2).toNatClampNeg) (2 : Int32)) - a1)) (gI s 257 (a2).toNatClampNeg) (2 : Int32) ∧ (((vX12_of (mX12_set s (gI s 257 (a2).toNatClampNeg) (2 : Int32) ((vX12_of s (gI s 257 (a2).toNatClampNeg) (2 : Int32)) - a1)) (gI s 257 (a2).toNatClampNeg) (2 : Int32)) ≤ 0 → rX12_set (mX12_set s (gI s 257 (a2).toNatClampNeg) (2 : Int32) ((vX12_of s (gI s 257 (a2).toNatClampNeg) (2 : Int32)) - a1)) (gI s 257 (a2).toNatClampNeg) (5 : Int32) (2 : Int32) ∧ (∀ s2, s2 = (mX12_set (mX12_set s (gI s 257 (a2).toNatClampNeg) (2 : Int32) ((vX12_of s (gI s 257 (a2).toNatClampNeg) (2 : Int32)) - a1)) (gI s 257 (a2).toNatClampNeg) (5 : Int32) (2 : Int32)) → K.2.1 s2 a1 a2 (gI s 257 (a2).toNatClampNeg) (0 : Int32))) ∧ (¬ (vX12_of (mX12_set s (gI s 257 (a2).toNatClampNeg) (2 : Int32) ((vX12_of s (gI s 257 (a2).toNatClampNeg) (2 : Int32)) - a1)) (gI s 257 (a2).toNatClampNeg) (2 : Int32)) ≤ 0 → K.1 (mX12_set s (gI s 257 (a2).toNatClampNeg) (2 : Int32) ((vX12_of s (gI s 257 (a2).toNatClampNeg) (2 : Int32)) - a1)) a1 (a2 + 1))))
set_option maxRecDepth 1000000 in
noncomputable def tX12_cuts_66 (K : (SM → Int32 → Int32 → Int32 × SM) × (SM → Int32 → Int32 → Int32 → Int32 → Int32 × SM) × (SM → Int32 → Int32 → Int32 → Int32 → Int32 → Int32 × SM)) (s : SM) (a1 : Int32) (a2 : Int32) (a3 : Int32) (a4 : Int32) : Int32 × SM := (if (2 : Int32) ≤ a4 then (K.1 s a1 (a2 + 1)) else (if (vX12_isLiving s (vX12_of s a3 ((6 : Int32) + a4))) = 0 then (K.2.2 s a1 a2 a3 a4 (vX12_of s a3 ((6 : Int32) + a4))) else ((fun (s3 : SM) => (K.2.2 s3 a1 a2 a3 a4 (vX12_of s a3 ((6 : Int32) + a4)))) (pI s 250 (((37 : Int32) + (vX12_of s a3 ((6 : Int32) + a4)))).toNatClampNeg ((gI s 250 (((37 : Int32) + (vX12_of s a3 ((6 : Int32) + a4)))).toNatClampNeg) + (vX12_dotOf s a3))))))
set_option maxRecDepth 1000000 in
def uX12_cuts_66 (K : (SM → Int32 → Int32 → Prop) × (SM → Int32 → Int32 → Int32 → Int32 → Prop) × (SM → Int32 → Int32 → Int32 → Int32 → Int32 → Prop)) (s : SM) (a1 : Int32) (a2 : Int32) (a3 : Int32) (a4 : Int32) : Prop := (((2 : Int32) ≤ a4 → K.1 s a1 (a2 + 1)) ∧ (¬ (2 : Int32) ≤ a4 → rX12_of s a3 ((6 : Int32) + a4) ∧ (((vX12_isLiving s (vX12_of s a3 ((6 : Int32) + a4))) = 0 → K.2.2 s a1 a2 a3 a4 (vX12_of s a3 ((6 : Int32) + a4))) ∧ (¬ (vX12_isLiving s (vX12_of s a3 ((6 : Int32) + a4))) = 0 → vp_in ((37 : Int32) + (vX12_of s a3 ((6 : Int32) + a4))) 787 ∧ rX12_dotOf s a3 ∧ vp_in ((37 : Int32) + (vX12_of s a3 ((6 : Int32) + a4))) 787 ∧ (∀ s3, s3 = (pI s 250 (((37 : Int32) + (vX12_of s a3 ((6 : Int32) + a4)))).toNatClampNeg ((gI s 250 (((37 : Int32) + (vX12_of s a3 ((6 : Int32) + a4)))).toNatClampNeg) + (vX12_dotOf s a3))) → K.2.2 s3 a1 a2 a3 a4 (vX12_of s a3 ((6 : Int32) + a4)))))))
set_option maxRecDepth 1000000 in
noncomputable def tX12_cuts_111 (K : (SM → Int32 → Int32 → Int32 × SM) × (SM → Int32 → Int32 → Int32 → Int32 → Int32 × SM) × (SM → Int32 → Int32 → Int32 → Int32 → Int32 → Int32 × SM)) (s : SM) (a1 : Int32) (a2 : Int32) (a3 : Int32) (a4 : Int32) (a5 : Int32) : Int32 × SM := (K.2.1 (mX12_set s a3 ((6 : Int32) + a4) (-1 : Int32)) a1 a2 a3 (a4 + 1))
set_option maxRecDepth 1000000 in
def uX12_cuts_111 (K : (SM → Int32 → Int32 → Prop) × (SM → Int32 → Int32 → Int32 → Int32 → Prop) × (SM → Int32 → Int32 → Int32 → Int32 → Int32 → Prop)) (s : SM) (a1 : Int32) (a2 : Int32) (a3 : Int32) (a4 : Int32) (a5 : Int32) : Prop := rX12_set s a3 ((6 : Int32) + a4) (-1 : Int32) ∧ K.2.1 (mX12_set s a3 ((6 : Int32) + a4) (-1 : Int32)) a1 a2 a3 (a4 + 1)
set_option maxRecDepth 1000000 in
noncomputable def lX12_cuts : Nat → (SM → Int32 → Int32 → Int32 × SM) × (SM → Int32 → Int32 → Int32 → Int32 → Int32 × SM) × (SM → Int32 → Int32 → Int32 → Int32 → Int32 → Int32 × SM)
  | 0 => (fun (s : SM) (a1 : Int32) (a2 : Int32) => (0, s), fun (s : SM) (a1 : Int32) (a2 : Int32) (a3 : Int32) (a4 : Int32) => (0, s), fun (s : SM) (a1 : Int32) (a2 : Int32) (a3 : Int32) (a4 : Int32) (a5 : Int32) => (0, s))
  | n + 1 => (tX12_cuts_15 (lX12_cuts n), tX12_cuts_66 (lX12_cuts n), tX12_cuts_111 (lX12_cuts n))
set_option maxRecDepth 1000000 in
def qX12_cuts : Nat → (SM → Int32 → Int32 → Prop) × (SM → Int32 → Int32 → Int32 → Int32 → Prop) × (SM → Int32 → Int32 → Int32 → Int32 → Int32 → Prop)
  | 0 => (fun (s : SM) (a1 : Int32) (a2 : Int32) => False, fun (s : SM) (a1 : Int32) (a2 : Int32) (a3 : Int32) (a4 : Int32) => False, fun (s : SM) (a1 : Int32) (a2 : Int32) (a3 : Int32) (a4 : Int32) (a5 : Int32) => False)
  | n + 1 => (uX12_cuts_15 (qX12_cuts n), uX12_cuts_66 (qX12_cuts n), uX12_cuts_111 (qX12_cuts n))
set_option maxRecDepth 1000000 in
noncomputable def fX12_cuts (s : SM)  : Int32 × SM := ((lX12_cuts FU).1 s (vX12_leastOf s 257 5 (gI s 248 29)) (0 : Int32))
set_option maxRecDepth 1000000 in
noncomputable def vX12_cuts (s : SM)  : Int32 := fX12_cuts s  |>.1
set_option maxRecDepth 1000000 in
noncomputable def mX12_cuts (s : SM)  : SM := fX12_cuts s  |>.2
set_option maxRecDepth 1000000 in
def rX12_cuts (s : SM)  : Prop := rX12_leastOf s 257 5 (gI s 248 29) ∧ (qX12_cuts FU).1 s (vX12_leastOf s 257 5 (gI s 248 29)) (0 : Int32)
set_option maxRecDepth 1000000 in
noncomputable def vX12_deal (s : SM) (a1 : Int32) (a2 : Int32) : Int32 := (if (vX12_isDeal s a1) = 0 then (if (vX12_throwsIf s (1 : Int32)) = 0 then (if (8 : Int32) ≤ a2 then (if a2 = (8 : Int32) then (if (vX12_isKnown (mX12_throwsIf s (1 : Int32)) a1 (vX12_living (mX12_throwsIf s (1 : Int32)) )) = 0 then (0 : Int32) else (1 : Int32)) else (vX12_valueOf (mX12_throwsIf s (1 : Int32)) a1)) else (vX12_of (mX12_throwsIf s (1 : Int32)) a1 a2)) else (0 : Int32)) else (if (vX12_throwsIf s (if (vX12_isIn s a2 (0 : Int32) (9 : Int32)) = 0 then (1 : Int32) else (0 : Int32))) = 0 then (if (8 : Int32) ≤ a2 then (if a2 = (8 : Int32) then (if (vX12_isKnown (mX12_throwsIf s (if (vX12_isIn s a2 (0 : Int32) (9 : Int32)) = 0 then (1 : Int32) else (0 : Int32))) a1 (vX12_living (mX12_throwsIf s (if (vX12_isIn s a2 (0 : Int32) (9 : Int32)) = 0 then (1 : Int32) else (0 : Int32))) )) = 0 then (0 : Int32) else (1 : Int32)) else (vX12_valueOf (mX12_throwsIf s (if (vX12_isIn s a2 (0 : Int32) (9 : Int32)) = 0 then (1 : Int32) else (0 : Int32))) a1)) else (vX12_of (mX12_throwsIf s (if (vX12_isIn s a2 (0 : Int32) (9 : Int32)) = 0 then (1 : Int32) else (0 : Int32))) a1 a2)) else (0 : Int32)))
set_option maxRecDepth 1000000 in
noncomputable def mX12_deal (s : SM) (a1 : Int32) (a2 : Int32) : SM := (if (vX12_isDeal s a1) = 0 then (mX12_throwsIf s (1 : Int32)) else (mX12_throwsIf s (if (vX12_isIn s a2 (0 : Int32) (9 : Int32)) = 0 then (1 : Int32) else (0 : Int32))))
set_option maxRecDepth 1000000 in
def rX12_deal (s : SM) (a1 : Int32) (a2 : Int32) : Prop := (((vX12_isDeal s a1) = 0 → rX12_throwsIf s (1 : Int32) ∧ ((vX12_throwsIf s (1 : Int32)) = 0 → (((8 : Int32) ≤ a2 → ((¬ a2 = (8 : Int32) → rX12_valueOf (mX12_throwsIf s (1 : Int32)) a1) ∧ (a2 = (8 : Int32) → rX12_isKnown (mX12_throwsIf s (1 : Int32)) a1 (vX12_living (mX12_throwsIf s (1 : Int32)) )))) ∧ (¬ (8 : Int32) ≤ a2 → rX12_of (mX12_throwsIf s (1 : Int32)) a1 a2)))) ∧ (¬ (vX12_isDeal s a1) = 0 → rX12_throwsIf s (if (vX12_isIn s a2 (0 : Int32) (9 : Int32)) = 0 then (1 : Int32) else (0 : Int32)) ∧ ((vX12_throwsIf s (if (vX12_isIn s a2 (0 : Int32) (9 : Int32)) = 0 then (1 : Int32) else (0 : Int32))) = 0 → (((8 : Int32) ≤ a2 → ((¬ a2 = (8 : Int32) → rX12_valueOf (mX12_throwsIf s (if (vX12_isIn s a2 (0 : Int32) (9 : Int32)) = 0 then (1 : Int32) else (0 : Int32))) a1) ∧ (a2 = (8 : Int32) → rX12_isKnown (mX12_throwsIf s (if (vX12_isIn s a2 (0 : Int32) (9 : Int32)) = 0 then (1 : Int32) else (0 : Int32))) a1 (vX12_living (mX12_throwsIf s (if (vX12_isIn s a2 (0 : Int32) (9 : Int32)) = 0 then (1 : Int32) else (0 : Int32))) )))) ∧ (¬ (8 : Int32) ≤ a2 → rX12_of (mX12_throwsIf s (if (vX12_isIn s a2 (0 : Int32) (9 : Int32)) = 0 then (1 : Int32) else (0 : Int32))) a1 a2)))))
set_option maxRecDepth 1000000 in
noncomputable def tX12_freesOf_15 (K : (SM → Int32 → Int32 → Int32 → Int32 → Int32) × (SM → Int32 → Int32 → Int32 → Int32 → Int32 → Int32)) (s : SM) (a1 : Int32) (a2 : Int32) (a3 : Int32) (a4 : Int32) : Int32 := (if a1 ≤ a4 then a3 else (if (vX12_of s (gI s 256 (a4).toNatClampNeg) (2 : Int32)) = a2 then (K.2 s a1 a2 a3 a4 (0 : Int32)) else (K.1 s a1 a2 a3 (a4 + 1))))
set_option maxRecDepth 1000000 in
def uX12_freesOf_15 (K : (SM → Int32 → Int32 → Int32 → Int32 → Prop) × (SM → Int32 → Int32 → Int32 → Int32 → Int32 → Prop)) (s : SM) (a1 : Int32) (a2 : Int32) (a3 : Int32) (a4 : Int32) : Prop := (¬ a1 ≤ a4 → vp_in a4 5 ∧ rX12_of s (gI s 256 (a4).toNatClampNeg) (2 : Int32) ∧ (((vX12_of s (gI s 256 (a4).toNatClampNeg) (2 : Int32)) = a2 → K.2 s a1 a2 a3 a4 (0 : Int32)) ∧ (¬ (vX12_of s (gI s 256 (a4).toNatClampNeg) (2 : Int32)) = a2 → K.1 s a1 a2 a3 (a4 + 1))))
set_option maxRecDepth 1000000 in
noncomputable def tX12_freesOf_43 (K : (SM → Int32 → Int32 → Int32 → Int32 → Int32) × (SM → Int32 → Int32 → Int32 → Int32 → Int32 → Int32)) (s : SM) (a1 : Int32) (a2 : Int32) (a3 : Int32) (a4 : Int32) (a5 : Int32) : Int32 := (if (2 : Int32) ≤ a5 then (K.1 s a1 a2 a3 (a4 + 1)) else (if (vX12_isLiving s (vX12_of s (gI s 256 (a4).toNatClampNeg) ((6 : Int32) + a5))) = 0 then (K.2 s a1 a2 (a3 + (0 : Int32)) a4 (a5 + 1)) else (K.2 s a1 a2 (a3 + ((vX12_sizeOf s (gI s 256 (a4).toNatClampNeg)) - (vX12_dotOf s (gI s 256 (a4).toNatClampNeg)))) a4 (a5 + 1))))
set_option maxRecDepth 1000000 in
def uX12_freesOf_43 (K : (SM → Int32 → Int32 → Int32 → Int32 → Prop) × (SM → Int32 → Int32 → Int32 → Int32 → Int32 → Prop)) (s : SM) (a1 : Int32) (a2 : Int32) (a3 : Int32) (a4 : Int32) (a5 : Int32) : Prop := (((2 : Int32) ≤ a5 → K.1 s a1 a2 a3 (a4 + 1)) ∧ (¬ (2 : Int32) ≤ a5 → vp_in a4 5 ∧ rX12_of s (gI s 256 (a4).toNatClampNeg) ((6 : Int32) + a5) ∧ (((vX12_isLiving s (vX12_of s (gI s 256 (a4).toNatClampNeg) ((6 : Int32) + a5))) = 0 → K.2 s a1 a2 (a3 + (0 : Int32)) a4 (a5 + 1)) ∧ (¬ (vX12_isLiving s (vX12_of s (gI s 256 (a4).toNatClampNeg) ((6 : Int32) + a5))) = 0 → vp_in a4 5 ∧ rX12_sizeOf s (gI s 256 (a4).toNatClampNeg) ∧ vp_in a4 5 ∧ rX12_dotOf s (gI s 256 (a4).toNatClampNeg) ∧ K.2 s a1 a2 (a3 + ((vX12_sizeOf s (gI s 256 (a4).toNatClampNeg)) - (vX12_dotOf s (gI s 256 (a4).toNatClampNeg)))) a4 (a5 + 1)))))
set_option maxRecDepth 1000000 in
noncomputable def lX12_freesOf : Nat → (SM → Int32 → Int32 → Int32 → Int32 → Int32) × (SM → Int32 → Int32 → Int32 → Int32 → Int32 → Int32)
  | 0 => (fun (s : SM) (a1 : Int32) (a2 : Int32) (a3 : Int32) (a4 : Int32) => 0, fun (s : SM) (a1 : Int32) (a2 : Int32) (a3 : Int32) (a4 : Int32) (a5 : Int32) => 0)
  | n + 1 => (tX12_freesOf_15 (lX12_freesOf n), tX12_freesOf_43 (lX12_freesOf n))
set_option maxRecDepth 1000000 in
def qX12_freesOf : Nat → (SM → Int32 → Int32 → Int32 → Int32 → Prop) × (SM → Int32 → Int32 → Int32 → Int32 → Int32 → Prop)
  | 0 => (fun (s : SM) (a1 : Int32) (a2 : Int32) (a3 : Int32) (a4 : Int32) => False, fun (s : SM) (a1 : Int32) (a2 : Int32) (a3 : Int32) (a4 : Int32) (a5 : Int32) => False)
  | n + 1 => (uX12_freesOf_15 (qX12_freesOf n), uX12_freesOf_43 (qX12_freesOf n))
set_option maxRecDepth 1000000 in
noncomputable def fX12_freesOf (s : SM) (a1 : Int32) : Int32 := ((lX12_freesOf FU).1 s a1 (vX12_leastOf s 256 5 a1) (0 : Int32) (0 : Int32))
set_option maxRecDepth 1000000 in
noncomputable def vX12_freesOf (s : SM) (a1 : Int32) : Int32 := fX12_freesOf s a1
set_option maxRecDepth 1000000 in
def rX12_freesOf (s : SM) (a1 : Int32) : Prop := rX12_leastOf s 256 5 a1 ∧ (qX12_freesOf FU).1 s a1 (vX12_leastOf s 256 5 a1) (0 : Int32) (0 : Int32)
set_option maxRecDepth 1000000 in
noncomputable def tX12_fullest_18 (K : (SM → Int32 → Int32 → Int32 → Int32 × SM) × (SM → Int32 → Int32 → Int32 → Int32 → Int32 → Int32 × SM)) (s : SM) (a1 : Int32) (a2 : Int32) (a3 : Int32) : Int32 × SM := (if a2 = 0 then ((-1 : Int32), s) else (K.2 s a1 a2 a3 (-1 : Int32) (0 : Int32)))
set_option maxRecDepth 1000000 in
def uX12_fullest_18 (K : (SM → Int32 → Int32 → Int32 → Prop) × (SM → Int32 → Int32 → Int32 → Int32 → Int32 → Prop)) (s : SM) (a1 : Int32) (a2 : Int32) (a3 : Int32) : Prop := (¬ a2 = 0 → K.2 s a1 a2 a3 (-1 : Int32) (0 : Int32))
set_option maxRecDepth 1000000 in
noncomputable def tX12_fullest_28 (K : (SM → Int32 → Int32 → Int32 → Int32 × SM) × (SM → Int32 → Int32 → Int32 → Int32 → Int32 → Int32 × SM)) (s : SM) (a1 : Int32) (a2 : Int32) (a3 : Int32) (a4 : Int32) (a5 : Int32) : Int32 × SM := (if (gI s 250 ((0 : Int32)).toNatClampNeg) ≤ a5 then (if a3 = a1 then (a4, s) else (K.1 s a1 (a2 &&& (((1 : Int32) <<< (a4 &&& 31)) ^^^ (-1 : Int32))) (a3 + 1))) else (if (vX12_has s a2 a5) = 0 then (K.2 s a1 a2 a3 a4 (a5 + 1)) else (if a4 < 0 then (K.2 s a1 a2 a3 a5 (a5 + 1)) else (if (vX12_leftOf s a4) ≤ (vX12_leftOf s a5) then (K.2 s a1 a2 a3 a4 (a5 + 1)) else (K.2 s a1 a2 a3 a5 (a5 + 1))))))
set_option maxRecDepth 1000000 in
def uX12_fullest_28 (K : (SM → Int32 → Int32 → Int32 → Prop) × (SM → Int32 → Int32 → Int32 → Int32 → Int32 → Prop)) (s : SM) (a1 : Int32) (a2 : Int32) (a3 : Int32) (a4 : Int32) (a5 : Int32) : Prop := (((gI s 250 ((0 : Int32)).toNatClampNeg) ≤ a5 → (¬ a3 = a1 → K.1 s a1 (a2 &&& (((1 : Int32) <<< (a4 &&& 31)) ^^^ (-1 : Int32))) (a3 + 1))) ∧ (¬ (gI s 250 ((0 : Int32)).toNatClampNeg) ≤ a5 → (((vX12_has s a2 a5) = 0 → K.2 s a1 a2 a3 a4 (a5 + 1)) ∧ (¬ (vX12_has s a2 a5) = 0 → ((a4 < 0 → K.2 s a1 a2 a3 a5 (a5 + 1)) ∧ (¬ a4 < 0 → rX12_leftOf s a5 ∧ rX12_leftOf s a4 ∧ (((vX12_leftOf s a4) ≤ (vX12_leftOf s a5) → K.2 s a1 a2 a3 a4 (a5 + 1)) ∧ (¬ (vX12_leftOf s a4) ≤ (vX12_leftOf s a5) → K.2 s a1 a2 a3 a5 (a5 + 1)))))))))
set_option maxRecDepth 1000000 in
noncomputable def lX12_fullest : Nat → (SM → Int32 → Int32 → Int32 → Int32 × SM) × (SM → Int32 → Int32 → Int32 → Int32 → Int32 → Int32 × SM)
  | 0 => (fun (s : SM) (a1 : Int32) (a2 : Int32) (a3 : Int32) => (0, s), fun (s : SM) (a1 : Int32) (a2 : Int32) (a3 : Int32) (a4 : Int32) (a5 : Int32) => (0, s))
  | n + 1 => (tX12_fullest_18 (lX12_fullest n), tX12_fullest_28 (lX12_fullest n))
set_option maxRecDepth 1000000 in
def qX12_fullest : Nat → (SM → Int32 → Int32 → Int32 → Prop) × (SM → Int32 → Int32 → Int32 → Int32 → Int32 → Prop)
  | 0 => (fun (s : SM) (a1 : Int32) (a2 : Int32) (a3 : Int32) => False, fun (s : SM) (a1 : Int32) (a2 : Int32) (a3 : Int32) (a4 : Int32) (a5 : Int32) => False)
  | n + 1 => (uX12_fullest_18 (qX12_fullest n), uX12_fullest_28 (qX12_fullest n))
set_option maxRecDepth 1000000 in
noncomputable def fX12_fullest (s : SM) (a1 : Int32) : Int32 × SM := (if 0 ≤ a1 then ((lX12_fullest FU).1 (pI s 248 0 (0 : Int32)) a1 (vX12_living (pI s 248 0 (0 : Int32)) ) (0 : Int32)) else ((-1 : Int32), (pI s 248 0 (0 : Int32))))
set_option maxRecDepth 1000000 in
noncomputable def vX12_fullest (s : SM) (a1 : Int32) : Int32 := fX12_fullest s a1 |>.1
set_option maxRecDepth 1000000 in
noncomputable def mX12_fullest (s : SM) (a1 : Int32) : SM := fX12_fullest s a1 |>.2
set_option maxRecDepth 1000000 in
def rX12_fullest (s : SM) (a1 : Int32) : Prop := (0 ≤ a1 → (qX12_fullest FU).1 (pI s 248 0 (0 : Int32)) a1 (vX12_living (pI s 248 0 (0 : Int32)) ) (0 : Int32))
set_option maxRecDepth 1000000 in
noncomputable def tX12_greatest_7 (K : (SM → Int32 → Int32 → Int32 × SM) × (SM → Int32 → Int32 → Int32 → Int32 → Int32 × SM)) (s : SM) (a1 : Int32) (a2 : Int32) : Int32 × SM := (if (gI s 250 ((34 : Int32)).toNatClampNeg) ≤ a2 then ((-1 : Int32), s) else (if (vX12_isOpen s a2) = 0 then (K.1 s a1 (a2 + 1)) else (K.2 s a1 a2 (0 : Int32) (0 : Int32))))
set_option maxRecDepth 1000000 in
def uX12_greatest_7 (K : (SM → Int32 → Int32 → Prop) × (SM → Int32 → Int32 → Int32 → Int32 → Prop)) (s : SM) (a1 : Int32) (a2 : Int32) : Prop := (¬ (gI s 250 ((34 : Int32)).toNatClampNeg) ≤ a2 → rX12_isOpen s a2 ∧ ((¬ (vX12_isOpen s a2) = 0 → K.2 s a1 a2 (0 : Int32) (0 : Int32)) ∧ ((vX12_isOpen s a2) = 0 → K.1 s a1 (a2 + 1))))
set_option maxRecDepth 1000000 in
noncomputable def tX12_greatest_34 (K : (SM → Int32 → Int32 → Int32 × SM) × (SM → Int32 → Int32 → Int32 → Int32 → Int32 × SM)) (s : SM) (a1 : Int32) (a2 : Int32) (a3 : Int32) (a4 : Int32) : Int32 × SM := (if (gI s 250 ((34 : Int32)).toNatClampNeg) ≤ a4 then (if a3 = a1 then (a2, s) else (K.1 s a1 (a2 + 1))) else (if (vX12_isOpen s a4) = 0 then (K.2 s a1 a2 (a3 + (0 : Int32)) (a4 + 1)) else (if (vX12_valueOf s a2) < (vX12_valueOf s a4) then (K.2 s a1 a2 (a3 + (1 : Int32)) (a4 + 1)) else (K.2 s a1 a2 (a3 + (if (vX12_valueOf s a4) = (vX12_valueOf s a2) then (if a2 ≤ a4 then (0 : Int32) else (1 : Int32)) else (0 : Int32))) (a4 + 1)))))
set_option maxRecDepth 1000000 in
def uX12_greatest_34 (K : (SM → Int32 → Int32 → Prop) × (SM → Int32 → Int32 → Int32 → Int32 → Prop)) (s : SM) (a1 : Int32) (a2 : Int32) (a3 : Int32) (a4 : Int32) : Prop := (((gI s 250 ((34 : Int32)).toNatClampNeg) ≤ a4 → (¬ a3 = a1 → K.1 s a1 (a2 + 1))) ∧ (¬ (gI s 250 ((34 : Int32)).toNatClampNeg) ≤ a4 → rX12_isOpen s a4 ∧ (((vX12_isOpen s a4) = 0 → K.2 s a1 a2 (a3 + (0 : Int32)) (a4 + 1)) ∧ (¬ (vX12_isOpen s a4) = 0 → rX12_valueOf s a4 ∧ rX12_valueOf s a2 ∧ (((vX12_valueOf s a2) < (vX12_valueOf s a4) → K.2 s a1 a2 (a3 + (1 : Int32)) (a4 + 1)) ∧ (¬ (vX12_valueOf s a2) < (vX12_valueOf s a4) → rX12_valueOf s a4 ∧ rX12_valueOf s a2 ∧ K.2 s a1 a2 (a3 + (if (vX12_valueOf s a4) = (vX12_valueOf s a2) then (if a2 ≤ a4 then (0 : Int32) else (1 : Int32)) else (0 : Int32))) (a4 + 1)))))))
set_option maxRecDepth 1000000 in
noncomputable def lX12_greatest : Nat → (SM → Int32 → Int32 → Int32 × SM) × (SM → Int32 → Int32 → Int32 → Int32 → Int32 × SM)
  | 0 => (fun (s : SM) (a1 : Int32) (a2 : Int32) => (0, s), fun (s : SM) (a1 : Int32) (a2 : Int32) (a3 : Int32) (a4 : Int32) => (0, s))
  | n + 1 => (tX12_greatest_7 (lX12_greatest n), tX12_greatest_34 (lX12_greatest n))
set_option maxRecDepth 1000000 in
def qX12_greatest : Nat → (SM → Int32 → Int32 → Prop) × (SM → Int32 → Int32 → Int32 → Int32 → Prop)
  | 0 => (fun (s : SM) (a1 : Int32) (a2 : Int32) => False, fun (s : SM) (a1 : Int32) (a2 : Int32) (a3 : Int32) (a4 : Int32) => False)
  | n + 1 => (uX12_greatest_7 (qX12_greatest n), uX12_greatest_34 (qX12_greatest n))
set_option maxRecDepth 1000000 in
noncomputable def fX12_greatest (s : SM) (a1 : Int32) : Int32 × SM := ((lX12_greatest FU).1 (pI s 248 0 (0 : Int32)) a1 (0 : Int32))
set_option maxRecDepth 1000000 in
noncomputable def vX12_greatest (s : SM) (a1 : Int32) : Int32 := fX12_greatest s a1 |>.1
set_option maxRecDepth 1000000 in
noncomputable def mX12_greatest (s : SM) (a1 : Int32) : SM := fX12_greatest s a1 |>.2
set_option maxRecDepth 1000000 in
def rX12_greatest (s : SM) (a1 : Int32) : Prop := (qX12_greatest FU).1 (pI s 248 0 (0 : Int32)) a1 (0 : Int32)
set_option maxRecDepth 1000000 in
noncomputable def vX12_isLost (s : SM) (a1 : Int32) : Int32 := (if (vX12_isOpen s a1) = 0 then (0 : Int32) else (if (vX12_sortOf s a1) = (3 : Int32) then (0 : Int32) else (if (vX12_isKnown s a1 (vX12_living s )) = 0 then (1 : Int32) else (0 : Int32))))
set_option maxRecDepth 1000000 in
def rX12_isLost (s : SM) (a1 : Int32) : Prop := rX12_isOpen s a1 ∧ (¬ (vX12_isOpen s a1) = 0 → rX12_sortOf s a1 ∧ (¬ (vX12_sortOf s a1) = (3 : Int32) → rX12_isKnown s a1 (vX12_living s )))
set_option maxRecDepth 1000000 in
noncomputable def vX12_isRingDeal (s : SM) (a1 : Int32) : Int32 := (if (vX12_isOpen s a1) = 0 then (0 : Int32) else (if (vX12_sortOf s a1) = 0 then (1 : Int32) else (if (vX12_sortOf s a1) = (4 : Int32) then (1 : Int32) else (0 : Int32))))
set_option maxRecDepth 1000000 in
def rX12_isRingDeal (s : SM) (a1 : Int32) : Prop := rX12_isOpen s a1 ∧ (¬ (vX12_isOpen s a1) = 0 → rX12_sortOf s a1 ∧ (¬ (vX12_sortOf s a1) = 0 → rX12_sortOf s a1))
set_option maxRecDepth 1000000 in
noncomputable def tX12_latestFrom_4 (K : (SM → Int32 → Int32 → Int32 → Int32)) (s : SM) (a1 : Int32) (a2 : Int32) (a3 : Int32) : Int32 := (if (gI s 250 ((34 : Int32)).toNatClampNeg) ≤ a3 then a2 else (K s a1 (if (vX12_isOpen s a3) = 0 then a2 else a3) (a3 + 1)))
set_option maxRecDepth 1000000 in
def uX12_latestFrom_4 (K : (SM → Int32 → Int32 → Int32 → Prop)) (s : SM) (a1 : Int32) (a2 : Int32) (a3 : Int32) : Prop := (¬ (gI s 250 ((34 : Int32)).toNatClampNeg) ≤ a3 → rX12_isOpen s a3 ∧ K s a1 (if (vX12_isOpen s a3) = 0 then a2 else a3) (a3 + 1))
set_option maxRecDepth 1000000 in
noncomputable def lX12_latestFrom : Nat → (SM → Int32 → Int32 → Int32 → Int32)
  | 0 => fun (s : SM) (a1 : Int32) (a2 : Int32) (a3 : Int32) => 0
  | n + 1 => tX12_latestFrom_4 (lX12_latestFrom n)
set_option maxRecDepth 1000000 in
def qX12_latestFrom : Nat → (SM → Int32 → Int32 → Int32 → Prop)
  | 0 => fun (s : SM) (a1 : Int32) (a2 : Int32) (a3 : Int32) => False
  | n + 1 => uX12_latestFrom_4 (qX12_latestFrom n)
set_option maxRecDepth 1000000 in
noncomputable def fX12_latestFrom (s : SM) (a1 : Int32) : Int32 := ((lX12_latestFrom FU) s a1 (-1 : Int32) a1)
set_option maxRecDepth 1000000 in
noncomputable def vX12_latestFrom (s : SM) (a1 : Int32) : Int32 := fX12_latestFrom s a1
set_option maxRecDepth 1000000 in
def rX12_latestFrom (s : SM) (a1 : Int32) : Prop := (qX12_latestFrom FU) s a1 (-1 : Int32) a1
set_option maxRecDepth 1000000 in
noncomputable def tX12_netOf_4 (K : (SM → Int32 → Int32 → Int32 → Int32)) (s : SM) (a1 : Int32) (a2 : Int32) (a3 : Int32) : Int32 := (if (gI s 250 ((34 : Int32)).toNatClampNeg) ≤ a3 then a2 else (if (vX12_isOpen s a3) = 0 then (K s a1 a2 (a3 + 1)) else (if (vX12_of s a3 (0 : Int32)) = a1 then (if (vX12_of s a3 (1 : Int32)) = a1 then (K s a1 ((a2 + (vX12_valueOf s a3)) - (vX12_valueOf s a3)) (a3 + 1)) else (K s a1 ((a2 + (vX12_valueOf s a3)) - (0 : Int32)) (a3 + 1))) else (if (vX12_of s a3 (1 : Int32)) = a1 then (K s a1 ((a2 + (0 : Int32)) - (vX12_valueOf s a3)) (a3 + 1)) else (K s a1 ((a2 + (0 : Int32)) - (0 : Int32)) (a3 + 1))))))
set_option maxRecDepth 1000000 in
def uX12_netOf_4 (K : (SM → Int32 → Int32 → Int32 → Prop)) (s : SM) (a1 : Int32) (a2 : Int32) (a3 : Int32) : Prop := (¬ (gI s 250 ((34 : Int32)).toNatClampNeg) ≤ a3 → rX12_isOpen s a3 ∧ ((¬ (vX12_isOpen s a3) = 0 → rX12_of s a3 (0 : Int32) ∧ ((¬ (vX12_of s a3 (0 : Int32)) = a1 → rX12_of s a3 (1 : Int32) ∧ ((¬ (vX12_of s a3 (1 : Int32)) = a1 → K s a1 ((a2 + (0 : Int32)) - (0 : Int32)) (a3 + 1)) ∧ ((vX12_of s a3 (1 : Int32)) = a1 → rX12_valueOf s a3 ∧ K s a1 ((a2 + (0 : Int32)) - (vX12_valueOf s a3)) (a3 + 1)))) ∧ ((vX12_of s a3 (0 : Int32)) = a1 → rX12_valueOf s a3 ∧ rX12_of s a3 (1 : Int32) ∧ ((¬ (vX12_of s a3 (1 : Int32)) = a1 → K s a1 ((a2 + (vX12_valueOf s a3)) - (0 : Int32)) (a3 + 1)) ∧ ((vX12_of s a3 (1 : Int32)) = a1 → rX12_valueOf s a3 ∧ K s a1 ((a2 + (vX12_valueOf s a3)) - (vX12_valueOf s a3)) (a3 + 1)))))) ∧ ((vX12_isOpen s a3) = 0 → K s a1 a2 (a3 + 1))))
set_option maxRecDepth 1000000 in
noncomputable def lX12_netOf : Nat → (SM → Int32 → Int32 → Int32 → Int32)
  | 0 => fun (s : SM) (a1 : Int32) (a2 : Int32) (a3 : Int32) => 0
  | n + 1 => tX12_netOf_4 (lX12_netOf n)
set_option maxRecDepth 1000000 in
def qX12_netOf : Nat → (SM → Int32 → Int32 → Int32 → Prop)
  | 0 => fun (s : SM) (a1 : Int32) (a2 : Int32) (a3 : Int32) => False
  | n + 1 => uX12_netOf_4 (qX12_netOf n)
set_option maxRecDepth 1000000 in
noncomputable def fX12_netOf (s : SM) (a1 : Int32) : Int32 := ((lX12_netOf FU) s a1 (0 : Int32) (0 : Int32))
set_option maxRecDepth 1000000 in
noncomputable def vX12_netOf (s : SM) (a1 : Int32) : Int32 := fX12_netOf s a1
set_option maxRecDepth 1000000 in
def rX12_netOf (s : SM) (a1 : Int32) : Prop := (qX12_netOf FU) s a1 (0 : Int32) (0 : Int32)
set_option maxRecDepth 1000000 in
noncomputable def tX12_openMany_4 (K : (SM → Int32 → Int32 → Int32)) (s : SM) (a1 : Int32) (a2 : Int32) : Int32 := (if (gI s 250 ((34 : Int32)).toNatClampNeg) ≤ a2 then a1 else (K s (a1 + (if (vX12_isOpen s a2) = 0 then (0 : Int32) else (1 : Int32))) (a2 + 1)))
set_option maxRecDepth 1000000 in
def uX12_openMany_4 (K : (SM → Int32 → Int32 → Prop)) (s : SM) (a1 : Int32) (a2 : Int32) : Prop := (¬ (gI s 250 ((34 : Int32)).toNatClampNeg) ≤ a2 → rX12_isOpen s a2 ∧ K s (a1 + (if (vX12_isOpen s a2) = 0 then (0 : Int32) else (1 : Int32))) (a2 + 1))
set_option maxRecDepth 1000000 in
noncomputable def lX12_openMany : Nat → (SM → Int32 → Int32 → Int32)
  | 0 => fun (s : SM) (a1 : Int32) (a2 : Int32) => 0
  | n + 1 => tX12_openMany_4 (lX12_openMany n)
set_option maxRecDepth 1000000 in
def qX12_openMany : Nat → (SM → Int32 → Int32 → Prop)
  | 0 => fun (s : SM) (a1 : Int32) (a2 : Int32) => False
  | n + 1 => uX12_openMany_4 (qX12_openMany n)
set_option maxRecDepth 1000000 in
noncomputable def fX12_openMany (s : SM)  : Int32 := ((lX12_openMany FU) s (0 : Int32) (0 : Int32))
set_option maxRecDepth 1000000 in
noncomputable def vX12_openMany (s : SM)  : Int32 := fX12_openMany s 
set_option maxRecDepth 1000000 in
def rX12_openMany (s : SM)  : Prop := (qX12_openMany FU) s (0 : Int32) (0 : Int32)
set_option maxRecDepth 1000000 in
noncomputable def tX12_owedBy_6 (K : (SM → Int32 → Int32 → Int32 → Int32 → Int32 → Int32) × (SM → Int32 → Int32 → Int32 → Int32 → Int32 → Int32) × (SM → Int32 → Int32 → Int32 → Int32 → Int32 → Int32) × (SM → Int32 → Int32 → Int32 → Int32 → Int32 → Int32)) (s : SM) (a1 : Int32) (a2 : Int32) (a3 : Int32) (a4 : Int32) (a5 : Int32) : Int32 := (if (gI s 250 ((34 : Int32)).toNatClampNeg) ≤ a5 then a4 else (if (vX12_isOpen s a5) = 0 then (K.1 s a1 a2 a3 a4 (a5 + 1)) else (if (vX12_of s a5 (0 : Int32)) = a1 then (if (vX12_of s a5 (6 : Int32)) < 0 then (K.2.1 s a1 a2 a3 a4 a5) else (if (vX12_has s a2 (vX12_of s a5 (6 : Int32))) = 0 then (K.2.1 s a1 a2 a3 a4 a5) else (K.2.2.1 s a1 a2 a3 a4 a5))) else (K.1 s a1 a2 a3 a4 (a5 + 1)))))
set_option maxRecDepth 1000000 in
def uX12_owedBy_6 (K : (SM → Int32 → Int32 → Int32 → Int32 → Int32 → Prop) × (SM → Int32 → Int32 → Int32 → Int32 → Int32 → Prop) × (SM → Int32 → Int32 → Int32 → Int32 → Int32 → Prop) × (SM → Int32 → Int32 → Int32 → Int32 → Int32 → Prop)) (s : SM) (a1 : Int32) (a2 : Int32) (a3 : Int32) (a4 : Int32) (a5 : Int32) : Prop := (¬ (gI s 250 ((34 : Int32)).toNatClampNeg) ≤ a5 → rX12_isOpen s a5 ∧ (((vX12_isOpen s a5) = 0 → K.1 s a1 a2 a3 a4 (a5 + 1)) ∧ (¬ (vX12_isOpen s a5) = 0 → rX12_of s a5 (0 : Int32) ∧ (((vX12_of s a5 (0 : Int32)) = a1 → rX12_of s a5 (6 : Int32) ∧ (((vX12_of s a5 (6 : Int32)) < 0 → K.2.1 s a1 a2 a3 a4 a5) ∧ (¬ (vX12_of s a5 (6 : Int32)) < 0 → rX12_of s a5 (6 : Int32) ∧ ((¬ (vX12_has s a2 (vX12_of s a5 (6 : Int32))) = 0 → K.2.2.1 s a1 a2 a3 a4 a5) ∧ ((vX12_has s a2 (vX12_of s a5 (6 : Int32))) = 0 → K.2.1 s a1 a2 a3 a4 a5))))) ∧ (¬ (vX12_of s a5 (0 : Int32)) = a1 → K.1 s a1 a2 a3 a4 (a5 + 1))))))
set_option maxRecDepth 1000000 in
noncomputable def tX12_owedBy_67 (K : (SM → Int32 → Int32 → Int32 → Int32 → Int32 → Int32) × (SM → Int32 → Int32 → Int32 → Int32 → Int32 → Int32) × (SM → Int32 → Int32 → Int32 → Int32 → Int32 → Int32) × (SM → Int32 → Int32 → Int32 → Int32 → Int32 → Int32)) (s : SM) (a1 : Int32) (a2 : Int32) (a3 : Int32) (a4 : Int32) (a5 : Int32) : Int32 := (if (vX12_of s a5 (7 : Int32)) < 0 then (K.2.2.2 s a1 a2 a3 a4 a5) else (if (vX12_has s a2 (vX12_of s a5 (7 : Int32))) = 0 then (K.2.2.2 s a1 a2 a3 a4 a5) else (K.2.2.1 s a1 a2 a3 a4 a5)))
set_option maxRecDepth 1000000 in
def uX12_owedBy_67 (K : (SM → Int32 → Int32 → Int32 → Int32 → Int32 → Prop) × (SM → Int32 → Int32 → Int32 → Int32 → Int32 → Prop) × (SM → Int32 → Int32 → Int32 → Int32 → Int32 → Prop) × (SM → Int32 → Int32 → Int32 → Int32 → Int32 → Prop)) (s : SM) (a1 : Int32) (a2 : Int32) (a3 : Int32) (a4 : Int32) (a5 : Int32) : Prop := rX12_of s a5 (7 : Int32) ∧ (((vX12_of s a5 (7 : Int32)) < 0 → K.2.2.2 s a1 a2 a3 a4 a5) ∧ (¬ (vX12_of s a5 (7 : Int32)) < 0 → rX12_of s a5 (7 : Int32) ∧ (((vX12_has s a2 (vX12_of s a5 (7 : Int32))) = 0 → K.2.2.2 s a1 a2 a3 a4 a5) ∧ (¬ (vX12_has s a2 (vX12_of s a5 (7 : Int32))) = 0 → K.2.2.1 s a1 a2 a3 a4 a5))))
set_option maxRecDepth 1000000 in
noncomputable def tX12_owedBy_93 (K : (SM → Int32 → Int32 → Int32 → Int32 → Int32 → Int32) × (SM → Int32 → Int32 → Int32 → Int32 → Int32 → Int32) × (SM → Int32 → Int32 → Int32 → Int32 → Int32 → Int32) × (SM → Int32 → Int32 → Int32 → Int32 → Int32 → Int32)) (s : SM) (a1 : Int32) (a2 : Int32) (a3 : Int32) (a4 : Int32) (a5 : Int32) : Int32 := (if (vX12_isKnown s a5 a2) = 0 then (if a3 = 0 then (if (1 : Int32) = 0 then (K.1 s a1 a2 a3 a4 (a5 + 1)) else (K.1 s a1 a2 a3 (a4 + (vX12_valueBy s (99 : Int32) (vX12_sortOf s a5))) (a5 + 1))) else (K.1 s a1 a2 a3 a4 (a5 + 1))) else (K.1 s a1 a2 a3 (a4 + (vX12_valueOf s a5)) (a5 + 1)))
set_option maxRecDepth 1000000 in
def uX12_owedBy_93 (K : (SM → Int32 → Int32 → Int32 → Int32 → Int32 → Prop) × (SM → Int32 → Int32 → Int32 → Int32 → Int32 → Prop) × (SM → Int32 → Int32 → Int32 → Int32 → Int32 → Prop) × (SM → Int32 → Int32 → Int32 → Int32 → Int32 → Prop)) (s : SM) (a1 : Int32) (a2 : Int32) (a3 : Int32) (a4 : Int32) (a5 : Int32) : Prop := rX12_isKnown s a5 a2 ∧ (((vX12_isKnown s a5 a2) = 0 → ((¬ a3 = 0 → K.1 s a1 a2 a3 a4 (a5 + 1)) ∧ (a3 = 0 → (((1 : Int32) = 0 → K.1 s a1 a2 a3 a4 (a5 + 1)) ∧ (¬ (1 : Int32) = 0 → rX12_sortOf s a5 ∧ K.1 s a1 a2 a3 (a4 + (vX12_valueBy s (99 : Int32) (vX12_sortOf s a5))) (a5 + 1)))))) ∧ (¬ (vX12_isKnown s a5 a2) = 0 → rX12_valueOf s a5 ∧ K.1 s a1 a2 a3 (a4 + (vX12_valueOf s a5)) (a5 + 1)))
set_option maxRecDepth 1000000 in
noncomputable def tX12_owedBy_97 (K : (SM → Int32 → Int32 → Int32 → Int32 → Int32 → Int32) × (SM → Int32 → Int32 → Int32 → Int32 → Int32 → Int32) × (SM → Int32 → Int32 → Int32 → Int32 → Int32 → Int32) × (SM → Int32 → Int32 → Int32 → Int32 → Int32 → Int32)) (s : SM) (a1 : Int32) (a2 : Int32) (a3 : Int32) (a4 : Int32) (a5 : Int32) : Int32 := (if (vX12_isKnown s a5 a2) = 0 then (if a3 = 0 then (if (0 : Int32) = 0 then (K.1 s a1 a2 a3 a4 (a5 + 1)) else (K.1 s a1 a2 a3 (a4 + (vX12_valueBy s (99 : Int32) (vX12_sortOf s a5))) (a5 + 1))) else (K.1 s a1 a2 a3 a4 (a5 + 1))) else (K.1 s a1 a2 a3 (a4 + (vX12_valueOf s a5)) (a5 + 1)))
set_option maxRecDepth 1000000 in
def uX12_owedBy_97 (K : (SM → Int32 → Int32 → Int32 → Int32 → Int32 → Prop) × (SM → Int32 → Int32 → Int32 → Int32 → Int32 → Prop) × (SM → Int32 → Int32 → Int32 → Int32 → Int32 → Prop) × (SM → Int32 → Int32 → Int32 → Int32 → Int32 → Prop)) (s : SM) (a1 : Int32) (a2 : Int32) (a3 : Int32) (a4 : Int32) (a5 : Int32) : Prop := rX12_isKnown s a5 a2 ∧ (((vX12_isKnown s a5 a2) = 0 → ((¬ a3 = 0 → K.1 s a1 a2 a3 a4 (a5 + 1)) ∧ (a3 = 0 → (((0 : Int32) = 0 → K.1 s a1 a2 a3 a4 (a5 + 1)) ∧ (¬ (0 : Int32) = 0 → rX12_sortOf s a5 ∧ K.1 s a1 a2 a3 (a4 + (vX12_valueBy s (99 : Int32) (vX12_sortOf s a5))) (a5 + 1)))))) ∧ (¬ (vX12_isKnown s a5 a2) = 0 → rX12_valueOf s a5 ∧ K.1 s a1 a2 a3 (a4 + (vX12_valueOf s a5)) (a5 + 1)))
set_option maxRecDepth 1000000 in
noncomputable def lX12_owedBy : Nat → (SM → Int32 → Int32 → Int32 → Int32 → Int32 → Int32) × (SM → Int32 → Int32 → Int32 → Int32 → Int32 → Int32) × (SM → Int32 → Int32 → Int32 → Int32 → Int32 → Int32) × (SM → Int32 → Int32 → Int32 → Int32 → Int32 → Int32)
  | 0 => (fun (s : SM) (a1 : Int32) (a2 : Int32) (a3 : Int32) (a4 : Int32) (a5 : Int32) => 0, fun (s : SM) (a1 : Int32) (a2 : Int32) (a3 : Int32) (a4 : Int32) (a5 : Int32) => 0, fun (s : SM) (a1 : Int32) (a2 : Int32) (a3 : Int32) (a4 : Int32) (a5 : Int32) => 0, fun (s : SM) (a1 : Int32) (a2 : Int32) (a3 : Int32) (a4 : Int32) (a5 : Int32) => 0)
  | n + 1 => (tX12_owedBy_6 (lX12_owedBy n), tX12_owedBy_67 (lX12_owedBy n), tX12_owedBy_93 (lX12_owedBy n), tX12_owedBy_97 (lX12_owedBy n))
set_option maxRecDepth 1000000 in
def qX12_owedBy : Nat → (SM → Int32 → Int32 → Int32 → Int32 → Int32 → Prop) × (SM → Int32 → Int32 → Int32 → Int32 → Int32 → Prop) × (SM → Int32 → Int32 → Int32 → Int32 → Int32 → Prop) × (SM → Int32 → Int32 → Int32 → Int32 → Int32 → Prop)
  | 0 => (fun (s : SM) (a1 : Int32) (a2 : Int32) (a3 : Int32) (a4 : Int32) (a5 : Int32) => False, fun (s : SM) (a1 : Int32) (a2 : Int32) (a3 : Int32) (a4 : Int32) (a5 : Int32) => False, fun (s : SM) (a1 : Int32) (a2 : Int32) (a3 : Int32) (a4 : Int32) (a5 : Int32) => False, fun (s : SM) (a1 : Int32) (a2 : Int32) (a3 : Int32) (a4 : Int32) (a5 : Int32) => False)
  | n + 1 => (uX12_owedBy_6 (qX12_owedBy n), uX12_owedBy_67 (qX12_owedBy n), uX12_owedBy_93 (qX12_owedBy n), uX12_owedBy_97 (qX12_owedBy n))
set_option maxRecDepth 1000000 in
noncomputable def fX12_owedBy (s : SM) (a1 : Int32) (a2 : Int32) (a3 : Int32) : Int32 := ((lX12_owedBy FU).1 s a1 a2 a3 (0 : Int32) (0 : Int32))
set_option maxRecDepth 1000000 in
noncomputable def vX12_owedBy (s : SM) (a1 : Int32) (a2 : Int32) (a3 : Int32) : Int32 := fX12_owedBy s a1 a2 a3
set_option maxRecDepth 1000000 in
def rX12_owedBy (s : SM) (a1 : Int32) (a2 : Int32) (a3 : Int32) : Prop := (qX12_owedBy FU).1 s a1 a2 a3 (0 : Int32) (0 : Int32)
set_option maxRecDepth 1000000 in
noncomputable def tX12_owes_29 (K : (SM → Int32 → Int32 → Int32 → Int32 → Int32 × SM)) (s : SM) (a1 : Int32) (a2 : Int32) (a3 : Int32) (a4 : Int32) : Int32 × SM := (if (gI s 250 ((34 : Int32)).toNatClampNeg) ≤ a4 then (a3, s) else (if (vX12_isOpen s a4) = 0 then (K s a1 a2 a3 (a4 + 1)) else (if (vX12_of s a4 a2) = a1 then (K s a1 a2 (a3 ||| ((1 : Int32) <<< ((vX12_of s a4 ((1 : Int32) - a2)) &&& 31))) (a4 + 1)) else (K s a1 a2 a3 (a4 + 1)))))
set_option maxRecDepth 1000000 in
def uX12_owes_29 (K : (SM → Int32 → Int32 → Int32 → Int32 → Prop)) (s : SM) (a1 : Int32) (a2 : Int32) (a3 : Int32) (a4 : Int32) : Prop := (¬ (gI s 250 ((34 : Int32)).toNatClampNeg) ≤ a4 → rX12_isOpen s a4 ∧ (((vX12_isOpen s a4) = 0 → K s a1 a2 a3 (a4 + 1)) ∧ (¬ (vX12_isOpen s a4) = 0 → rX12_of s a4 a2 ∧ ((¬ (vX12_of s a4 a2) = a1 → K s a1 a2 a3 (a4 + 1)) ∧ ((vX12_of s a4 a2) = a1 → rX12_of s a4 ((1 : Int32) - a2) ∧ K s a1 a2 (a3 ||| ((1 : Int32) <<< ((vX12_of s a4 ((1 : Int32) - a2)) &&& 31))) (a4 + 1))))))
set_option maxRecDepth 1000000 in
noncomputable def lX12_owes : Nat → (SM → Int32 → Int32 → Int32 → Int32 → Int32 × SM)
  | 0 => fun (s : SM) (a1 : Int32) (a2 : Int32) (a3 : Int32) (a4 : Int32) => (0, s)
  | n + 1 => tX12_owes_29 (lX12_owes n)
set_option maxRecDepth 1000000 in
def qX12_owes : Nat → (SM → Int32 → Int32 → Int32 → Int32 → Prop)
  | 0 => fun (s : SM) (a1 : Int32) (a2 : Int32) (a3 : Int32) (a4 : Int32) => False
  | n + 1 => uX12_owes_29 (qX12_owes n)
set_option maxRecDepth 1000000 in
noncomputable def fX12_owes (s : SM) (a1 : Int32) (a2 : Int32) : Int32 × SM := (if (vX12_isBody (pI s 248 0 (0 : Int32)) a1) = 0 then ((-1 : Int32), (pI s 248 0 (0 : Int32))) else (if (vX12_isIn (pI s 248 0 (0 : Int32)) a2 (0 : Int32) (1 : Int32)) = 0 then ((-1 : Int32), (pI s 248 0 (0 : Int32))) else ((lX12_owes FU) (pI s 248 0 (0 : Int32)) a1 a2 (0 : Int32) (0 : Int32))))
set_option maxRecDepth 1000000 in
noncomputable def vX12_owes (s : SM) (a1 : Int32) (a2 : Int32) : Int32 := fX12_owes s a1 a2 |>.1
set_option maxRecDepth 1000000 in
noncomputable def mX12_owes (s : SM) (a1 : Int32) (a2 : Int32) : SM := fX12_owes s a1 a2 |>.2
set_option maxRecDepth 1000000 in
def rX12_owes (s : SM) (a1 : Int32) (a2 : Int32) : Prop := (¬ (vX12_isBody (pI s 248 0 (0 : Int32)) a1) = 0 → (¬ (vX12_isIn (pI s 248 0 (0 : Int32)) a2 (0 : Int32) (1 : Int32)) = 0 → (qX12_owes FU) (pI s 248 0 (0 : Int32)) a1 a2 (0 : Int32) (0 : Int32)))
set_option maxRecDepth 1000000 in
noncomputable def tX12_portLine_324 (K : (SM → Int32 → Int32 × SM) × (SM → Int32 → Int32 × SM)) (s : SM) (a1 : Int32) : Int32 × SM := (if a1 = 0 then (if (gI s 248 21) = 0 then (K.2 s a1) else ((vX12_bad s (3 : Int32)), (mX12_bad s (3 : Int32)))) else (if (gI s 248 20) = 0 then (K.2 s a1) else ((vX12_bad s (3 : Int32)), (mX12_bad s (3 : Int32)))))
set_option maxRecDepth 1000000 in
def uX12_portLine_324 (K : (SM → Int32 → Prop) × (SM → Int32 → Prop)) (s : SM) (a1 : Int32) : Prop := ((a1 = 0 → ((gI s 248 21) = 0 → K.2 s a1)) ∧ (¬ a1 = 0 → ((gI s 248 20) = 0 → K.2 s a1)))
set_option maxRecDepth 1000000 in
noncomputable def tX12_portLine_351 (K : (SM → Int32 → Int32 × SM) × (SM → Int32 → Int32 × SM)) (s : SM) (a1 : Int32) : Int32 × SM := ((fun (s1 : SM) => (if (vX12_takes (mX12_next s1 ) (0 : Int32) (9 : Int32)) = 0 then ((0 : Int32), (mX12_takes (mX12_next s1 ) (0 : Int32) (9 : Int32))) else ((fun (s3 : SM) => ((1 : Int32), s3)) (pI (mX12_takes (mX12_next s1 ) (0 : Int32) (9 : Int32)) 251 ((if a1 = 0 then (3 : Int32) else (2 : Int32))).toNatClampNeg (gI (mX12_takes (mX12_next s1 ) (0 : Int32) (9 : Int32)) 248 18))))) (pI (pI s 248 20 (if (gI s 248 20) = 0 then (if a1 = 0 then (0 : Int32) else (1 : Int32)) else (1 : Int32))) 248 21 (if (gI (pI s 248 20 (if (gI s 248 20) = 0 then (if a1 = 0 then (0 : Int32) else (1 : Int32)) else (1 : Int32))) 248 21) = 0 then (if a1 = 0 then (1 : Int32) else (0 : Int32)) else (1 : Int32))))
set_option maxRecDepth 1000000 in
def uX12_portLine_351 (K : (SM → Int32 → Prop) × (SM → Int32 → Prop)) (s : SM) (a1 : Int32) : Prop := (∀ s1, s1 = (pI (pI s 248 20 (if (gI s 248 20) = 0 then (if a1 = 0 then (0 : Int32) else (1 : Int32)) else (1 : Int32))) 248 21 (if (gI (pI s 248 20 (if (gI s 248 20) = 0 then (if a1 = 0 then (0 : Int32) else (1 : Int32)) else (1 : Int32))) 248 21) = 0 then (if a1 = 0 then (1 : Int32) else (0 : Int32)) else (1 : Int32))) → rX12_next s1  ∧ rX12_takes (mX12_next s1 ) (0 : Int32) (9 : Int32) ∧ (¬ (vX12_takes (mX12_next s1 ) (0 : Int32) (9 : Int32)) = 0 → vp_in (if a1 = 0 then (3 : Int32) else (2 : Int32)) 34))
set_option maxRecDepth 1000000 in
noncomputable def lX12_portLine : Nat → (SM → Int32 → Int32 × SM) × (SM → Int32 → Int32 × SM)
  | 0 => (fun (s : SM) (a1 : Int32) => (0, s), fun (s : SM) (a1 : Int32) => (0, s))
  | n + 1 => (tX12_portLine_324 (lX12_portLine n), tX12_portLine_351 (lX12_portLine n))
set_option maxRecDepth 1000000 in
def qX12_portLine : Nat → (SM → Int32 → Prop) × (SM → Int32 → Prop)
  | 0 => (fun (s : SM) (a1 : Int32) => False, fun (s : SM) (a1 : Int32) => False)
  | n + 1 => (uX12_portLine_324 (qX12_portLine n), uX12_portLine_351 (qX12_portLine n))
