set_option maxRecDepth 1000000 in
noncomputable def vJ6_bitCount_0f7a4 (s : SM) (a0 : Int32) : Int32 := ((((((((a0 - ((((a0).toUInt32 >>> (((1 : Int32)).toUInt32 &&& Int32.toUInt32 31)).toInt32) &&& (1431655765 : Int32))) &&& (858993459 : Int32)) + (((((a0 - ((((a0).toUInt32 >>> (((1 : Int32)).toUInt32 &&& Int32.toUInt32 31)).toInt32) &&& (1431655765 : Int32)))).toUInt32 >>> (((2 : Int32)).toUInt32 &&& Int32.toUInt32 31)).toInt32) &&& (858993459 : Int32))) + ((((((a0 - ((((a0).toUInt32 >>> (((1 : Int32)).toUInt32 &&& Int32.toUInt32 31)).toInt32) &&& (1431655765 : Int32))) &&& (858993459 : Int32)) + (((((a0 - ((((a0).toUInt32 >>> (((1 : Int32)).toUInt32 &&& Int32.toUInt32 31)).toInt32) &&& (1431655765 : Int32)))).toUInt32 >>> (((2 : Int32)).toUInt32 &&& Int32.toUInt32 31)).toInt32) &&& (858993459 : Int32)))).toUInt32 >>> (((4 : Int32)).toUInt32 &&& Int32.toUInt32 31)).toInt32)) &&& (252645135 : Int32)) + ((((((((a0 - ((((a0).toUInt32 >>> (((1 : Int32)).toUInt32 &&& Int32.toUInt32 31)).toInt32) &&& (1431655765 : Int32))) &&& (858993459 : Int32)) + (((((a0 - ((((a0).toUInt32 >>> (((1 : Int32)).toUInt32 &&& Int32.toUInt32 31)).toInt32) &&& (1431655765 : Int32)))).toUInt32 >>> (((2 : Int32)).toUInt32 &&& Int32.toUInt32 31)).toInt32) &&& (858993459 : Int32))) + ((((((a0 - ((((a0).toUInt32 >>> (((1 : Int32)).toUInt32 &&& Int32.toUInt32 31)).toInt32) &&& (1431655765 : Int32))) &&& (858993459 : Int32)) + (((((a0 - ((((a0).toUInt32 >>> (((1 : Int32)).toUInt32 &&& Int32.toUInt32 31)).toInt32) &&& (1431655765 : Int32)))).toUInt32 >>> (((2 : Int32)).toUInt32 &&& Int32.toUInt32 31)).toInt32) &&& (858993459 : Int32)))).toUInt32 >>> (((4 : Int32)).toUInt32 &&& Int32.toUInt32 31)).toInt32)) &&& (252645135 : Int32))).toUInt32 >>> (((8 : Int32)).toUInt32 &&& Int32.toUInt32 31)).toInt32)) + (((((((((a0 - ((((a0).toUInt32 >>> (((1 : Int32)).toUInt32 &&& Int32.toUInt32 31)).toInt32) &&& (1431655765 : Int32))) &&& (858993459 : Int32)) + (((((a0 - ((((a0).toUInt32 >>> (((1 : Int32)).toUInt32 &&& Int32.toUInt32 31)).toInt32) &&& (1431655765 : Int32)))).toUInt32 >>> (((2 : Int32)).toUInt32 &&& Int32.toUInt32 31)).toInt32) &&& (858993459 : Int32))) + ((((((a0 - ((((a0).toUInt32 >>> (((1 : Int32)).toUInt32 &&& Int32.toUInt32 31)).toInt32) &&& (1431655765 : Int32))) &&& (858993459 : Int32)) + (((((a0 - ((((a0).toUInt32 >>> (((1 : Int32)).toUInt32 &&& Int32.toUInt32 31)).toInt32) &&& (1431655765 : Int32)))).toUInt32 >>> (((2 : Int32)).toUInt32 &&& Int32.toUInt32 31)).toInt32) &&& (858993459 : Int32)))).toUInt32 >>> (((4 : Int32)).toUInt32 &&& Int32.toUInt32 31)).toInt32)) &&& (252645135 : Int32)) + ((((((((a0 - ((((a0).toUInt32 >>> (((1 : Int32)).toUInt32 &&& Int32.toUInt32 31)).toInt32) &&& (1431655765 : Int32))) &&& (858993459 : Int32)) + (((((a0 - ((((a0).toUInt32 >>> (((1 : Int32)).toUInt32 &&& Int32.toUInt32 31)).toInt32) &&& (1431655765 : Int32)))).toUInt32 >>> (((2 : Int32)).toUInt32 &&& Int32.toUInt32 31)).toInt32) &&& (858993459 : Int32))) + ((((((a0 - ((((a0).toUInt32 >>> (((1 : Int32)).toUInt32 &&& Int32.toUInt32 31)).toInt32) &&& (1431655765 : Int32))) &&& (858993459 : Int32)) + (((((a0 - ((((a0).toUInt32 >>> (((1 : Int32)).toUInt32 &&& Int32.toUInt32 31)).toInt32) &&& (1431655765 : Int32)))).toUInt32 >>> (((2 : Int32)).toUInt32 &&& Int32.toUInt32 31)).toInt32) &&& (858993459 : Int32)))).toUInt32 >>> (((4 : Int32)).toUInt32 &&& Int32.toUInt32 31)).toInt32)) &&& (252645135 : Int32))).toUInt32 >>> (((8 : Int32)).toUInt32 &&& Int32.toUInt32 31)).toInt32))).toUInt32 >>> (((16 : Int32)).toUInt32 &&& Int32.toUInt32 31)).toInt32)) &&& (63 : Int32))
set_option maxRecDepth 1000000 in
noncomputable def mX10_add (s : SM) (a1 : Int32) : SM := (if (2640 : Int32) ≤ (gI s 244 0) then s else ((fun (s2 : SM) => s2) (pI (pI s 245 ((gI s 244 0)).toNatClampNeg a1) 244 0 ((gI (pI s 245 ((gI s 244 0)).toNatClampNeg a1) 244 0) + (1 : Int32)))))
set_option maxRecDepth 1000000 in
def rX10_add (s : SM) (a1 : Int32) : Prop := (¬ (2640 : Int32) ≤ (gI s 244 0) → vp_in (gI s 244 0) 2640)
set_option maxRecDepth 1000000 in
noncomputable def vX10_at (s : SM) (a1 : Int32) : Int32 := (if a1 < 0 then (-1 : Int32) else (if (gI s 244 0) ≤ a1 then (-1 : Int32) else (if (2640 : Int32) ≤ a1 then (-1 : Int32) else (gI s 245 (a1).toNatClampNeg))))
set_option maxRecDepth 1000000 in
def rX10_at (s : SM) (a1 : Int32) : Prop := (¬ a1 < 0 → (¬ (gI s 244 0) ≤ a1 → (¬ (2640 : Int32) ≤ a1 → vp_in a1 2640)))
set_option maxRecDepth 1000000 in
noncomputable def vX11_drawn (s : SM) (a0 : Int32) (a1 : Int32) : Int32 := (if (1 : Int32) ≤ a1 then ((((a0).toUInt32 >>> (((8 : Int32)).toUInt32 &&& Int32.toUInt32 31)).toInt32) - (((a0).toUInt32 >>> (((8 : Int32)).toUInt32 &&& Int32.toUInt32 31)).toInt32) / a1 * a1) else (0 : Int32))
set_option maxRecDepth 1000000 in
def rX11_drawn (s : SM) (a0 : Int32) (a1 : Int32) : Prop := ((1 : Int32) ≤ a1 → (¬ a1 = 0))
set_option maxRecDepth 1000000 in
noncomputable def vX11_end (s : SM) (a1 : Int32) : Int32 := (if a1 < 0 then (0 : Int32) else (if a1 ≤ (gI s 3 1) then (1 : Int32) else (0 : Int32)))
set_option maxRecDepth 1000000 in
noncomputable def mX11_end (s : SM) (a1 : Int32) : SM := (if a1 < 0 then s else (if a1 ≤ (gI s 3 1) then (pI s 3 1 a1) else s))
set_option maxRecDepth 1000000 in
noncomputable def vX11_fault (s : SM)  : Int32 := (gI s 2 18)
set_option maxRecDepth 1000000 in
noncomputable def vX11_isIn (s : SM) (a0 : Int32) (a1 : Int32) : Int32 := (if ((a1 >>> (a0 &&& 31)) &&& (1 : Int32)) = (1 : Int32) then (1 : Int32) else (0 : Int32))
set_option maxRecDepth 1000000 in
noncomputable def vX11_isSide (s : SM) (a0 : Int32) : Int32 := (if a0 = 0 then (1 : Int32) else (if a0 = (1 : Int32) then (1 : Int32) else (0 : Int32)))
set_option maxRecDepth 1000000 in
noncomputable def vX11_isYear (s : SM) (a0 : Int32) : Int32 := (if a0 < 0 then (0 : Int32) else (if (99 : Int32) < a0 then (0 : Int32) else (1 : Int32)))
set_option maxRecDepth 1000000 in
noncomputable def vX11_judged (s : SM) (a1 : Int32) : Int32 := (if (gI s 2 17) = 0 then (-1 : Int32) else (if a1 < 0 then (-1 : Int32) else (if (5 : Int32) ≤ a1 then (-1 : Int32) else (gI s 247 (a1).toNatClampNeg))))
set_option maxRecDepth 1000000 in
def rX11_judged (s : SM) (a1 : Int32) : Prop := (¬ (gI s 2 17) = 0 → (¬ a1 < 0 → (¬ (5 : Int32) ≤ a1 → vp_in a1 5)))
set_option maxRecDepth 1000000 in
noncomputable def vX11_nextSeed (s : SM) (a0 : Int32) : Int32 := ((a0 * (1103515245 : Int32)) + (12345 : Int32))
set_option maxRecDepth 1000000 in
noncomputable def vX11_ringAt (s : SM) (a1 : Int32) : Int32 := (if a1 < 0 then (-1 : Int32) else (if (gI s 2 15) ≤ a1 then (-1 : Int32) else (if (5 : Int32) ≤ a1 then (-1 : Int32) else (gI s 246 (a1).toNatClampNeg))))
set_option maxRecDepth 1000000 in
def rX11_ringAt (s : SM) (a1 : Int32) : Prop := (¬ a1 < 0 → (¬ (gI s 2 15) ≤ a1 → (¬ (5 : Int32) ≤ a1 → vp_in a1 5)))
set_option maxRecDepth 1000000 in
noncomputable def tX12_backAll_2 (K : (SM → Int32 → SM)) (s : SM) (a1 : Int32) : SM := (if (552 : Int32) ≤ a1 then s else (K (pI s 250 (((34 : Int32) + a1)).toNatClampNeg (gI s 259 (a1).toNatClampNeg)) (a1 + 1)))
set_option maxRecDepth 1000000 in
def uX12_backAll_2 (K : (SM → Int32 → Prop)) (s : SM) (a1 : Int32) : Prop := (¬ (552 : Int32) ≤ a1 → vp_in a1 552 ∧ vp_in ((34 : Int32) + a1) 787 ∧ K (pI s 250 (((34 : Int32) + a1)).toNatClampNeg (gI s 259 (a1).toNatClampNeg)) (a1 + 1))
set_option maxRecDepth 1000000 in
noncomputable def lX12_backAll : Nat → (SM → Int32 → SM)
  | 0 => fun (s : SM) (a1 : Int32) => s
  | n + 1 => tX12_backAll_2 (lX12_backAll n)
set_option maxRecDepth 1000000 in
def qX12_backAll : Nat → (SM → Int32 → Prop)
  | 0 => fun (s : SM) (a1 : Int32) => False
  | n + 1 => uX12_backAll_2 (qX12_backAll n)
set_option maxRecDepth 1000000 in
noncomputable def fX12_backAll (s : SM)  : SM := ((lX12_backAll FU) s (0 : Int32))
set_option maxRecDepth 1000000 in
noncomputable def mX12_backAll (s : SM)  : SM := fX12_backAll s 
set_option maxRecDepth 1000000 in
def rX12_backAll (s : SM)  : Prop := (qX12_backAll FU) s (0 : Int32)
set_option maxRecDepth 1000000 in
noncomputable def vX12_bad (s : SM) (a1 : Int32) : Int32 := (0 : Int32)
set_option maxRecDepth 1000000 in
noncomputable def mX12_bad (s : SM) (a1 : Int32) : SM := (pI (pI s 248 15 a1) 248 16 (gI (pI s 248 15 a1) 248 12))
set_option maxRecDepth 1000000 in
noncomputable def tX12_bits_4 (K : (SM → Int32 → Int32 → Int32 → Int32)) (s : SM) (a0 : Int32) (a1 : Int32) (a2 : Int32) : Int32 := (if a2 = 0 then a1 else (K s a0 (a1 + 1) (a2 &&& (a2 - (1 : Int32)))))
set_option maxRecDepth 1000000 in
def uX12_bits_4 (K : (SM → Int32 → Int32 → Int32 → Prop)) (s : SM) (a0 : Int32) (a1 : Int32) (a2 : Int32) : Prop := (¬ a2 = 0 → K s a0 (a1 + 1) (a2 &&& (a2 - (1 : Int32))))
set_option maxRecDepth 1000000 in
noncomputable def lX12_bits : Nat → (SM → Int32 → Int32 → Int32 → Int32)
  | 0 => fun (s : SM) (a0 : Int32) (a1 : Int32) (a2 : Int32) => 0
  | n + 1 => tX12_bits_4 (lX12_bits n)
set_option maxRecDepth 1000000 in
def qX12_bits : Nat → (SM → Int32 → Int32 → Int32 → Prop)
  | 0 => fun (s : SM) (a0 : Int32) (a1 : Int32) (a2 : Int32) => False
  | n + 1 => uX12_bits_4 (qX12_bits n)
set_option maxRecDepth 1000000 in
noncomputable def fX12_bits (s : SM) (a0 : Int32) : Int32 := ((lX12_bits FU) s a0 (0 : Int32) a0)
set_option maxRecDepth 1000000 in
noncomputable def vX12_bits (s : SM) (a0 : Int32) : Int32 := fX12_bits s a0
set_option maxRecDepth 1000000 in
def rX12_bits (s : SM) (a0 : Int32) : Prop := (qX12_bits FU) s a0 (0 : Int32) a0
set_option maxRecDepth 1000000 in
noncomputable def vX12_draw (s : SM) (a1 : Int32) : Int32 := (((((gI (pI s 248 54 (((gI s 248 54) * (1103515245 : Int32)) + (12345 : Int32))) 248 54)).toUInt32 >>> (((8 : Int32)).toUInt32 &&& Int32.toUInt32 31)).toInt32) - ((((gI (pI s 248 54 (((gI s 248 54) * (1103515245 : Int32)) + (12345 : Int32))) 248 54)).toUInt32 >>> (((8 : Int32)).toUInt32 &&& Int32.toUInt32 31)).toInt32) / a1 * a1)
set_option maxRecDepth 1000000 in
noncomputable def mX12_draw (s : SM) (a1 : Int32) : SM := (pI s 248 54 (((gI s 248 54) * (1103515245 : Int32)) + (12345 : Int32)))
set_option maxRecDepth 1000000 in
def rX12_draw (s : SM) (a1 : Int32) : Prop := (¬ a1 = 0)
set_option maxRecDepth 1000000 in
noncomputable def vX12_end (s : SM) (a1 : Int32) : Int32 := (if a1 < 0 then (0 : Int32) else (if a1 ≤ (gI (pI s 248 0 (0 : Int32)) 248 2) then (1 : Int32) else (0 : Int32)))
set_option maxRecDepth 1000000 in
noncomputable def mX12_end (s : SM) (a1 : Int32) : SM := (if a1 < 0 then (pI s 248 0 (0 : Int32)) else (if a1 ≤ (gI (pI s 248 0 (0 : Int32)) 248 2) then (pI (pI s 248 0 (0 : Int32)) 248 2 a1) else (pI s 248 0 (0 : Int32))))
set_option maxRecDepth 1000000 in
noncomputable def vX12_fault (s : SM)  : Int32 := (gI (pI s 248 0 (0 : Int32)) 248 15)
set_option maxRecDepth 1000000 in
noncomputable def mX12_fault (s : SM)  : SM := (pI s 248 0 (0 : Int32))
set_option maxRecDepth 1000000 in
noncomputable def tX12_find_2 (K : (SM → Int32 → Int32 → Int32 → Int32)) (s : SM) (a1 : Int32) (a2 : Int32) (a3 : Int32) : Int32 := (if a2 ≤ a3 then (-1 : Int32) else (if (lg_cmp (gL s 253 ((a1 + a3)).toNatClampNeg) (gL s 248 17)) = 0 then a3 else (K s a1 a2 (a3 + 1))))
set_option maxRecDepth 1000000 in
def uX12_find_2 (K : (SM → Int32 → Int32 → Int32 → Prop)) (s : SM) (a1 : Int32) (a2 : Int32) (a3 : Int32) : Prop := (¬ a2 ≤ a3 → vp_in (a1 + a3) 30 ∧ (¬ (lg_cmp (gL s 253 ((a1 + a3)).toNatClampNeg) (gL s 248 17)) = 0 → K s a1 a2 (a3 + 1)))
set_option maxRecDepth 1000000 in
noncomputable def lX12_find : Nat → (SM → Int32 → Int32 → Int32 → Int32)
  | 0 => fun (s : SM) (a1 : Int32) (a2 : Int32) (a3 : Int32) => 0
  | n + 1 => tX12_find_2 (lX12_find n)
set_option maxRecDepth 1000000 in
def qX12_find : Nat → (SM → Int32 → Int32 → Int32 → Prop)
  | 0 => fun (s : SM) (a1 : Int32) (a2 : Int32) (a3 : Int32) => False
  | n + 1 => uX12_find_2 (qX12_find n)
set_option maxRecDepth 1000000 in
noncomputable def fX12_find (s : SM) (a1 : Int32) (a2 : Int32) : Int32 := ((lX12_find FU) s a1 a2 (0 : Int32))
set_option maxRecDepth 1000000 in
noncomputable def vX12_find (s : SM) (a1 : Int32) (a2 : Int32) : Int32 := fX12_find s a1 a2
set_option maxRecDepth 1000000 in
def rX12_find (s : SM) (a1 : Int32) (a2 : Int32) : Prop := (qX12_find FU) s a1 a2 (0 : Int32)
set_option maxRecDepth 1000000 in
noncomputable def tX12_four_3 (K : (SM → Int32 → Int32 → SM)) (s : SM) (a1 : Int32) (a2 : Int32) : SM := (if a2 < 0 then s else ((fun (s2 : SM) => (K s2 a1 (a2 + (-8)))) (pI (pI s 249 ((gI s 248 2)).toNatClampNeg (vp_nar .byte ((a1 >>> (a2 &&& 31))).toInt8.toInt32)) 248 2 ((gI (pI s 249 ((gI s 248 2)).toNatClampNeg (vp_nar .byte ((a1 >>> (a2 &&& 31))).toInt8.toInt32)) 248 2) + (1 : Int32)))))
set_option maxRecDepth 1000000 in
def uX12_four_3 (K : (SM → Int32 → Int32 → Prop)) (s : SM) (a1 : Int32) (a2 : Int32) : Prop := (¬ a2 < 0 → vp_in (gI s 248 2) 640 ∧ (∀ s2, s2 = (pI (pI s 249 ((gI s 248 2)).toNatClampNeg (vp_nar .byte ((a1 >>> (a2 &&& 31))).toInt8.toInt32)) 248 2 ((gI (pI s 249 ((gI s 248 2)).toNatClampNeg (vp_nar .byte ((a1 >>> (a2 &&& 31))).toInt8.toInt32)) 248 2) + (1 : Int32))) → K s2 a1 (a2 + (-8))))
set_option maxRecDepth 1000000 in
noncomputable def lX12_four : Nat → (SM → Int32 → Int32 → SM)
  | 0 => fun (s : SM) (a1 : Int32) (a2 : Int32) => s
  | n + 1 => tX12_four_3 (lX12_four n)
set_option maxRecDepth 1000000 in
def qX12_four : Nat → (SM → Int32 → Int32 → Prop)
  | 0 => fun (s : SM) (a1 : Int32) (a2 : Int32) => False
  | n + 1 => uX12_four_3 (qX12_four n)
set_option maxRecDepth 1000000 in
noncomputable def fX12_four (s : SM) (a1 : Int32) : SM := ((lX12_four FU) s a1 (24 : Int32))
set_option maxRecDepth 1000000 in
noncomputable def mX12_four (s : SM) (a1 : Int32) : SM := fX12_four s a1
set_option maxRecDepth 1000000 in
def rX12_four (s : SM) (a1 : Int32) : Prop := (qX12_four FU) s a1 (24 : Int32)
set_option maxRecDepth 1000000 in
noncomputable def vX12_has (s : SM) (a0 : Int32) (a1 : Int32) : Int32 := (if ((a0 >>> (a1 &&& 31)) &&& (1 : Int32)) = (1 : Int32) then (1 : Int32) else (0 : Int32))
set_option maxRecDepth 1000000 in
noncomputable def vX12_isDigit (s : SM) (a0 : Int32) : Int32 := (if a0 < (48 : Int32) then (0 : Int32) else (if (57 : Int32) < a0 then (0 : Int32) else (1 : Int32)))
set_option maxRecDepth 1000000 in
noncomputable def vX12_isIn (s : SM) (a0 : Int32) (a1 : Int32) (a2 : Int32) : Int32 := (if a0 < a1 then (0 : Int32) else (if a2 < a0 then (0 : Int32) else (1 : Int32)))
set_option maxRecDepth 1000000 in
noncomputable def tX12_isName_16 (K : (SM → Int32 → Int32 → Int32)) (s : SM) (a1 : Int32) (a2 : Int32) : Int32 := (if (17 : Int32) ≤ a2 then a1 else (if a1 = 0 then (K s (0 : Int32) (a2 + 1)) else (K s (if (lg_cmp (gL s 248 17) (gL s 254 (a2).toNatClampNeg)) = 0 then (0 : Int32) else (1 : Int32)) (a2 + 1))))
set_option maxRecDepth 1000000 in
def uX12_isName_16 (K : (SM → Int32 → Int32 → Prop)) (s : SM) (a1 : Int32) (a2 : Int32) : Prop := (((17 : Int32) ≤ a2 → (a1 = 0 ∨ a1 = 1)) ∧ (¬ (17 : Int32) ≤ a2 → ((a1 = 0 → K s (0 : Int32) (a2 + 1)) ∧ (¬ a1 = 0 → vp_in a2 17 ∧ K s (if (lg_cmp (gL s 248 17) (gL s 254 (a2).toNatClampNeg)) = 0 then (0 : Int32) else (1 : Int32)) (a2 + 1)))))
set_option maxRecDepth 1000000 in
noncomputable def lX12_isName : Nat → (SM → Int32 → Int32 → Int32)
  | 0 => fun (s : SM) (a1 : Int32) (a2 : Int32) => 0
  | n + 1 => tX12_isName_16 (lX12_isName n)
set_option maxRecDepth 1000000 in
def qX12_isName : Nat → (SM → Int32 → Int32 → Prop)
  | 0 => fun (s : SM) (a1 : Int32) (a2 : Int32) => False
  | n + 1 => uX12_isName_16 (qX12_isName n)
set_option maxRecDepth 1000000 in
noncomputable def fX12_isName (s : SM)  : Int32 := ((lX12_isName FU) s (if (gI s 248 11) = (1 : Int32) then (1 : Int32) else (0 : Int32)) (0 : Int32))
set_option maxRecDepth 1000000 in
noncomputable def vX12_isName (s : SM)  : Int32 := fX12_isName s 
set_option maxRecDepth 1000000 in
def rX12_isName (s : SM)  : Prop := (qX12_isName FU) s (if (gI s 248 11) = (1 : Int32) then (1 : Int32) else (0 : Int32)) (0 : Int32)
set_option maxRecDepth 1000000 in
noncomputable def vX12_isSign (s : SM) (a1 : Int32) : Int32 := (if (gI s 248 11) = (3 : Int32) then (if (gI s 248 14) = a1 then (1 : Int32) else (0 : Int32)) else (0 : Int32))
set_option maxRecDepth 1000000 in
noncomputable def vX12_isSmall (s : SM) (a0 : Int32) : Int32 := (if a0 < (97 : Int32) then (0 : Int32) else (if (122 : Int32) < a0 then (0 : Int32) else (1 : Int32)))
set_option maxRecDepth 1000000 in
noncomputable def vX12_isWord (s : SM) (b1 : Int64) : Int32 := (if (gI s 248 11) = (1 : Int32) then (if (lg_cmp (gL s 248 17) b1) = 0 then (1 : Int32) else (0 : Int32)) else (0 : Int32))
set_option maxRecDepth 1000000 in
noncomputable def tX12_keep_11 (K : (SM → Int32 → SM) × (SM → Int32 → SM)) (s : SM) (a1 : Int32) : SM := (if (3864 : Int32) ≤ a1 then (K.2 (pI s 248 25 (7 : Int32)) (0 : Int32)) else (K.1 (pI s 255 (a1).toNatClampNeg (gI s 255 ((a1 + (552 : Int32))).toNatClampNeg)) (a1 + 1)))
set_option maxRecDepth 1000000 in
def uX12_keep_11 (K : (SM → Int32 → Prop) × (SM → Int32 → Prop)) (s : SM) (a1 : Int32) : Prop := (((3864 : Int32) ≤ a1 → K.2 (pI s 248 25 (7 : Int32)) (0 : Int32)) ∧ (¬ (3864 : Int32) ≤ a1 → vp_in (a1 + (552 : Int32)) 4416 ∧ vp_in a1 4416 ∧ K.1 (pI s 255 (a1).toNatClampNeg (gI s 255 ((a1 + (552 : Int32))).toNatClampNeg)) (a1 + 1)))
set_option maxRecDepth 1000000 in
noncomputable def tX12_keep_48 (K : (SM → Int32 → SM) × (SM → Int32 → SM)) (s : SM) (a1 : Int32) : SM := (if (552 : Int32) ≤ a1 then (pI s 248 25 ((gI s 248 25) + (1 : Int32))) else (K.2 (pI s 255 ((((552 : Int32) * (gI s 248 25)) + a1)).toNatClampNeg (gI s 250 (((34 : Int32) + a1)).toNatClampNeg)) (a1 + 1)))
set_option maxRecDepth 1000000 in
def uX12_keep_48 (K : (SM → Int32 → Prop) × (SM → Int32 → Prop)) (s : SM) (a1 : Int32) : Prop := (¬ (552 : Int32) ≤ a1 → vp_in ((34 : Int32) + a1) 787 ∧ vp_in (((552 : Int32) * (gI s 248 25)) + a1) 4416 ∧ K.2 (pI s 255 ((((552 : Int32) * (gI s 248 25)) + a1)).toNatClampNeg (gI s 250 (((34 : Int32) + a1)).toNatClampNeg)) (a1 + 1))
set_option maxRecDepth 1000000 in
noncomputable def lX12_keep : Nat → (SM → Int32 → SM) × (SM → Int32 → SM)
  | 0 => (fun (s : SM) (a1 : Int32) => s, fun (s : SM) (a1 : Int32) => s)
  | n + 1 => (tX12_keep_11 (lX12_keep n), tX12_keep_48 (lX12_keep n))
set_option maxRecDepth 1000000 in
def qX12_keep : Nat → (SM → Int32 → Prop) × (SM → Int32 → Prop)
  | 0 => (fun (s : SM) (a1 : Int32) => False, fun (s : SM) (a1 : Int32) => False)
  | n + 1 => (uX12_keep_11 (qX12_keep n), uX12_keep_48 (qX12_keep n))
set_option maxRecDepth 1000000 in
noncomputable def fX12_keep (s : SM)  : SM := (if (gI s 248 25) = (8 : Int32) then ((lX12_keep FU).1 s (0 : Int32)) else ((lX12_keep FU).2 s (0 : Int32)))
set_option maxRecDepth 1000000 in
noncomputable def mX12_keep (s : SM)  : SM := fX12_keep s 
set_option maxRecDepth 1000000 in
def rX12_keep (s : SM)  : Prop := ((¬ (gI s 248 25) = (8 : Int32) → (qX12_keep FU).2 s (0 : Int32)) ∧ ((gI s 248 25) = (8 : Int32) → (qX12_keep FU).1 s (0 : Int32)))
set_option maxRecDepth 1000000 in
noncomputable def tX12_keepsAll_2 (K : (SM → Int32 → SM)) (s : SM) (a1 : Int32) : SM := (if (552 : Int32) ≤ a1 then s else (K (pI s 259 (a1).toNatClampNeg (gI s 250 (((34 : Int32) + a1)).toNatClampNeg)) (a1 + 1)))
set_option maxRecDepth 1000000 in
def uX12_keepsAll_2 (K : (SM → Int32 → Prop)) (s : SM) (a1 : Int32) : Prop := (¬ (552 : Int32) ≤ a1 → vp_in ((34 : Int32) + a1) 787 ∧ vp_in a1 552 ∧ K (pI s 259 (a1).toNatClampNeg (gI s 250 (((34 : Int32) + a1)).toNatClampNeg)) (a1 + 1))
set_option maxRecDepth 1000000 in
noncomputable def lX12_keepsAll : Nat → (SM → Int32 → SM)
  | 0 => fun (s : SM) (a1 : Int32) => s
  | n + 1 => tX12_keepsAll_2 (lX12_keepsAll n)
set_option maxRecDepth 1000000 in
def qX12_keepsAll : Nat → (SM → Int32 → Prop)
  | 0 => fun (s : SM) (a1 : Int32) => False
  | n + 1 => uX12_keepsAll_2 (qX12_keepsAll n)
set_option maxRecDepth 1000000 in
noncomputable def fX12_keepsAll (s : SM)  : SM := ((lX12_keepsAll FU) s (0 : Int32))
set_option maxRecDepth 1000000 in
noncomputable def mX12_keepsAll (s : SM)  : SM := fX12_keepsAll s 
set_option maxRecDepth 1000000 in
def rX12_keepsAll (s : SM)  : Prop := (qX12_keepsAll FU) s (0 : Int32)
set_option maxRecDepth 1000000 in
noncomputable def vX12_living (s : SM)  : Int32 := ((((1 : Int32) <<< ((gI s 250 ((0 : Int32)).toNatClampNeg) &&& 31)) - (1 : Int32)) &&& ((gI s 250 ((36 : Int32)).toNatClampNeg) ^^^ (-1 : Int32)))
set_option maxRecDepth 1000000 in
noncomputable def vX12_octet (s : SM) (a1 : Int32) : Int32 := ((gI s 249 (a1).toNatClampNeg) &&& (255 : Int32))
set_option maxRecDepth 1000000 in
def rX12_octet (s : SM) (a1 : Int32) : Prop := vp_in a1 640
set_option maxRecDepth 1000000 in
noncomputable def vX12_of (s : SM) (a1 : Int32) (a2 : Int32) : Int32 := (gI s 250 ((((46 : Int32) + ((9 : Int32) * a1)) + a2)).toNatClampNeg)
set_option maxRecDepth 1000000 in
def rX12_of (s : SM) (a1 : Int32) (a2 : Int32) : Prop := vp_in (((46 : Int32) + ((9 : Int32) * a1)) + a2) 787
set_option maxRecDepth 1000000 in
noncomputable def vX12_peek (s : SM)  : Int32 := (if (gI s 248 3) ≤ (gI s 248 4) then (-1 : Int32) else ((gI s 249 ((gI s 248 4)).toNatClampNeg) &&& (255 : Int32)))
set_option maxRecDepth 1000000 in
def rX12_peek (s : SM)  : Prop := (¬ (gI s 248 3) ≤ (gI s 248 4) → vp_in (gI s 248 4) 640)
set_option maxRecDepth 1000000 in
noncomputable def mX12_put (s : SM) (a1 : Int32) : SM := ((fun (s2 : SM) => s2) (pI (pI s 262 ((gI s 248 35)).toNatClampNeg (vp_nar .byte (a1).toInt8.toInt32)) 248 35 ((gI (pI s 262 ((gI s 248 35)).toNatClampNeg (vp_nar .byte (a1).toInt8.toInt32)) 248 35) + (1 : Int32))))
set_option maxRecDepth 1000000 in
def rX12_put (s : SM) (a1 : Int32) : Prop := vp_in (gI s 248 35) 3600
set_option maxRecDepth 1000000 in
noncomputable def mX12_set (s : SM) (a1 : Int32) (a2 : Int32) (a3 : Int32) : SM := (pI s 250 ((((46 : Int32) + ((9 : Int32) * a1)) + a2)).toNatClampNeg a3)
set_option maxRecDepth 1000000 in
def rX12_set (s : SM) (a1 : Int32) (a2 : Int32) (a3 : Int32) : Prop := vp_in (((46 : Int32) + ((9 : Int32) * a1)) + a2) 787
set_option maxRecDepth 1000000 in
noncomputable def mX12_taken (s : SM) (a1 : Int32) : SM := (pI (pI (pI (pI s 248 3 (gI s 248 2)) 248 2 (0 : Int32)) 248 4 (0 : Int32)) 248 5 a1)
set_option maxRecDepth 1000000 in
noncomputable def vX12_thrown (s : SM)  : Int32 := (gI s 248 0)
set_option maxRecDepth 1000000 in
noncomputable def vX12_throwsIf (s : SM) (a1 : Int32) : Int32 := a1
set_option maxRecDepth 1000000 in
noncomputable def mX12_throwsIf (s : SM) (a1 : Int32) : SM := (pI s 248 0 (if a1 = 0 then (0 : Int32) else (1 : Int32)))
set_option maxRecDepth 1000000 in
def rX12_throwsIf (s : SM) (a1 : Int32) : Prop := (a1 = 0 ∨ a1 = 1)
set_option maxRecDepth 1000000 in
noncomputable def tX12_undo_26 (K : (SM → Int32 → Int32 × SM)) (s : SM) (a1 : Int32) : Int32 × SM := (if (552 : Int32) ≤ a1 then ((gI s 248 25), s) else (K (pI s 250 (((34 : Int32) + a1)).toNatClampNeg (gI s 255 ((((552 : Int32) * (gI s 248 25)) + a1)).toNatClampNeg)) (a1 + 1)))
set_option maxRecDepth 1000000 in
def uX12_undo_26 (K : (SM → Int32 → Prop)) (s : SM) (a1 : Int32) : Prop := (¬ (552 : Int32) ≤ a1 → vp_in (((552 : Int32) * (gI s 248 25)) + a1) 4416 ∧ vp_in ((34 : Int32) + a1) 787 ∧ K (pI s 250 (((34 : Int32) + a1)).toNatClampNeg (gI s 255 ((((552 : Int32) * (gI s 248 25)) + a1)).toNatClampNeg)) (a1 + 1))
set_option maxRecDepth 1000000 in
noncomputable def lX12_undo : Nat → (SM → Int32 → Int32 × SM)
  | 0 => fun (s : SM) (a1 : Int32) => (0, s)
  | n + 1 => tX12_undo_26 (lX12_undo n)
set_option maxRecDepth 1000000 in
def qX12_undo : Nat → (SM → Int32 → Prop)
  | 0 => fun (s : SM) (a1 : Int32) => False
  | n + 1 => uX12_undo_26 (qX12_undo n)
set_option maxRecDepth 1000000 in
noncomputable def fX12_undo (s : SM)  : Int32 × SM := (if (gI (pI s 248 0 (0 : Int32)) 248 25) = 0 then ((-1 : Int32), (pI s 248 0 (0 : Int32))) else ((lX12_undo FU) (pI (pI s 248 0 (0 : Int32)) 248 25 ((gI (pI s 248 0 (0 : Int32)) 248 25) - (1 : Int32))) (0 : Int32)))
set_option maxRecDepth 1000000 in
noncomputable def vX12_undo (s : SM)  : Int32 := fX12_undo s  |>.1
set_option maxRecDepth 1000000 in
noncomputable def mX12_undo (s : SM)  : SM := fX12_undo s  |>.2
set_option maxRecDepth 1000000 in
def rX12_undo (s : SM)  : Prop := (¬ (gI (pI s 248 0 (0 : Int32)) 248 25) = 0 → (qX12_undo FU) (pI (pI s 248 0 (0 : Int32)) 248 25 ((gI (pI s 248 0 (0 : Int32)) 248 25) - (1 : Int32))) (0 : Int32))
set_option maxRecDepth 1000000 in
noncomputable def vX12_valueBy (s : SM) (a1 : Int32) (a2 : Int32) : Int32 := (if a2 = (1 : Int32) then ((2 : Int32) * a1) else (if a2 = (2 : Int32) then (a1 / (2 : Int32)) else (if a2 = (3 : Int32) then (0 : Int32) else a1)))
set_option maxRecDepth 1000000 in
noncomputable def vX1_aboutSum (s : SM) (a1 : Int32) (a2 : Int32) : Int32 := (if (gI s ((rfx (gDx s 2) 8) + 6) (a1).toNatClampNeg) = 1 then (a2 / (2 : Int32)) else (if (gI s ((rfx (gDx s 2) 8) + 6) (a1).toNatClampNeg) = 2 then ((2 : Int32) * a2) else a2))
set_option maxRecDepth 1000000 in
def rX1_aboutSum (s : SM) (a1 : Int32) (a2 : Int32) : Prop := gD s 2 = some (gDx s 2) ∧ ((gDx s 2), rfx (gDx s 2) 8) ∈ LX ∧ vp_in a1 6
set_option maxRecDepth 1000000 in
noncomputable def vX1_told (s : SM) (a1 : Int32) (a2 : Int32) : Int32 := (if a1 < 0 then (-1 : Int32) else (if (gI s 233 7) ≤ a1 then (-1 : Int32) else (if (4 : Int32) ≤ a1 then (-1 : Int32) else (if (gI s 233 9) = 0 then (-1 : Int32) else (if a2 < 0 then (-1 : Int32) else (if a2 ≤ (1 : Int32) then (if a2 = 0 then (gI s 236 (a1).toNatClampNeg) else (gI s 237 (a1).toNatClampNeg)) else (-1 : Int32)))))))
set_option maxRecDepth 1000000 in
def rX1_told (s : SM) (a1 : Int32) (a2 : Int32) : Prop := (¬ a1 < 0 → (¬ (gI s 233 7) ≤ a1 → (¬ (4 : Int32) ≤ a1 → (¬ (gI s 233 9) = 0 → (¬ a2 < 0 → (a2 ≤ (1 : Int32) → ((¬ a2 = 0 → vp_in a1 4) ∧ (a2 = 0 → vp_in a1 4))))))))
set_option maxRecDepth 1000000 in
noncomputable def mX2_forget (s : SM)  : SM := (pI s 55 2 (0 : Int32))
set_option maxRecDepth 1000000 in
noncomputable def vX4_bearer (s : SM) (L0 P0 : Nat) (a1 : Int32) (a2 : Int32) : Int32 := (if a2 = 0 then (gI s (L0 + 9) (a1).toNatClampNeg) else (gI s (L0 + 10) (a1).toNatClampNeg))
set_option maxRecDepth 1000000 in
def rX4_bearer (s : SM) (L0 P0 : Nat) (a1 : Int32) (a2 : Int32) : Prop := ((¬ a2 = 0 → vp_in a1 60) ∧ (a2 = 0 → vp_in a1 60))
set_option maxRecDepth 1000000 in
noncomputable def tX4_begin_17 (K : (SM → Nat → Nat → Int32 → SM)) (s : SM) (L0 : Nat) (P0 : Nat) (a1 : Int32) : SM := (if (9 : Int32) ≤ a1 then s else (K (pI (pI s (L0 + 7) (a1).toNatClampNeg (gI s (P0 + 2) (a1).toNatClampNeg)) (L0 + 8) (a1).toNatClampNeg (0 : Int32)) L0 P0 (a1 + 1)))
set_option maxRecDepth 1000000 in
def uX4_begin_17 (K : (SM → Nat → Nat → Int32 → Prop)) (s : SM) (L0 : Nat) (P0 : Nat) (a1 : Int32) : Prop := (¬ (9 : Int32) ≤ a1 → vp_in a1 9 ∧ vp_in a1 9 ∧ vp_in a1 9 ∧ K (pI (pI s (L0 + 7) (a1).toNatClampNeg (gI s (P0 + 2) (a1).toNatClampNeg)) (L0 + 8) (a1).toNatClampNeg (0 : Int32)) L0 P0 (a1 + 1))
set_option maxRecDepth 1000000 in
noncomputable def lX4_begin : Nat → (SM → Nat → Nat → Int32 → SM)
  | 0 => fun (s : SM) (L0 : Nat) (P0 : Nat) (a1 : Int32) => s
  | n + 1 => tX4_begin_17 (lX4_begin n)
set_option maxRecDepth 1000000 in
def qX4_begin : Nat → (SM → Nat → Nat → Int32 → Prop)
  | 0 => fun (s : SM) (L0 : Nat) (P0 : Nat) (a1 : Int32) => False
  | n + 1 => uX4_begin_17 (qX4_begin n)
set_option maxRecDepth 1000000 in
noncomputable def fX4_begin (s : SM) (L0 P0 : Nat) : SM := ((lX4_begin FU) (pI (pI (pI s L0 9 (0 : Int32)) L0 10 (0 : Int32)) L0 14 (0 : Int32)) L0 P0 (0 : Int32))
set_option maxRecDepth 1000000 in
noncomputable def mX4_begin (s : SM) (L0 P0 : Nat) : SM := fX4_begin s L0 P0
set_option maxRecDepth 1000000 in
def rX4_begin (s : SM) (L0 P0 : Nat) : Prop := (qX4_begin FU) (pI (pI (pI s L0 9 (0 : Int32)) L0 10 (0 : Int32)) L0 14 (0 : Int32)) L0 P0 (0 : Int32)
set_option maxRecDepth 1000000 in
noncomputable def vX4_hasDeal (s : SM) (L0 P0 : Nat) (a1 : Int32) : Int32 := (if a1 < 0 then (0 : Int32) else (if (gI s L0 9) ≤ a1 then (0 : Int32) else (if (60 : Int32) ≤ a1 then (0 : Int32) else (1 : Int32))))
set_option maxRecDepth 1000000 in
noncomputable def vX4_lives (s : SM) (L0 P0 : Nat) (a1 : Int32) : Int32 := (if (((gI s L0 14) >>> (a1 &&& 31)) &&& (1 : Int32)) = 0 then (1 : Int32) else (0 : Int32))
set_option maxRecDepth 1000000 in
noncomputable def tX4_marksOn_5 (K : (SM → Nat → Nat → Int32 → Int32 → Int32 → Int32 → Int32)) (s : SM) (L0 : Nat) (P0 : Nat) (a1 : Int32) (a2 : Int32) (a3 : Int32) (a4 : Int32) : Int32 := (if (gI s L0 9) ≤ a4 then a3 else (if a2 < (gI s (L0 + 5) (a4).toNatClampNeg) then (K s L0 P0 a1 a2 a3 (a4 + 1)) else (K s L0 P0 a1 a2 ((a3 + (if (gI s (L0 + 9) (a4).toNatClampNeg) = a1 then (1 : Int32) else (0 : Int32))) + (if (gI s (L0 + 10) (a4).toNatClampNeg) = a1 then (1 : Int32) else (0 : Int32))) (a4 + 1))))
set_option maxRecDepth 1000000 in
def uX4_marksOn_5 (K : (SM → Nat → Nat → Int32 → Int32 → Int32 → Int32 → Prop)) (s : SM) (L0 : Nat) (P0 : Nat) (a1 : Int32) (a2 : Int32) (a3 : Int32) (a4 : Int32) : Prop := (¬ (gI s L0 9) ≤ a4 → vp_in a4 60 ∧ ((a2 < (gI s (L0 + 5) (a4).toNatClampNeg) → K s L0 P0 a1 a2 a3 (a4 + 1)) ∧ (¬ a2 < (gI s (L0 + 5) (a4).toNatClampNeg) → vp_in a4 60 ∧ vp_in a4 60 ∧ K s L0 P0 a1 a2 ((a3 + (if (gI s (L0 + 9) (a4).toNatClampNeg) = a1 then (1 : Int32) else (0 : Int32))) + (if (gI s (L0 + 10) (a4).toNatClampNeg) = a1 then (1 : Int32) else (0 : Int32))) (a4 + 1))))
set_option maxRecDepth 1000000 in
noncomputable def lX4_marksOn : Nat → (SM → Nat → Nat → Int32 → Int32 → Int32 → Int32 → Int32)
  | 0 => fun (s : SM) (L0 : Nat) (P0 : Nat) (a1 : Int32) (a2 : Int32) (a3 : Int32) (a4 : Int32) => 0
  | n + 1 => tX4_marksOn_5 (lX4_marksOn n)
set_option maxRecDepth 1000000 in
def qX4_marksOn : Nat → (SM → Nat → Nat → Int32 → Int32 → Int32 → Int32 → Prop)
  | 0 => fun (s : SM) (L0 : Nat) (P0 : Nat) (a1 : Int32) (a2 : Int32) (a3 : Int32) (a4 : Int32) => False
  | n + 1 => uX4_marksOn_5 (qX4_marksOn n)
set_option maxRecDepth 1000000 in
noncomputable def fX4_marksOn (s : SM) (L0 P0 : Nat) (a1 : Int32) (a2 : Int32) : Int32 := ((lX4_marksOn FU) s L0 P0 a1 a2 (0 : Int32) (0 : Int32))
set_option maxRecDepth 1000000 in
noncomputable def vX4_marksOn (s : SM) (L0 P0 : Nat) (a1 : Int32) (a2 : Int32) : Int32 := fX4_marksOn s L0 P0 a1 a2
set_option maxRecDepth 1000000 in
def rX4_marksOn (s : SM) (L0 P0 : Nat) (a1 : Int32) (a2 : Int32) : Prop := (qX4_marksOn FU) s L0 P0 a1 a2 (0 : Int32) (0 : Int32)
set_option maxRecDepth 1000000 in
noncomputable def mX4_scratch (s : SM) (L0 P0 : Nat) (a1 : Int32) (a2 : Int32) : SM := ((fun (s5 : SM) => s5) (pI (pI s (L0 + 7) (a1).toNatClampNeg ((gI s (L0 + 7) (a1).toNatClampNeg) - a2)) (L0 + 8) (a1).toNatClampNeg ((gI (pI s (L0 + 7) (a1).toNatClampNeg ((gI s (L0 + 7) (a1).toNatClampNeg) - a2)) (L0 + 8) (a1).toNatClampNeg) + a2)))
set_option maxRecDepth 1000000 in
def rX4_scratch (s : SM) (L0 P0 : Nat) (a1 : Int32) (a2 : Int32) : Prop := vp_in a1 9 ∧ vp_in a1 9 ∧ vp_in a1 9 ∧ vp_in a1 9
set_option maxRecDepth 1000000 in
noncomputable def vX4_tryYear (s : SM) (L0 P0 : Nat) : Int32 := (if (gI s L0 10) < (99 : Int32) then (0 : Int32) else (9 : Int32))
set_option maxRecDepth 1000000 in
noncomputable def mX4_tryYear (s : SM) (L0 P0 : Nat) : SM := (if (gI s L0 10) < (99 : Int32) then (pI s L0 10 ((gI s L0 10) + (1 : Int32))) else s)
set_option maxRecDepth 1000000 in
noncomputable def vX5_isPackedIn (s : SM) (p1 : Nat) : Int32 := (if (gI s 225 0) ≤ 0 then (0 : Int32) else (if (gI s 225 1) = (gI s p1 11) then (1 : Int32) else (0 : Int32)))
set_option maxRecDepth 1000000 in
noncomputable def vX5_told (s : SM) (a1 : Int32) : Int32 := (if a1 < 0 then (-1 : Int32) else (if (gI s 225 0) ≤ a1 then (-1 : Int32) else (if (6 : Int32) ≤ a1 then (-1 : Int32) else (if (gI s 231 (a1).toNatClampNeg) = (4 : Int32) then (-1 : Int32) else (gI s 231 (a1).toNatClampNeg)))))
set_option maxRecDepth 1000000 in
def rX5_told (s : SM) (a1 : Int32) : Prop := (¬ a1 < 0 → (¬ (gI s 225 0) ≤ a1 → (¬ (6 : Int32) ≤ a1 → vp_in a1 6 ∧ (¬ (gI s 231 (a1).toNatClampNeg) = (4 : Int32) → vp_in a1 6))))
set_option maxRecDepth 1000000 in
noncomputable def tX6_bodyNamed_2 (K : (SM → Nat → Int64 → Int32 → Int32)) (s : SM) (p0 : Nat) (b1 : Int64) (a3 : Int32) : Int32 := (if (gI s p0 6) ≤ a3 then (-1 : Int32) else (if (lg_cmp (gL s (p0 + 1) (a3).toNatClampNeg) b1) = 0 then a3 else (K s p0 b1 (a3 + 1))))
set_option maxRecDepth 1000000 in
def uX6_bodyNamed_2 (K : (SM → Nat → Int64 → Int32 → Prop)) (s : SM) (p0 : Nat) (b1 : Int64) (a3 : Int32) : Prop := (¬ (gI s p0 6) ≤ a3 → vp_in a3 9 ∧ (¬ (lg_cmp (gL s (p0 + 1) (a3).toNatClampNeg) b1) = 0 → K s p0 b1 (a3 + 1)))
set_option maxRecDepth 1000000 in
noncomputable def lX6_bodyNamed : Nat → (SM → Nat → Int64 → Int32 → Int32)
  | 0 => fun (s : SM) (p0 : Nat) (b1 : Int64) (a3 : Int32) => 0
  | n + 1 => tX6_bodyNamed_2 (lX6_bodyNamed n)
set_option maxRecDepth 1000000 in
def qX6_bodyNamed : Nat → (SM → Nat → Int64 → Int32 → Prop)
  | 0 => fun (s : SM) (p0 : Nat) (b1 : Int64) (a3 : Int32) => False
  | n + 1 => uX6_bodyNamed_2 (qX6_bodyNamed n)
set_option maxRecDepth 1000000 in
noncomputable def fX6_bodyNamed (s : SM) (p0 : Nat) (b1 : Int64) : Int32 := ((lX6_bodyNamed FU) s p0 b1 (0 : Int32))
set_option maxRecDepth 1000000 in
noncomputable def vX6_bodyNamed (s : SM) (p0 : Nat) (b1 : Int64) : Int32 := fX6_bodyNamed s p0 b1
set_option maxRecDepth 1000000 in
def rX6_bodyNamed (s : SM) (p0 : Nat) (b1 : Int64) : Prop := (qX6_bodyNamed FU) s p0 b1 (0 : Int32)
set_option maxRecDepth 1000000 in
noncomputable def mX6_forget (s : SM) (p0 : Nat) : SM := ((fun (s1 : SM) => (pI s1 p0 13 (0 : Int32))) (pI (pI (pI (pI (pI (pI s p0 6 (0 : Int32)) p0 7 (0 : Int32)) p0 8 (1 : Int32)) p0 9 (0 : Int32)) p0 10 (0 : Int32)) p0 12 (0 : Int32)))
set_option maxRecDepth 1000000 in
noncomputable def vX6_hasBody (s : SM) (p0 : Nat) (a1 : Int32) : Int32 := (if a1 < 0 then (0 : Int32) else (if (gI s p0 6) ≤ a1 then (0 : Int32) else (if (9 : Int32) ≤ a1 then (0 : Int32) else (1 : Int32))))
set_option maxRecDepth 1000000 in
noncomputable def vX6_hasKind (s : SM) (p0 : Nat) (a1 : Int32) : Int32 := (if a1 < 0 then (0 : Int32) else (if (gI s p0 7) ≤ a1 then (0 : Int32) else (if (6 : Int32) ≤ a1 then (0 : Int32) else (1 : Int32))))
set_option maxRecDepth 1000000 in
noncomputable def vX6_isForRings (s : SM) (p0 : Nat) (a1 : Int32) : Int32 := (if (gI s (p0 + 6) (a1).toNatClampNeg) = 0 then (1 : Int32) else (if (gI s (p0 + 6) (a1).toNatClampNeg) = (4 : Int32) then (1 : Int32) else (0 : Int32)))
set_option maxRecDepth 1000000 in
def rX6_isForRings (s : SM) (p0 : Nat) (a1 : Int32) : Prop := vp_in a1 6 ∧ (¬ (gI s (p0 + 6) (a1).toNatClampNeg) = 0 → vp_in a1 6)
set_option maxRecDepth 1000000 in
noncomputable def tX6_kindNamed_2 (K : (SM → Nat → Int64 → Int32 → Int32)) (s : SM) (p0 : Nat) (b1 : Int64) (a3 : Int32) : Int32 := (if (gI s p0 7) ≤ a3 then (-1 : Int32) else (if (lg_cmp (gL s (p0 + 4) (a3).toNatClampNeg) b1) = 0 then a3 else (K s p0 b1 (a3 + 1))))
set_option maxRecDepth 1000000 in
def uX6_kindNamed_2 (K : (SM → Nat → Int64 → Int32 → Prop)) (s : SM) (p0 : Nat) (b1 : Int64) (a3 : Int32) : Prop := (¬ (gI s p0 7) ≤ a3 → vp_in a3 6 ∧ (¬ (lg_cmp (gL s (p0 + 4) (a3).toNatClampNeg) b1) = 0 → K s p0 b1 (a3 + 1)))
set_option maxRecDepth 1000000 in
noncomputable def lX6_kindNamed : Nat → (SM → Nat → Int64 → Int32 → Int32)
  | 0 => fun (s : SM) (p0 : Nat) (b1 : Int64) (a3 : Int32) => 0
  | n + 1 => tX6_kindNamed_2 (lX6_kindNamed n)
set_option maxRecDepth 1000000 in
def qX6_kindNamed : Nat → (SM → Nat → Int64 → Int32 → Prop)
  | 0 => fun (s : SM) (p0 : Nat) (b1 : Int64) (a3 : Int32) => False
  | n + 1 => uX6_kindNamed_2 (qX6_kindNamed n)
set_option maxRecDepth 1000000 in
noncomputable def fX6_kindNamed (s : SM) (p0 : Nat) (b1 : Int64) : Int32 := ((lX6_kindNamed FU) s p0 b1 (0 : Int32))
set_option maxRecDepth 1000000 in
noncomputable def vX6_kindNamed (s : SM) (p0 : Nat) (b1 : Int64) : Int32 := fX6_kindNamed s p0 b1
set_option maxRecDepth 1000000 in
def rX6_kindNamed (s : SM) (p0 : Nat) (b1 : Int64) : Prop := (qX6_kindNamed FU) s p0 b1 (0 : Int32)
set_option maxRecDepth 1000000 in
noncomputable def vX6_valueOf (s : SM) (p0 : Nat) (a1 : Int32) (a2 : Int32) : Int32 := (if (gI s (p0 + 6) (a1).toNatClampNeg) = 1 then ((2 : Int32) * a2) else (if (gI s (p0 + 6) (a1).toNatClampNeg) = 2 then (a2 / (2 : Int32)) else (if (gI s (p0 + 6) (a1).toNatClampNeg) = 3 then (0 : Int32) else a2)))
set_option maxRecDepth 1000000 in
def rX6_valueOf (s : SM) (p0 : Nat) (a1 : Int32) (a2 : Int32) : Prop := vp_in a1 6
set_option maxRecDepth 1000000 in
noncomputable def vX7_isBetter (s : SM) (a1 : Int32) (a2 : Int32) : Int32 := (if a2 = (gI s 218 2) then (if a1 < (gI s 218 1) then (1 : Int32) else (if a1 = (gI s 218 1) then (if (gI s 220 ((0 : Int32)).toNatClampNeg) = (gI s 219 ((0 : Int32)).toNatClampNeg) then (0 : Int32) else (1 : Int32)) else (0 : Int32))) else (if a2 ≤ (gI s 218 2) then (0 : Int32) else (1 : Int32)))
set_option maxRecDepth 1000000 in
noncomputable def tX9_add_3 (K : (SM → Int32 → Int32 → SM)) (s : SM) (a1 : Int32) (a2 : Int32) : SM := (if a2 < 0 then s else (if (640 : Int32) ≤ (gI s 3 1) then (K s a1 (a2 + (-8))) else ((fun (s2 : SM) => (K s2 a1 (a2 + (-8)))) (pI (pI s 4 ((gI s 3 1)).toNatClampNeg ((a1 >>> (a2 &&& 31)) &&& (255 : Int32))) 3 1 ((gI (pI s 4 ((gI s 3 1)).toNatClampNeg ((a1 >>> (a2 &&& 31)) &&& (255 : Int32))) 3 1) + (1 : Int32))))))
set_option maxRecDepth 1000000 in
def uX9_add_3 (K : (SM → Int32 → Int32 → Prop)) (s : SM) (a1 : Int32) (a2 : Int32) : Prop := (¬ a2 < 0 → (((640 : Int32) ≤ (gI s 3 1) → K s a1 (a2 + (-8))) ∧ (¬ (640 : Int32) ≤ (gI s 3 1) → vp_in (gI s 3 1) 640 ∧ (∀ s2, s2 = (pI (pI s 4 ((gI s 3 1)).toNatClampNeg ((a1 >>> (a2 &&& 31)) &&& (255 : Int32))) 3 1 ((gI (pI s 4 ((gI s 3 1)).toNatClampNeg ((a1 >>> (a2 &&& 31)) &&& (255 : Int32))) 3 1) + (1 : Int32))) → K s2 a1 (a2 + (-8))))))
set_option maxRecDepth 1000000 in
noncomputable def lX9_add : Nat → (SM → Int32 → Int32 → SM)
  | 0 => fun (s : SM) (a1 : Int32) (a2 : Int32) => s
  | n + 1 => tX9_add_3 (lX9_add n)
set_option maxRecDepth 1000000 in
def qX9_add : Nat → (SM → Int32 → Int32 → Prop)
  | 0 => fun (s : SM) (a1 : Int32) (a2 : Int32) => False
  | n + 1 => uX9_add_3 (qX9_add n)
set_option maxRecDepth 1000000 in
noncomputable def fX9_add (s : SM) (a1 : Int32) : SM := ((lX9_add FU) s a1 (24 : Int32))
set_option maxRecDepth 1000000 in
noncomputable def mX9_add (s : SM) (a1 : Int32) : SM := fX9_add s a1
set_option maxRecDepth 1000000 in
def rX9_add (s : SM) (a1 : Int32) : Prop := (qX9_add FU) s a1 (24 : Int32)
set_option maxRecDepth 1000000 in
noncomputable def mX9_begin (s : SM)  : SM := (pI (pI (pI s 3 7 (0 : Int32)) 3 2 (0 : Int32)) 3 3 (0 : Int32))
set_option maxRecDepth 1000000 in
noncomputable def vX9_byteOr (s : SM) (a1 : Int32) (a2 : Int32) : Int32 := (if a1 < 0 then a2 else (if (gI s 3 1) ≤ a1 then a2 else (if (640 : Int32) ≤ a1 then a2 else (gI s 4 (a1).toNatClampNeg))))
set_option maxRecDepth 1000000 in
def rX9_byteOr (s : SM) (a1 : Int32) (a2 : Int32) : Prop := (¬ a1 < 0 → (¬ (gI s 3 1) ≤ a1 → (¬ (640 : Int32) ≤ a1 → vp_in a1 640)))
set_option maxRecDepth 1000000 in
noncomputable def vX9_isBlank (s : SM) (a0 : Int32) : Int32 := (if a0 = (32 : Int32) then (1 : Int32) else (if a0 = (10 : Int32) then (1 : Int32) else (0 : Int32)))
set_option maxRecDepth 1000000 in
noncomputable def vX9_isDigit (s : SM) (a0 : Int32) : Int32 := (if a0 < (48 : Int32) then (0 : Int32) else (if (57 : Int32) < a0 then (0 : Int32) else (1 : Int32)))
set_option maxRecDepth 1000000 in
noncomputable def vX9_isEnd (s : SM)  : Int32 := (if (gI s 3 9) = 0 then (1 : Int32) else (0 : Int32))
set_option maxRecDepth 1000000 in
noncomputable def vX9_isLetter (s : SM) (a0 : Int32) : Int32 := (if a0 < (97 : Int32) then (0 : Int32) else (if (122 : Int32) < a0 then (0 : Int32) else (1 : Int32)))
set_option maxRecDepth 1000000 in
noncomputable def tX9_isName_2 (K : (SM → Int32 → Int32)) (s : SM) (a1 : Int32) : Int32 := (if (17 : Int32) ≤ a1 then (if (gI s 3 9) = (1 : Int32) then (1 : Int32) else (0 : Int32)) else (if (lg_cmp (gL s 3 4) (WV (a1).toNatClampNeg)) = 0 then (0 : Int32) else (K s (a1 + 1))))
set_option maxRecDepth 1000000 in
def uX9_isName_2 (K : (SM → Int32 → Prop)) (s : SM) (a1 : Int32) : Prop := (¬ (17 : Int32) ≤ a1 → vp_in a1 17 ∧ (¬ (lg_cmp (gL s 3 4) (WV (a1).toNatClampNeg)) = 0 → K s (a1 + 1)))
set_option maxRecDepth 1000000 in
noncomputable def lX9_isName : Nat → (SM → Int32 → Int32)
  | 0 => fun (s : SM) (a1 : Int32) => 0
  | n + 1 => tX9_isName_2 (lX9_isName n)
set_option maxRecDepth 1000000 in
def qX9_isName : Nat → (SM → Int32 → Prop)
  | 0 => fun (s : SM) (a1 : Int32) => False
  | n + 1 => uX9_isName_2 (qX9_isName n)
set_option maxRecDepth 1000000 in
noncomputable def fX9_isName (s : SM)  : Int32 := ((lX9_isName FU) s (0 : Int32))
set_option maxRecDepth 1000000 in
noncomputable def vX9_isName (s : SM)  : Int32 := fX9_isName s 
set_option maxRecDepth 1000000 in
def rX9_isName (s : SM)  : Prop := (qX9_isName FU) s (0 : Int32)
set_option maxRecDepth 1000000 in
noncomputable def vX9_refuse (s : SM) (a1 : Int32) : Int32 := (0 : Int32)
set_option maxRecDepth 1000000 in
noncomputable def mX9_refuse (s : SM) (a1 : Int32) : SM := (pI (pI s 3 2 a1) 3 3 (gI (pI s 3 2 a1) 3 8))
set_option maxRecDepth 1000000 in
noncomputable def vX9_says (s : SM) (b1 : Int64) : Int32 := (if (gI s 3 9) = (1 : Int32) then (if (lg_cmp (gL s 3 4) b1) = 0 then (1 : Int32) else (0 : Int32)) else (0 : Int32))
set_option maxRecDepth 1000000 in
noncomputable def vX0_actTold (s : SM)  : Int32 := (if (vX9_says s (1684365676 : Int64)) = 0 then (if (vX9_says s (126943972911973 : Int64)) = 0 then (if (vX9_says s (1935892850 : Int64)) = 0 then (if (vX9_says s (1919512167 : Int64)) = 0 then (if (vX9_says s (1684628851 : Int64)) = 0 then (if (vX9_says s (2036687218 : Int64)) = 0 then (-1 : Int32) else (5 : Int32)) else (4 : Int32)) else (3 : Int32)) else (2 : Int32)) else (1 : Int32)) else (0 : Int32))
set_option maxRecDepth 1000000 in
noncomputable def mX0_copyFrom (s : SM) (k0 : Nat) (k1 : Nat) : SM := ((fun (s1 : SM) => ((fun (s2 : SM) => ((fun (s3 : SM) => ((fun (s4 : SM) => ((fun (s5 : SM) => (pI s5 k0 0 (gI s5 k1 0))) (cI s4 (k0 + 5) (va_cpy (gI s4 (k1 + 5)) (gI s4 (k0 + 5)) ((0 : Int32)).toNatClampNeg ((0 : Int32)).toNatClampNeg ((40 : Int32)).toNatClampNeg)))) (cI s3 (k0 + 4) (va_cpy (gI s3 (k1 + 4)) (gI s3 (k0 + 4)) ((0 : Int32)).toNatClampNeg ((0 : Int32)).toNatClampNeg ((40 : Int32)).toNatClampNeg)))) (cI s2 (k0 + 3) (va_cpy (gI s2 (k1 + 3)) (gI s2 (k0 + 3)) ((0 : Int32)).toNatClampNeg ((0 : Int32)).toNatClampNeg ((40 : Int32)).toNatClampNeg)))) (cI s1 (k0 + 2) (va_cpy (gI s1 (k1 + 2)) (gI s1 (k0 + 2)) ((0 : Int32)).toNatClampNeg ((0 : Int32)).toNatClampNeg ((40 : Int32)).toNatClampNeg)))) (cI s (k0 + 1) (va_cpy (gI s (k1 + 1)) (gI s (k0 + 1)) ((0 : Int32)).toNatClampNeg ((0 : Int32)).toNatClampNeg ((40 : Int32)).toNatClampNeg)))
set_option maxRecDepth 1000000 in
noncomputable def tX10_addName_3 (K : (SM → Int64 → Int32 → SM)) (s : SM) (b1 : Int64) (a3 : Int32) : SM := (if a3 < 0 then s else (if (((b1 >>> ((a3).toInt64 &&& 63)) &&& (255 : Int64))).toInt32 = 0 then (K s b1 (a3 + (-8))) else (K (mX10_add s (((b1 >>> ((a3).toInt64 &&& 63)) &&& (255 : Int64))).toInt32) b1 (a3 + (-8)))))
set_option maxRecDepth 1000000 in
def uX10_addName_3 (K : (SM → Int64 → Int32 → Prop)) (s : SM) (b1 : Int64) (a3 : Int32) : Prop := (¬ a3 < 0 → (((((b1 >>> ((a3).toInt64 &&& 63)) &&& (255 : Int64))).toInt32 = 0 → K s b1 (a3 + (-8))) ∧ (¬ (((b1 >>> ((a3).toInt64 &&& 63)) &&& (255 : Int64))).toInt32 = 0 → rX10_add s (((b1 >>> ((a3).toInt64 &&& 63)) &&& (255 : Int64))).toInt32 ∧ K (mX10_add s (((b1 >>> ((a3).toInt64 &&& 63)) &&& (255 : Int64))).toInt32) b1 (a3 + (-8)))))
set_option maxRecDepth 1000000 in
noncomputable def lX10_addName : Nat → (SM → Int64 → Int32 → SM)
  | 0 => fun (s : SM) (b1 : Int64) (a3 : Int32) => s
  | n + 1 => tX10_addName_3 (lX10_addName n)
set_option maxRecDepth 1000000 in
def qX10_addName : Nat → (SM → Int64 → Int32 → Prop)
  | 0 => fun (s : SM) (b1 : Int64) (a3 : Int32) => False
  | n + 1 => uX10_addName_3 (qX10_addName n)
set_option maxRecDepth 1000000 in
noncomputable def fX10_addName (s : SM) (b1 : Int64) : SM := ((lX10_addName FU) s b1 (48 : Int32))
set_option maxRecDepth 1000000 in
noncomputable def mX10_addName (s : SM) (b1 : Int64) : SM := fX10_addName s b1
set_option maxRecDepth 1000000 in
def rX10_addName (s : SM) (b1 : Int64) : Prop := (qX10_addName FU) s b1 (48 : Int32)
set_option maxRecDepth 1000000 in
noncomputable def tX10_addNumber_17 (K : (SM → Int32 → SM)) (s : SM) (a1 : Int32) : SM := (mX10_add s ((48 : Int32) + (a1 - a1 / (10 : Int32) * (10 : Int32))))
set_option maxRecDepth 1000000 in
def uX10_addNumber_17 (K : (SM → Int32 → Prop)) (s : SM) (a1 : Int32) : Prop := rX10_add s ((48 : Int32) + (a1 - a1 / (10 : Int32) * (10 : Int32)))
set_option maxRecDepth 1000000 in
noncomputable def lX10_addNumber : Nat → (SM → Int32 → SM)
  | 0 => fun (s : SM) (a1 : Int32) => s
  | n + 1 => tX10_addNumber_17 (lX10_addNumber n)
set_option maxRecDepth 1000000 in
def qX10_addNumber : Nat → (SM → Int32 → Prop)
  | 0 => fun (s : SM) (a1 : Int32) => False
  | n + 1 => uX10_addNumber_17 (qX10_addNumber n)
set_option maxRecDepth 1000000 in
noncomputable def fX10_addNumber (s : SM) (a1 : Int32) : SM := (if a1 ≤ (9 : Int32) then ((lX10_addNumber FU) s a1) else ((lX10_addNumber FU) (mX10_add s ((48 : Int32) + (a1 / (10 : Int32)))) a1))
set_option maxRecDepth 1000000 in
noncomputable def mX10_addNumber (s : SM) (a1 : Int32) : SM := fX10_addNumber s a1
set_option maxRecDepth 1000000 in
def rX10_addNumber (s : SM) (a1 : Int32) : Prop := ((a1 ≤ (9 : Int32) → (qX10_addNumber FU) s a1) ∧ (¬ a1 ≤ (9 : Int32) → rX10_add s ((48 : Int32) + (a1 / (10 : Int32))) ∧ (qX10_addNumber FU) (mX10_add s ((48 : Int32) + (a1 / (10 : Int32)))) a1))
set_option maxRecDepth 1000000 in
noncomputable def vX11_aged (s : SM) (a1 : Int32) (a2 : Int32) : Int32 := (if (vX6_hasBody s 5 a1) = 0 then (-1 : Int32) else (if (vX11_isYear s a2) = 0 then (-1 : Int32) else (vX4_marksOn s 31 5 a1 a2)))
set_option maxRecDepth 1000000 in
def rX11_aged (s : SM) (a1 : Int32) (a2 : Int32) : Prop := (¬ (vX6_hasBody s 5 a1) = 0 → (¬ (vX11_isYear s a2) = 0 → rX4_marksOn s 31 5 a1 a2))
set_option maxRecDepth 1000000 in
noncomputable def vX11_byteAt (s : SM) (a1 : Int32) : Int32 := (vX10_at s a1)
set_option maxRecDepth 1000000 in
def rX11_byteAt (s : SM) (a1 : Int32) : Prop := rX10_at s a1
set_option maxRecDepth 1000000 in
noncomputable def vX11_feed (s : SM) (a1 : Int32) (a2 : Int32) (a3 : Int32) (a4 : Int32) (a5 : Int32) : Int32 := (if ((gI s 3 1) + (20 : Int32)) ≤ (640 : Int32) then (gI (mX9_add (mX9_add (mX9_add (mX9_add (mX9_add s a1) a2) a3) a4) a5) 3 1) else (-1 : Int32))
set_option maxRecDepth 1000000 in
noncomputable def mX11_feed (s : SM) (a1 : Int32) (a2 : Int32) (a3 : Int32) (a4 : Int32) (a5 : Int32) : SM := (if ((gI s 3 1) + (20 : Int32)) ≤ (640 : Int32) then (mX9_add (mX9_add (mX9_add (mX9_add (mX9_add s a1) a2) a3) a4) a5) else s)
set_option maxRecDepth 1000000 in
def rX11_feed (s : SM) (a1 : Int32) (a2 : Int32) (a3 : Int32) (a4 : Int32) (a5 : Int32) : Prop := (((gI s 3 1) + (20 : Int32)) ≤ (640 : Int32) → rX9_add s a1 ∧ rX9_add (mX9_add s a1) a2 ∧ rX9_add (mX9_add (mX9_add s a1) a2) a3 ∧ rX9_add (mX9_add (mX9_add (mX9_add s a1) a2) a3) a4 ∧ rX9_add (mX9_add (mX9_add (mX9_add (mX9_add s a1) a2) a3) a4) a5)
set_option maxRecDepth 1000000 in
noncomputable def vX11_fit (s : SM) (a1 : Int32) (a2 : Int32) : Int32 := (vX1_told s a1 a2)
set_option maxRecDepth 1000000 in
def rX11_fit (s : SM) (a1 : Int32) (a2 : Int32) : Prop := rX1_told s a1 a2
set_option maxRecDepth 1000000 in
noncomputable def vX11_kind (s : SM) (a1 : Int32) (a2 : Int32) : Option Int32 := (if (vX6_hasKind s 5 a1) = 0 then none else (if a2 < 0 then none else (if a2 ≤ (1 : Int32) then (if a2 = 0 then (some (gI s 10 (a1).toNatClampNeg)) else (some (gI s 11 (a1).toNatClampNeg))) else none)))
set_option maxRecDepth 1000000 in
def rX11_kind (s : SM) (a1 : Int32) (a2 : Int32) : Prop := (¬ (vX6_hasKind s 5 a1) = 0 → (¬ a2 < 0 → (a2 ≤ (1 : Int32) → ((¬ a2 = 0 → vp_in a1 6) ∧ (a2 = 0 → vp_in a1 6)))))
set_option maxRecDepth 1000000 in
noncomputable def tX11_mark_34 (K : (SM → Int32 → Int32 → Int32 → Int32 → Int32) × (SM → Int32 → Int32 → Int32 → Int32 → Int32 → Int32)) (s : SM) (a1 : Int32) (a2 : Int32) (a3 : Int32) (a4 : Int32) : Int32 := (if (gI s 31 9) ≤ a4 then (-1 : Int32) else (K.2 s a1 a2 a3 a4 (0 : Int32)))
set_option maxRecDepth 1000000 in
def uX11_mark_34 (K : (SM → Int32 → Int32 → Int32 → Int32 → Prop) × (SM → Int32 → Int32 → Int32 → Int32 → Int32 → Prop)) (s : SM) (a1 : Int32) (a2 : Int32) (a3 : Int32) (a4 : Int32) : Prop := (¬ (gI s 31 9) ≤ a4 → K.2 s a1 a2 a3 a4 (0 : Int32))
set_option maxRecDepth 1000000 in
noncomputable def tX11_mark_49 (K : (SM → Int32 → Int32 → Int32 → Int32 → Int32) × (SM → Int32 → Int32 → Int32 → Int32 → Int32 → Int32)) (s : SM) (a1 : Int32) (a2 : Int32) (a3 : Int32) (a4 : Int32) (a5 : Int32) : Int32 := (if (1 : Int32) < a5 then (K.1 s a1 a2 a3 (a4 + 1)) else (if (vX4_bearer s 31 5 a4 a5) = a1 then (if a3 = a2 then (((2 : Int32) * a4) + a5) else (K.2 s a1 a2 (a3 + 1) a4 (a5 + 1))) else (K.2 s a1 a2 a3 a4 (a5 + 1))))
set_option maxRecDepth 1000000 in
def uX11_mark_49 (K : (SM → Int32 → Int32 → Int32 → Int32 → Prop) × (SM → Int32 → Int32 → Int32 → Int32 → Int32 → Prop)) (s : SM) (a1 : Int32) (a2 : Int32) (a3 : Int32) (a4 : Int32) (a5 : Int32) : Prop := (((1 : Int32) < a5 → K.1 s a1 a2 a3 (a4 + 1)) ∧ (¬ (1 : Int32) < a5 → rX4_bearer s 31 5 a4 a5 ∧ ((¬ (vX4_bearer s 31 5 a4 a5) = a1 → K.2 s a1 a2 a3 a4 (a5 + 1)) ∧ ((vX4_bearer s 31 5 a4 a5) = a1 → (¬ a3 = a2 → K.2 s a1 a2 (a3 + 1) a4 (a5 + 1))))))
set_option maxRecDepth 1000000 in
noncomputable def lX11_mark : Nat → (SM → Int32 → Int32 → Int32 → Int32 → Int32) × (SM → Int32 → Int32 → Int32 → Int32 → Int32 → Int32)
  | 0 => (fun (s : SM) (a1 : Int32) (a2 : Int32) (a3 : Int32) (a4 : Int32) => 0, fun (s : SM) (a1 : Int32) (a2 : Int32) (a3 : Int32) (a4 : Int32) (a5 : Int32) => 0)
  | n + 1 => (tX11_mark_34 (lX11_mark n), tX11_mark_49 (lX11_mark n))
set_option maxRecDepth 1000000 in
def qX11_mark : Nat → (SM → Int32 → Int32 → Int32 → Int32 → Prop) × (SM → Int32 → Int32 → Int32 → Int32 → Int32 → Prop)
  | 0 => (fun (s : SM) (a1 : Int32) (a2 : Int32) (a3 : Int32) (a4 : Int32) => False, fun (s : SM) (a1 : Int32) (a2 : Int32) (a3 : Int32) (a4 : Int32) (a5 : Int32) => False)
  | n + 1 => (uX11_mark_34 (qX11_mark n), uX11_mark_49 (qX11_mark n))
set_option maxRecDepth 1000000 in
noncomputable def fX11_mark (s : SM) (a1 : Int32) (a2 : Int32) : Int32 := (if (vX6_hasBody s 5 a1) = 0 then (-1 : Int32) else (if a2 = (-1 : Int32) then (vX4_marksOn s 31 5 a1 (99 : Int32)) else ((lX11_mark FU).1 s a1 a2 (0 : Int32) (0 : Int32))))
set_option maxRecDepth 1000000 in
noncomputable def vX11_mark (s : SM) (a1 : Int32) (a2 : Int32) : Int32 := fX11_mark s a1 a2
set_option maxRecDepth 1000000 in
def rX11_mark (s : SM) (a1 : Int32) (a2 : Int32) : Prop := (¬ (vX6_hasBody s 5 a1) = 0 → ((¬ a2 = (-1 : Int32) → (qX11_mark FU).1 s a1 a2 (0 : Int32) (0 : Int32)) ∧ (a2 = (-1 : Int32) → rX4_marksOn s 31 5 a1 (99 : Int32))))
set_option maxRecDepth 1000000 in
noncomputable def vX11_packed (s : SM) (a1 : Int32) : Int32 := (vX5_told s a1)
set_option maxRecDepth 1000000 in
def rX11_packed (s : SM) (a1 : Int32) : Prop := rX5_told s a1
set_option maxRecDepth 1000000 in
noncomputable def vX12_byteAt (s : SM) (a1 : Int32) : Int32 := (if (vX12_isIn (pI s 248 0 (0 : Int32)) a1 (0 : Int32) ((gI (pI s 248 0 (0 : Int32)) 248 35) - (1 : Int32))) = 0 then (-1 : Int32) else ((gI (pI s 248 0 (0 : Int32)) 262 (a1).toNatClampNeg) &&& (255 : Int32)))
set_option maxRecDepth 1000000 in
noncomputable def mX12_byteAt (s : SM) (a1 : Int32) : SM := (pI s 248 0 (0 : Int32))
set_option maxRecDepth 1000000 in
def rX12_byteAt (s : SM) (a1 : Int32) : Prop := (¬ (vX12_isIn (pI s 248 0 (0 : Int32)) a1 (0 : Int32) ((gI (pI s 248 0 (0 : Int32)) 248 35) - (1 : Int32))) = 0 → vp_in a1 3600)
set_option maxRecDepth 1000000 in
noncomputable def vX12_feed (s : SM) (a1 : Int32) (a2 : Int32) (a3 : Int32) (a4 : Int32) (a5 : Int32) : Int32 := (if ((gI (pI s 248 0 (0 : Int32)) 248 2) + (20 : Int32)) ≤ (640 : Int32) then (gI (mX12_four (mX12_four (mX12_four (mX12_four (mX12_four (pI s 248 0 (0 : Int32)) a1) a2) a3) a4) a5) 248 2) else (-1 : Int32))
set_option maxRecDepth 1000000 in
noncomputable def mX12_feed (s : SM) (a1 : Int32) (a2 : Int32) (a3 : Int32) (a4 : Int32) (a5 : Int32) : SM := (if ((gI (pI s 248 0 (0 : Int32)) 248 2) + (20 : Int32)) ≤ (640 : Int32) then (mX12_four (mX12_four (mX12_four (mX12_four (mX12_four (pI s 248 0 (0 : Int32)) a1) a2) a3) a4) a5) else (pI s 248 0 (0 : Int32)))
set_option maxRecDepth 1000000 in
def rX12_feed (s : SM) (a1 : Int32) (a2 : Int32) (a3 : Int32) (a4 : Int32) (a5 : Int32) : Prop := (((gI (pI s 248 0 (0 : Int32)) 248 2) + (20 : Int32)) ≤ (640 : Int32) → rX12_four (pI s 248 0 (0 : Int32)) a1 ∧ rX12_four (mX12_four (pI s 248 0 (0 : Int32)) a1) a2 ∧ rX12_four (mX12_four (mX12_four (pI s 248 0 (0 : Int32)) a1) a2) a3 ∧ rX12_four (mX12_four (mX12_four (mX12_four (pI s 248 0 (0 : Int32)) a1) a2) a3) a4 ∧ rX12_four (mX12_four (mX12_four (mX12_four (mX12_four (pI s 248 0 (0 : Int32)) a1) a2) a3) a4) a5)
set_option maxRecDepth 1000000 in
noncomputable def vX12_fit (s : SM) (a1 : Int32) (a2 : Int32) : Int32 := (if (vX12_isIn (pI s 248 0 (0 : Int32)) a1 (0 : Int32) ((gI (pI s 248 0 (0 : Int32)) 248 53) - (1 : Int32))) = 0 then (-1 : Int32) else (if (vX12_isIn (pI s 248 0 (0 : Int32)) a2 (0 : Int32) (1 : Int32)) = 0 then (-1 : Int32) else (if a2 = 0 then (gI (pI s 248 0 (0 : Int32)) 270 (a1).toNatClampNeg) else (gI (pI s 248 0 (0 : Int32)) 271 (a1).toNatClampNeg))))
set_option maxRecDepth 1000000 in
noncomputable def mX12_fit (s : SM) (a1 : Int32) (a2 : Int32) : SM := (pI s 248 0 (0 : Int32))
set_option maxRecDepth 1000000 in
def rX12_fit (s : SM) (a1 : Int32) (a2 : Int32) : Prop := (¬ (vX12_isIn (pI s 248 0 (0 : Int32)) a1 (0 : Int32) ((gI (pI s 248 0 (0 : Int32)) 248 53) - (1 : Int32))) = 0 → (¬ (vX12_isIn (pI s 248 0 (0 : Int32)) a2 (0 : Int32) (1 : Int32)) = 0 → ((¬ a2 = 0 → vp_in a1 4) ∧ (a2 = 0 → vp_in a1 4))))
set_option maxRecDepth 1000000 in
noncomputable def tX12_image_18 (K : (SM → Int32 → Int32 → Int32 × SM) × (SM → Int32 → Int32 → Int32 × SM)) (s : SM) (a1 : Int32) (a2 : Int32) : Int32 × SM := (if (787 : Int32) ≤ a2 then (K.2 (pI s 275 ((((788 : Int32) * a1) + (787 : Int32))).toNatClampNeg (gI s 248 22)) a1 (0 : Int32)) else (K.1 (pI s 275 ((((788 : Int32) * a1) + a2)).toNatClampNeg (gI s 250 (a2).toNatClampNeg)) a1 (a2 + 1)))
set_option maxRecDepth 1000000 in
def uX12_image_18 (K : (SM → Int32 → Int32 → Prop) × (SM → Int32 → Int32 → Prop)) (s : SM) (a1 : Int32) (a2 : Int32) : Prop := (((787 : Int32) ≤ a2 → vp_in (((788 : Int32) * a1) + (787 : Int32)) 1576 ∧ K.2 (pI s 275 ((((788 : Int32) * a1) + (787 : Int32))).toNatClampNeg (gI s 248 22)) a1 (0 : Int32)) ∧ (¬ (787 : Int32) ≤ a2 → vp_in a2 787 ∧ vp_in (((788 : Int32) * a1) + a2) 1576 ∧ K.1 (pI s 275 ((((788 : Int32) * a1) + a2)).toNatClampNeg (gI s 250 (a2).toNatClampNeg)) a1 (a2 + 1)))
set_option maxRecDepth 1000000 in
noncomputable def tX12_image_69 (K : (SM → Int32 → Int32 → Int32 × SM) × (SM → Int32 → Int32 → Int32 × SM)) (s : SM) (a1 : Int32) (a2 : Int32) : Int32 × SM := (if (15 : Int32) ≤ a2 then ((1 : Int32), (pI s 277 (a1).toNatClampNeg (vp_nar .boolean (1 : Int32)))) else (K.2 (pL s 276 ((((15 : Int32) * a1) + a2)).toNatClampNeg (gL s 253 (a2).toNatClampNeg)) a1 (a2 + 1)))
set_option maxRecDepth 1000000 in
def uX12_image_69 (K : (SM → Int32 → Int32 → Prop) × (SM → Int32 → Int32 → Prop)) (s : SM) (a1 : Int32) (a2 : Int32) : Prop := (((15 : Int32) ≤ a2 → vp_in a1 2) ∧ (¬ (15 : Int32) ≤ a2 → vp_in a2 30 ∧ vp_in (((15 : Int32) * a1) + a2) 30 ∧ K.2 (pL s 276 ((((15 : Int32) * a1) + a2)).toNatClampNeg (gL s 253 (a2).toNatClampNeg)) a1 (a2 + 1)))
set_option maxRecDepth 1000000 in
noncomputable def lX12_image : Nat → (SM → Int32 → Int32 → Int32 × SM) × (SM → Int32 → Int32 → Int32 × SM)
  | 0 => (fun (s : SM) (a1 : Int32) (a2 : Int32) => (0, s), fun (s : SM) (a1 : Int32) (a2 : Int32) => (0, s))
  | n + 1 => (tX12_image_18 (lX12_image n), tX12_image_69 (lX12_image n))
set_option maxRecDepth 1000000 in
def qX12_image : Nat → (SM → Int32 → Int32 → Prop) × (SM → Int32 → Int32 → Prop)
  | 0 => (fun (s : SM) (a1 : Int32) (a2 : Int32) => False, fun (s : SM) (a1 : Int32) (a2 : Int32) => False)
  | n + 1 => (uX12_image_18 (qX12_image n), uX12_image_69 (qX12_image n))
set_option maxRecDepth 1000000 in
noncomputable def fX12_image (s : SM) (a1 : Int32) : Int32 × SM := (if (vX12_isIn (pI s 248 0 (0 : Int32)) a1 (0 : Int32) (1 : Int32)) = 0 then ((0 : Int32), (pI s 248 0 (0 : Int32))) else ((lX12_image FU).1 (pI s 248 0 (0 : Int32)) a1 (0 : Int32)))
set_option maxRecDepth 1000000 in
noncomputable def vX12_image (s : SM) (a1 : Int32) : Int32 := fX12_image s a1 |>.1
set_option maxRecDepth 1000000 in
noncomputable def mX12_image (s : SM) (a1 : Int32) : SM := fX12_image s a1 |>.2
set_option maxRecDepth 1000000 in
def rX12_image (s : SM) (a1 : Int32) : Prop := (¬ (vX12_isIn (pI s 248 0 (0 : Int32)) a1 (0 : Int32) (1 : Int32)) = 0 → (qX12_image FU).1 (pI s 248 0 (0 : Int32)) a1 (0 : Int32))
set_option maxRecDepth 1000000 in
noncomputable def vX12_isBody (s : SM) (a1 : Int32) : Int32 := (vX12_isIn s a1 (0 : Int32) ((gI s 250 ((0 : Int32)).toNatClampNeg) - (1 : Int32)))
set_option maxRecDepth 1000000 in
noncomputable def vX12_isDeal (s : SM) (a1 : Int32) : Int32 := (vX12_isIn s a1 (0 : Int32) ((gI s 250 ((34 : Int32)).toNatClampNeg) - (1 : Int32)))
set_option maxRecDepth 1000000 in
noncomputable def vX12_isFound (s : SM) (a1 : Int32) : Int32 := (vX12_isIn s a1 (0 : Int32) (((1 : Int32) <<< ((gI s 250 ((0 : Int32)).toNatClampNeg) &&& 31)) - (1 : Int32)))
set_option maxRecDepth 1000000 in
noncomputable def vX12_isKind (s : SM) (a1 : Int32) : Int32 := (vX12_isIn s a1 (0 : Int32) ((gI s 250 ((1 : Int32)).toNatClampNeg) - (1 : Int32)))
set_option maxRecDepth 1000000 in
noncomputable def vX12_isLiving (s : SM) (a1 : Int32) : Int32 := (if (vX12_has s (gI s 250 ((36 : Int32)).toNatClampNeg) a1) = 0 then (1 : Int32) else (0 : Int32))
set_option maxRecDepth 1000000 in
noncomputable def vX12_isRead (s : SM) (a1 : Int32) (a2 : Int32) (a3 : Int32) : Int32 := (if (vX12_of s a1 ((6 : Int32) + a2)) < 0 then (0 : Int32) else (if (vX12_has s (vX12_of s a1 (8 : Int32)) a2) = 0 then (if (vX12_has s a3 (vX12_of s a1 ((6 : Int32) + a2))) = 0 then (0 : Int32) else (1 : Int32)) else (0 : Int32)))
set_option maxRecDepth 1000000 in
def rX12_isRead (s : SM) (a1 : Int32) (a2 : Int32) (a3 : Int32) : Prop := rX12_of s a1 ((6 : Int32) + a2) ∧ (¬ (vX12_of s a1 ((6 : Int32) + a2)) < 0 → rX12_of s a1 (8 : Int32))
set_option maxRecDepth 1000000 in
noncomputable def vX12_judged (s : SM) (a1 : Int32) : Int32 := (if (gI (pI s 248 0 (0 : Int32)) 248 38) = 0 then (-1 : Int32) else (if (vX12_isIn (pI s 248 0 (0 : Int32)) a1 (0 : Int32) (4 : Int32)) = 0 then (-1 : Int32) else (gI (pI s 248 0 (0 : Int32)) 263 (a1).toNatClampNeg)))
set_option maxRecDepth 1000000 in
noncomputable def mX12_judged (s : SM) (a1 : Int32) : SM := (pI s 248 0 (0 : Int32))
set_option maxRecDepth 1000000 in
def rX12_judged (s : SM) (a1 : Int32) : Prop := (¬ (gI (pI s 248 0 (0 : Int32)) 248 38) = 0 → (¬ (vX12_isIn (pI s 248 0 (0 : Int32)) a1 (0 : Int32) (4 : Int32)) = 0 → vp_in a1 5))
set_option maxRecDepth 1000000 in
noncomputable def tX12_keepsBefore_6 (K : (SM → Int32 → SM)) (s : SM) (a1 : Int32) : SM := (if (552 : Int32) ≤ a1 then s else (K (pI s 255 ((((552 : Int32) * ((gI s 248 25) - (1 : Int32))) + a1)).toNatClampNeg (gI s 259 (a1).toNatClampNeg)) (a1 + 1)))
set_option maxRecDepth 1000000 in
def uX12_keepsBefore_6 (K : (SM → Int32 → Prop)) (s : SM) (a1 : Int32) : Prop := (¬ (552 : Int32) ≤ a1 → vp_in a1 552 ∧ vp_in (((552 : Int32) * ((gI s 248 25) - (1 : Int32))) + a1) 4416 ∧ K (pI s 255 ((((552 : Int32) * ((gI s 248 25) - (1 : Int32))) + a1)).toNatClampNeg (gI s 259 (a1).toNatClampNeg)) (a1 + 1))
set_option maxRecDepth 1000000 in
noncomputable def lX12_keepsBefore : Nat → (SM → Int32 → SM)
  | 0 => fun (s : SM) (a1 : Int32) => s
  | n + 1 => tX12_keepsBefore_6 (lX12_keepsBefore n)
set_option maxRecDepth 1000000 in
def qX12_keepsBefore : Nat → (SM → Int32 → Prop)
  | 0 => fun (s : SM) (a1 : Int32) => False
  | n + 1 => uX12_keepsBefore_6 (qX12_keepsBefore n)
set_option maxRecDepth 1000000 in
noncomputable def fX12_keepsBefore (s : SM)  : SM := ((lX12_keepsBefore FU) (mX12_keep s ) (0 : Int32))
set_option maxRecDepth 1000000 in
noncomputable def mX12_keepsBefore (s : SM)  : SM := fX12_keepsBefore s 
set_option maxRecDepth 1000000 in
def rX12_keepsBefore (s : SM)  : Prop := rX12_keep s  ∧ (qX12_keepsBefore FU) (mX12_keep s ) (0 : Int32)
set_option maxRecDepth 1000000 in
noncomputable def tX12_leastOf_7 (K : (SM → Nat → Nat → Int32 → Int32 → Int32 → Int32)) (s : SM) (r1 : Nat) (n1 : Nat) (a2 : Int32) (a3 : Int32) (a4 : Int32) : Int32 := (if a2 ≤ a4 then a3 else (if a3 ≤ (vX12_of s (gI s r1 (a4).toNatClampNeg) (2 : Int32)) then (K s r1 n1 a2 a3 (a4 + 1)) else (K s r1 n1 a2 (vX12_of s (gI s r1 (a4).toNatClampNeg) (2 : Int32)) (a4 + 1))))
set_option maxRecDepth 1000000 in
def uX12_leastOf_7 (K : (SM → Nat → Nat → Int32 → Int32 → Int32 → Prop)) (s : SM) (r1 : Nat) (n1 : Nat) (a2 : Int32) (a3 : Int32) (a4 : Int32) : Prop := (¬ a2 ≤ a4 → vp_in a4 n1 ∧ rX12_of s (gI s r1 (a4).toNatClampNeg) (2 : Int32) ∧ ((a3 ≤ (vX12_of s (gI s r1 (a4).toNatClampNeg) (2 : Int32)) → K s r1 n1 a2 a3 (a4 + 1)) ∧ (¬ a3 ≤ (vX12_of s (gI s r1 (a4).toNatClampNeg) (2 : Int32)) → vp_in a4 n1 ∧ rX12_of s (gI s r1 (a4).toNatClampNeg) (2 : Int32) ∧ K s r1 n1 a2 (vX12_of s (gI s r1 (a4).toNatClampNeg) (2 : Int32)) (a4 + 1))))
set_option maxRecDepth 1000000 in
noncomputable def lX12_leastOf : Nat → (SM → Nat → Nat → Int32 → Int32 → Int32 → Int32)
  | 0 => fun (s : SM) (r1 : Nat) (n1 : Nat) (a2 : Int32) (a3 : Int32) (a4 : Int32) => 0
  | n + 1 => tX12_leastOf_7 (lX12_leastOf n)
set_option maxRecDepth 1000000 in
def qX12_leastOf : Nat → (SM → Nat → Nat → Int32 → Int32 → Int32 → Prop)
  | 0 => fun (s : SM) (r1 : Nat) (n1 : Nat) (a2 : Int32) (a3 : Int32) (a4 : Int32) => False
  | n + 1 => uX12_leastOf_7 (qX12_leastOf n)
set_option maxRecDepth 1000000 in
noncomputable def fX12_leastOf (s : SM) (r1 n1 : Nat) (a2 : Int32) : Int32 := ((lX12_leastOf FU) s r1 n1 a2 (1000000000 : Int32) (0 : Int32))
set_option maxRecDepth 1000000 in
noncomputable def vX12_leastOf (s : SM) (r1 n1 : Nat) (a2 : Int32) : Int32 := fX12_leastOf s r1 n1 a2
set_option maxRecDepth 1000000 in
def rX12_leastOf (s : SM) (r1 n1 : Nat) (a2 : Int32) : Prop := (qX12_leastOf FU) s r1 n1 a2 (1000000000 : Int32) (0 : Int32)
set_option maxRecDepth 1000000 in
noncomputable def tX12_markOf_5 (K : (SM → Int32 → Int32 → Int32 → Int32 → Int32)) (s : SM) (a1 : Int32) (a2 : Int32) (a3 : Int32) (a4 : Int32) : Int32 := (if ((2 : Int32) * (gI s 250 ((34 : Int32)).toNatClampNeg)) ≤ a4 then (if a2 = (-1 : Int32) then a3 else (-1 : Int32)) else (if (vX12_of s (a4 / (2 : Int32)) ((6 : Int32) + (a4 - a4 / (2 : Int32) * (2 : Int32)))) = a1 then (if a3 = a2 then a4 else (K s a1 a2 (a3 + 1) (a4 + 1))) else (K s a1 a2 a3 (a4 + 1))))
set_option maxRecDepth 1000000 in
def uX12_markOf_5 (K : (SM → Int32 → Int32 → Int32 → Int32 → Prop)) (s : SM) (a1 : Int32) (a2 : Int32) (a3 : Int32) (a4 : Int32) : Prop := (¬ ((2 : Int32) * (gI s 250 ((34 : Int32)).toNatClampNeg)) ≤ a4 → rX12_of s (a4 / (2 : Int32)) ((6 : Int32) + (a4 - a4 / (2 : Int32) * (2 : Int32))) ∧ (((vX12_of s (a4 / (2 : Int32)) ((6 : Int32) + (a4 - a4 / (2 : Int32) * (2 : Int32)))) = a1 → (¬ a3 = a2 → K s a1 a2 (a3 + 1) (a4 + 1))) ∧ (¬ (vX12_of s (a4 / (2 : Int32)) ((6 : Int32) + (a4 - a4 / (2 : Int32) * (2 : Int32)))) = a1 → K s a1 a2 a3 (a4 + 1))))
set_option maxRecDepth 1000000 in
noncomputable def lX12_markOf : Nat → (SM → Int32 → Int32 → Int32 → Int32 → Int32)
  | 0 => fun (s : SM) (a1 : Int32) (a2 : Int32) (a3 : Int32) (a4 : Int32) => 0
  | n + 1 => tX12_markOf_5 (lX12_markOf n)
set_option maxRecDepth 1000000 in
def qX12_markOf : Nat → (SM → Int32 → Int32 → Int32 → Int32 → Prop)
  | 0 => fun (s : SM) (a1 : Int32) (a2 : Int32) (a3 : Int32) (a4 : Int32) => False
  | n + 1 => uX12_markOf_5 (qX12_markOf n)
set_option maxRecDepth 1000000 in
noncomputable def fX12_markOf (s : SM) (a1 : Int32) (a2 : Int32) : Int32 := ((lX12_markOf FU) s a1 a2 (0 : Int32) (0 : Int32))
set_option maxRecDepth 1000000 in
noncomputable def vX12_markOf (s : SM) (a1 : Int32) (a2 : Int32) : Int32 := fX12_markOf s a1 a2
set_option maxRecDepth 1000000 in
def rX12_markOf (s : SM) (a1 : Int32) (a2 : Int32) : Prop := (qX12_markOf FU) s a1 a2 (0 : Int32) (0 : Int32)
set_option maxRecDepth 1000000 in
noncomputable def tX12_marksOn_5 (K : (SM → Int32 → Int32 → Int32 → Int32 → Int32) × (SM → Int32 → Int32 → Int32 → Int32 → Int32 → Int32)) (s : SM) (a1 : Int32) (a2 : Int32) (a3 : Int32) (a4 : Int32) : Int32 := (if (gI s 250 ((34 : Int32)).toNatClampNeg) ≤ a4 then a3 else (K.2 s a1 a2 a3 a4 (0 : Int32)))
set_option maxRecDepth 1000000 in
def uX12_marksOn_5 (K : (SM → Int32 → Int32 → Int32 → Int32 → Prop) × (SM → Int32 → Int32 → Int32 → Int32 → Int32 → Prop)) (s : SM) (a1 : Int32) (a2 : Int32) (a3 : Int32) (a4 : Int32) : Prop := (¬ (gI s 250 ((34 : Int32)).toNatClampNeg) ≤ a4 → K.2 s a1 a2 a3 a4 (0 : Int32))
set_option maxRecDepth 1000000 in
noncomputable def tX12_marksOn_20 (K : (SM → Int32 → Int32 → Int32 → Int32 → Int32) × (SM → Int32 → Int32 → Int32 → Int32 → Int32 → Int32)) (s : SM) (a1 : Int32) (a2 : Int32) (a3 : Int32) (a4 : Int32) (a5 : Int32) : Int32 := (if (2 : Int32) ≤ a5 then (K.1 s a1 a2 a3 (a4 + 1)) else (if (vX12_of s a4 ((6 : Int32) + a5)) = a1 then (K.2 s a1 a2 (a3 + (if a2 < (vX12_of s a4 (4 : Int32)) then (0 : Int32) else (1 : Int32))) a4 (a5 + 1)) else (K.2 s a1 a2 (a3 + (0 : Int32)) a4 (a5 + 1))))
set_option maxRecDepth 1000000 in
def uX12_marksOn_20 (K : (SM → Int32 → Int32 → Int32 → Int32 → Prop) × (SM → Int32 → Int32 → Int32 → Int32 → Int32 → Prop)) (s : SM) (a1 : Int32) (a2 : Int32) (a3 : Int32) (a4 : Int32) (a5 : Int32) : Prop := (((2 : Int32) ≤ a5 → K.1 s a1 a2 a3 (a4 + 1)) ∧ (¬ (2 : Int32) ≤ a5 → rX12_of s a4 ((6 : Int32) + a5) ∧ ((¬ (vX12_of s a4 ((6 : Int32) + a5)) = a1 → K.2 s a1 a2 (a3 + (0 : Int32)) a4 (a5 + 1)) ∧ ((vX12_of s a4 ((6 : Int32) + a5)) = a1 → rX12_of s a4 (4 : Int32) ∧ K.2 s a1 a2 (a3 + (if a2 < (vX12_of s a4 (4 : Int32)) then (0 : Int32) else (1 : Int32))) a4 (a5 + 1)))))
set_option maxRecDepth 1000000 in
noncomputable def lX12_marksOn : Nat → (SM → Int32 → Int32 → Int32 → Int32 → Int32) × (SM → Int32 → Int32 → Int32 → Int32 → Int32 → Int32)
  | 0 => (fun (s : SM) (a1 : Int32) (a2 : Int32) (a3 : Int32) (a4 : Int32) => 0, fun (s : SM) (a1 : Int32) (a2 : Int32) (a3 : Int32) (a4 : Int32) (a5 : Int32) => 0)
  | n + 1 => (tX12_marksOn_5 (lX12_marksOn n), tX12_marksOn_20 (lX12_marksOn n))
set_option maxRecDepth 1000000 in
def qX12_marksOn : Nat → (SM → Int32 → Int32 → Int32 → Int32 → Prop) × (SM → Int32 → Int32 → Int32 → Int32 → Int32 → Prop)
  | 0 => (fun (s : SM) (a1 : Int32) (a2 : Int32) (a3 : Int32) (a4 : Int32) => False, fun (s : SM) (a1 : Int32) (a2 : Int32) (a3 : Int32) (a4 : Int32) (a5 : Int32) => False)
  | n + 1 => (uX12_marksOn_5 (qX12_marksOn n), uX12_marksOn_20 (qX12_marksOn n))
set_option maxRecDepth 1000000 in
noncomputable def fX12_marksOn (s : SM) (a1 : Int32) (a2 : Int32) : Int32 := ((lX12_marksOn FU).1 s a1 a2 (0 : Int32) (0 : Int32))
set_option maxRecDepth 1000000 in
noncomputable def vX12_marksOn (s : SM) (a1 : Int32) (a2 : Int32) : Int32 := fX12_marksOn s a1 a2
set_option maxRecDepth 1000000 in
def rX12_marksOn (s : SM) (a1 : Int32) (a2 : Int32) : Prop := (qX12_marksOn FU).1 s a1 a2 (0 : Int32) (0 : Int32)
set_option maxRecDepth 1000000 in
noncomputable def tX12_next_0 (K : (SM → SM) × (SM → SM) × (SM → Int32 → SM) × (SM → Int32 → Int32 → Int32 → SM) × (SM → Int32 → Int32 → Int32 → SM) × (SM → Int32 → Int32 → Int32 → SM) × (SM → Int32 → Int32 → Int32 → SM)) (s : SM)  : SM := (if (vX12_peek s ) = (32 : Int32) then (K.1 (pI s 248 4 ((gI s 248 4) + (1 : Int32))) ) else (if (vX12_peek s ) = (10 : Int32) then (K.1 (pI s 248 4 ((gI s 248 4) + (1 : Int32))) ) else (if (gI (pI (pI s 248 12 (gI s 248 4)) 248 13 (0 : Int32)) 248 3) ≤ (gI (pI (pI s 248 12 (gI s 248 4)) 248 13 (0 : Int32)) 248 5) then (K.2.1 (pI (pI s 248 12 (gI s 248 4)) 248 13 (0 : Int32)) ) else (if (gI (pI (pI s 248 12 (gI s 248 4)) 248 13 (0 : Int32)) 248 4) < (gI (pI (pI s 248 12 (gI s 248 4)) 248 13 (0 : Int32)) 248 5) then (K.2.1 (pI (pI s 248 12 (gI s 248 4)) 248 13 (0 : Int32)) ) else ((fun (s1 : SM) => (pI s1 248 11 (4 : Int32))) (pI (pI (pI s 248 12 (gI s 248 4)) 248 13 (0 : Int32)) 248 12 (gI (pI (pI s 248 12 (gI s 248 4)) 248 13 (0 : Int32)) 248 5)))))))
set_option maxRecDepth 1000000 in
def uX12_next_0 (K : (SM → Prop) × (SM → Prop) × (SM → Int32 → Prop) × (SM → Int32 → Int32 → Int32 → Prop) × (SM → Int32 → Int32 → Int32 → Prop) × (SM → Int32 → Int32 → Int32 → Prop) × (SM → Int32 → Int32 → Int32 → Prop)) (s : SM)  : Prop := rX12_peek s  ∧ (((vX12_peek s ) = (32 : Int32) → K.1 (pI s 248 4 ((gI s 248 4) + (1 : Int32))) ) ∧ (¬ (vX12_peek s ) = (32 : Int32) → rX12_peek s  ∧ ((¬ (vX12_peek s ) = (10 : Int32) → (((gI (pI (pI s 248 12 (gI s 248 4)) 248 13 (0 : Int32)) 248 3) ≤ (gI (pI (pI s 248 12 (gI s 248 4)) 248 13 (0 : Int32)) 248 5) → K.2.1 (pI (pI s 248 12 (gI s 248 4)) 248 13 (0 : Int32)) ) ∧ (¬ (gI (pI (pI s 248 12 (gI s 248 4)) 248 13 (0 : Int32)) 248 3) ≤ (gI (pI (pI s 248 12 (gI s 248 4)) 248 13 (0 : Int32)) 248 5) → ((gI (pI (pI s 248 12 (gI s 248 4)) 248 13 (0 : Int32)) 248 4) < (gI (pI (pI s 248 12 (gI s 248 4)) 248 13 (0 : Int32)) 248 5) → K.2.1 (pI (pI s 248 12 (gI s 248 4)) 248 13 (0 : Int32)) )))) ∧ ((vX12_peek s ) = (10 : Int32) → K.1 (pI s 248 4 ((gI s 248 4) + (1 : Int32))) ))))
set_option maxRecDepth 1000000 in
noncomputable def tX12_next_80 (K : (SM → SM) × (SM → SM) × (SM → Int32 → SM) × (SM → Int32 → Int32 → Int32 → SM) × (SM → Int32 → Int32 → Int32 → SM) × (SM → Int32 → Int32 → Int32 → SM) × (SM → Int32 → Int32 → Int32 → SM)) (s : SM)  : SM := (if 0 ≤ (vX12_peek s ) then (if (vX12_isSmall s (vX12_peek s )) = 0 then (if (vX12_isDigit s (vX12_peek s )) = 0 then ((fun (s1 : SM) => s1) (pI (pI (pI s 248 11 (if (vX12_peek s ) = (59 : Int32) then (3 : Int32) else (4 : Int32))) 248 14 (vX12_peek s )) 248 4 ((gI (pI (pI s 248 11 (if (vX12_peek s ) = (59 : Int32) then (3 : Int32) else (4 : Int32))) 248 14 (vX12_peek s )) 248 4) + (1 : Int32)))) else (K.2.2.1 s (vX12_peek s ))) else (K.2.2.1 s (vX12_peek s ))) else (pI s 248 11 (0 : Int32)))
set_option maxRecDepth 1000000 in
def uX12_next_80 (K : (SM → Prop) × (SM → Prop) × (SM → Int32 → Prop) × (SM → Int32 → Int32 → Int32 → Prop) × (SM → Int32 → Int32 → Int32 → Prop) × (SM → Int32 → Int32 → Int32 → Prop) × (SM → Int32 → Int32 → Int32 → Prop)) (s : SM)  : Prop := rX12_peek s  ∧ (0 ≤ (vX12_peek s ) → ((¬ (vX12_isSmall s (vX12_peek s )) = 0 → K.2.2.1 s (vX12_peek s )) ∧ ((vX12_isSmall s (vX12_peek s )) = 0 → (¬ (vX12_isDigit s (vX12_peek s )) = 0 → K.2.2.1 s (vX12_peek s )))))
set_option maxRecDepth 1000000 in
noncomputable def tX12_next_140 (K : (SM → SM) × (SM → SM) × (SM → Int32 → SM) × (SM → Int32 → Int32 → Int32 → SM) × (SM → Int32 → Int32 → Int32 → SM) × (SM → Int32 → Int32 → Int32 → SM) × (SM → Int32 → Int32 → Int32 → SM)) (s : SM) (a1 : Int32) : SM := (K.2.2.2.1 (pI (pL s 248 17 (0 : Int64)) 248 14 (0 : Int32)) a1 (vX12_isSmall s a1) (1 : Int32))
set_option maxRecDepth 1000000 in
def uX12_next_140 (K : (SM → Prop) × (SM → Prop) × (SM → Int32 → Prop) × (SM → Int32 → Int32 → Int32 → Prop) × (SM → Int32 → Int32 → Int32 → Prop) × (SM → Int32 → Int32 → Int32 → Prop) × (SM → Int32 → Int32 → Int32 → Prop)) (s : SM) (a1 : Int32) : Prop := K.2.2.2.1 (pI (pL s 248 17 (0 : Int64)) 248 14 (0 : Int32)) a1 (vX12_isSmall s a1) (1 : Int32)
set_option maxRecDepth 1000000 in
noncomputable def tX12_next_157 (K : (SM → SM) × (SM → SM) × (SM → Int32 → SM) × (SM → Int32 → Int32 → Int32 → SM) × (SM → Int32 → Int32 → Int32 → SM) × (SM → Int32 → Int32 → Int32 → SM) × (SM → Int32 → Int32 → Int32 → SM)) (s : SM) (a1 : Int32) (a2 : Int32) (a3 : Int32) : SM := (if (vX12_isSmall s (vX12_peek s )) = 0 then (if (vX12_isDigit s (vX12_peek s )) = 0 then ((fun (s1 : SM) => s1) (pI s 248 11 (if a3 = 0 then (4 : Int32) else (if a2 = 0 then (if (gI s 248 13) ≤ (2 : Int32) then (if a2 = 0 then (2 : Int32) else (1 : Int32)) else (4 : Int32)) else (if (gI s 248 13) ≤ (7 : Int32) then (if a2 = 0 then (2 : Int32) else (1 : Int32)) else (4 : Int32)))))) else (K.2.2.2.2.1 s a1 a2 a3)) else (K.2.2.2.2.1 s a1 a2 a3))
set_option maxRecDepth 1000000 in
def uX12_next_157 (K : (SM → Prop) × (SM → Prop) × (SM → Int32 → Prop) × (SM → Int32 → Int32 → Int32 → Prop) × (SM → Int32 → Int32 → Int32 → Prop) × (SM → Int32 → Int32 → Int32 → Prop) × (SM → Int32 → Int32 → Int32 → Prop)) (s : SM) (a1 : Int32) (a2 : Int32) (a3 : Int32) : Prop := rX12_peek s  ∧ ((¬ (vX12_isSmall s (vX12_peek s )) = 0 → K.2.2.2.2.1 s a1 a2 a3) ∧ ((vX12_isSmall s (vX12_peek s )) = 0 → rX12_peek s  ∧ (¬ (vX12_isDigit s (vX12_peek s )) = 0 → K.2.2.2.2.1 s a1 a2 a3)))
set_option maxRecDepth 1000000 in
noncomputable def tX12_next_177 (K : (SM → SM) × (SM → SM) × (SM → Int32 → SM) × (SM → Int32 → Int32 → Int32 → SM) × (SM → Int32 → Int32 → Int32 → SM) × (SM → Int32 → Int32 → Int32 → SM) × (SM → Int32 → Int32 → Int32 → SM)) (s : SM) (a1 : Int32) (a2 : Int32) (a3 : Int32) : SM := (if a3 = 0 then (K.2.2.2.2.2.1 s a1 a2 a3) else (if (vX12_isSmall s (vX12_peek s )) = a2 then (if (7 : Int32) ≤ (gI s 248 13) then (K.2.2.2.2.2.2 s a1 a2 (1 : Int32)) else (K.2.2.2.2.2.2 (pL s 248 17 (((gL s 248 17) <<< (((8 : Int32)).toInt64 &&& 63)) ||| ((vX12_peek s )).toInt64)) a1 a2 (1 : Int32))) else (K.2.2.2.2.2.1 s a1 a2 a3)))
set_option maxRecDepth 1000000 in
def uX12_next_177 (K : (SM → Prop) × (SM → Prop) × (SM → Int32 → Prop) × (SM → Int32 → Int32 → Int32 → Prop) × (SM → Int32 → Int32 → Int32 → Prop) × (SM → Int32 → Int32 → Int32 → Prop) × (SM → Int32 → Int32 → Int32 → Prop)) (s : SM) (a1 : Int32) (a2 : Int32) (a3 : Int32) : Prop := ((a3 = 0 → K.2.2.2.2.2.1 s a1 a2 a3) ∧ (¬ a3 = 0 → rX12_peek s  ∧ ((¬ (vX12_isSmall s (vX12_peek s )) = a2 → K.2.2.2.2.2.1 s a1 a2 a3) ∧ ((vX12_isSmall s (vX12_peek s )) = a2 → (((7 : Int32) ≤ (gI s 248 13) → K.2.2.2.2.2.2 s a1 a2 (1 : Int32)) ∧ (¬ (7 : Int32) ≤ (gI s 248 13) → rX12_peek s  ∧ K.2.2.2.2.2.2 (pL s 248 17 (((gL s 248 17) <<< (((8 : Int32)).toInt64 &&& 63)) ||| ((vX12_peek s )).toInt64)) a1 a2 (1 : Int32)))))))
set_option maxRecDepth 1000000 in
noncomputable def tX12_next_196 (K : (SM → SM) × (SM → SM) × (SM → Int32 → SM) × (SM → Int32 → Int32 → Int32 → SM) × (SM → Int32 → Int32 → Int32 → SM) × (SM → Int32 → Int32 → Int32 → SM) × (SM → Int32 → Int32 → Int32 → SM)) (s : SM) (a1 : Int32) (a2 : Int32) (a3 : Int32) : SM := (if (7 : Int32) ≤ (gI s 248 13) then (K.2.2.2.2.2.2 s a1 a2 (0 : Int32)) else (K.2.2.2.2.2.2 (pL s 248 17 (((gL s 248 17) <<< (((8 : Int32)).toInt64 &&& 63)) ||| ((vX12_peek s )).toInt64)) a1 a2 (0 : Int32)))
set_option maxRecDepth 1000000 in
def uX12_next_196 (K : (SM → Prop) × (SM → Prop) × (SM → Int32 → Prop) × (SM → Int32 → Int32 → Int32 → Prop) × (SM → Int32 → Int32 → Int32 → Prop) × (SM → Int32 → Int32 → Int32 → Prop) × (SM → Int32 → Int32 → Int32 → Prop)) (s : SM) (a1 : Int32) (a2 : Int32) (a3 : Int32) : Prop := (((7 : Int32) ≤ (gI s 248 13) → K.2.2.2.2.2.2 s a1 a2 (0 : Int32)) ∧ (¬ (7 : Int32) ≤ (gI s 248 13) → rX12_peek s  ∧ K.2.2.2.2.2.2 (pL s 248 17 (((gL s 248 17) <<< (((8 : Int32)).toInt64 &&& 63)) ||| ((vX12_peek s )).toInt64)) a1 a2 (0 : Int32)))
set_option maxRecDepth 1000000 in
noncomputable def tX12_next_224 (K : (SM → SM) × (SM → SM) × (SM → Int32 → SM) × (SM → Int32 → Int32 → Int32 → SM) × (SM → Int32 → Int32 → Int32 → SM) × (SM → Int32 → Int32 → Int32 → SM) × (SM → Int32 → Int32 → Int32 → SM)) (s : SM) (a1 : Int32) (a2 : Int32) (a3 : Int32) : SM := (if (2 : Int32) ≤ (gI s 248 13) then ((fun (s1 : SM) => (K.2.2.2.1 s1 a1 a2 a3)) (pI (pI s 248 13 ((gI s 248 13) + (1 : Int32))) 248 4 ((gI (pI s 248 13 ((gI s 248 13) + (1 : Int32))) 248 4) + (1 : Int32)))) else ((fun (s2 : SM) => (K.2.2.2.1 (pI s2 248 4 ((gI s2 248 4) + (1 : Int32))) a1 a2 a3)) (pI (pI s 248 14 ((((10 : Int32) * (gI s 248 14)) + (vX12_peek s )) - (48 : Int32))) 248 13 ((gI (pI s 248 14 ((((10 : Int32) * (gI s 248 14)) + (vX12_peek s )) - (48 : Int32))) 248 13) + (1 : Int32)))))
set_option maxRecDepth 1000000 in
def uX12_next_224 (K : (SM → Prop) × (SM → Prop) × (SM → Int32 → Prop) × (SM → Int32 → Int32 → Int32 → Prop) × (SM → Int32 → Int32 → Int32 → Prop) × (SM → Int32 → Int32 → Int32 → Prop) × (SM → Int32 → Int32 → Int32 → Prop)) (s : SM) (a1 : Int32) (a2 : Int32) (a3 : Int32) : Prop := (((2 : Int32) ≤ (gI s 248 13) → (∀ s1, s1 = (pI (pI s 248 13 ((gI s 248 13) + (1 : Int32))) 248 4 ((gI (pI s 248 13 ((gI s 248 13) + (1 : Int32))) 248 4) + (1 : Int32))) → K.2.2.2.1 s1 a1 a2 a3)) ∧ (¬ (2 : Int32) ≤ (gI s 248 13) → rX12_peek s  ∧ (∀ s2, s2 = (pI (pI s 248 14 ((((10 : Int32) * (gI s 248 14)) + (vX12_peek s )) - (48 : Int32))) 248 13 ((gI (pI s 248 14 ((((10 : Int32) * (gI s 248 14)) + (vX12_peek s )) - (48 : Int32))) 248 13) + (1 : Int32))) → K.2.2.2.1 (pI s2 248 4 ((gI s2 248 4) + (1 : Int32))) a1 a2 a3)))
set_option maxRecDepth 1000000 in
noncomputable def lX12_next : Nat → (SM → SM) × (SM → SM) × (SM → Int32 → SM) × (SM → Int32 → Int32 → Int32 → SM) × (SM → Int32 → Int32 → Int32 → SM) × (SM → Int32 → Int32 → Int32 → SM) × (SM → Int32 → Int32 → Int32 → SM)
  | 0 => (fun (s : SM)  => s, fun (s : SM)  => s, fun (s : SM) (a1 : Int32) => s, fun (s : SM) (a1 : Int32) (a2 : Int32) (a3 : Int32) => s, fun (s : SM) (a1 : Int32) (a2 : Int32) (a3 : Int32) => s, fun (s : SM) (a1 : Int32) (a2 : Int32) (a3 : Int32) => s, fun (s : SM) (a1 : Int32) (a2 : Int32) (a3 : Int32) => s)
  | n + 1 => (tX12_next_0 (lX12_next n), tX12_next_80 (lX12_next n), tX12_next_140 (lX12_next n), tX12_next_157 (lX12_next n), tX12_next_177 (lX12_next n), tX12_next_196 (lX12_next n), tX12_next_224 (lX12_next n))
set_option maxRecDepth 1000000 in
def qX12_next : Nat → (SM → Prop) × (SM → Prop) × (SM → Int32 → Prop) × (SM → Int32 → Int32 → Int32 → Prop) × (SM → Int32 → Int32 → Int32 → Prop) × (SM → Int32 → Int32 → Int32 → Prop) × (SM → Int32 → Int32 → Int32 → Prop)
  | 0 => (fun (s : SM)  => False, fun (s : SM)  => False, fun (s : SM) (a1 : Int32) => False, fun (s : SM) (a1 : Int32) (a2 : Int32) (a3 : Int32) => False, fun (s : SM) (a1 : Int32) (a2 : Int32) (a3 : Int32) => False, fun (s : SM) (a1 : Int32) (a2 : Int32) (a3 : Int32) => False, fun (s : SM) (a1 : Int32) (a2 : Int32) (a3 : Int32) => False)
  | n + 1 => (uX12_next_0 (qX12_next n), uX12_next_80 (qX12_next n), uX12_next_140 (qX12_next n), uX12_next_157 (qX12_next n), uX12_next_177 (qX12_next n), uX12_next_196 (qX12_next n), uX12_next_224 (qX12_next n))
set_option maxRecDepth 1000000 in
noncomputable def fX12_next (s : SM)  : SM := ((lX12_next FU).1 s )
set_option maxRecDepth 1000000 in
noncomputable def mX12_next (s : SM)  : SM := fX12_next s 
set_option maxRecDepth 1000000 in
def rX12_next (s : SM)  : Prop := (qX12_next FU).1 s 
set_option maxRecDepth 1000000 in
noncomputable def vX12_packed (s : SM) (a1 : Int32) : Int32 := (if (vX12_isIn (pI s 248 0 (0 : Int32)) a1 (0 : Int32) ((gI (pI s 248 0 (0 : Int32)) 248 46) - (1 : Int32))) = 0 then (-1 : Int32) else (if (4 : Int32) ≤ (gI (pI s 248 0 (0 : Int32)) 268 (a1).toNatClampNeg) then (-1 : Int32) else (gI (pI s 248 0 (0 : Int32)) 268 (a1).toNatClampNeg)))
set_option maxRecDepth 1000000 in
noncomputable def mX12_packed (s : SM) (a1 : Int32) : SM := (pI s 248 0 (0 : Int32))
set_option maxRecDepth 1000000 in
def rX12_packed (s : SM) (a1 : Int32) : Prop := (¬ (vX12_isIn (pI s 248 0 (0 : Int32)) a1 (0 : Int32) ((gI (pI s 248 0 (0 : Int32)) 248 46) - (1 : Int32))) = 0 → vp_in a1 6 ∧ (¬ (4 : Int32) ≤ (gI (pI s 248 0 (0 : Int32)) 268 (a1).toNatClampNeg) → vp_in a1 6))
set_option maxRecDepth 1000000 in
noncomputable def tX12_putName_3 (K : (SM → Int64 → Int32 → SM)) (s : SM) (b1 : Int64) (a3 : Int32) : SM := (if a3 < 0 then s else (if (lg_cmp ((b1 >>> ((a3).toInt64 &&& 63)) &&& (255 : Int64)) (0 : Int64)) = 0 then (K s b1 (a3 + (-8))) else (K (mX12_put s (((b1 >>> ((a3).toInt64 &&& 63)) &&& (255 : Int64))).toInt32) b1 (a3 + (-8)))))
set_option maxRecDepth 1000000 in
def uX12_putName_3 (K : (SM → Int64 → Int32 → Prop)) (s : SM) (b1 : Int64) (a3 : Int32) : Prop := (¬ a3 < 0 → (((lg_cmp ((b1 >>> ((a3).toInt64 &&& 63)) &&& (255 : Int64)) (0 : Int64)) = 0 → K s b1 (a3 + (-8))) ∧ (¬ (lg_cmp ((b1 >>> ((a3).toInt64 &&& 63)) &&& (255 : Int64)) (0 : Int64)) = 0 → rX12_put s (((b1 >>> ((a3).toInt64 &&& 63)) &&& (255 : Int64))).toInt32 ∧ K (mX12_put s (((b1 >>> ((a3).toInt64 &&& 63)) &&& (255 : Int64))).toInt32) b1 (a3 + (-8)))))
set_option maxRecDepth 1000000 in
noncomputable def lX12_putName : Nat → (SM → Int64 → Int32 → SM)
  | 0 => fun (s : SM) (b1 : Int64) (a3 : Int32) => s
  | n + 1 => tX12_putName_3 (lX12_putName n)
set_option maxRecDepth 1000000 in
def qX12_putName : Nat → (SM → Int64 → Int32 → Prop)
  | 0 => fun (s : SM) (b1 : Int64) (a3 : Int32) => False
  | n + 1 => uX12_putName_3 (qX12_putName n)
set_option maxRecDepth 1000000 in
noncomputable def fX12_putName (s : SM) (b1 : Int64) : SM := ((lX12_putName FU) s b1 (48 : Int32))
set_option maxRecDepth 1000000 in
noncomputable def mX12_putName (s : SM) (b1 : Int64) : SM := fX12_putName s b1
set_option maxRecDepth 1000000 in
def rX12_putName (s : SM) (b1 : Int64) : Prop := (qX12_putName FU) s b1 (48 : Int32)
set_option maxRecDepth 1000000 in
noncomputable def tX12_putNumber_17 (K : (SM → Int32 → SM)) (s : SM) (a1 : Int32) : SM := (mX12_put s ((48 : Int32) + (a1 - a1 / (10 : Int32) * (10 : Int32))))
set_option maxRecDepth 1000000 in
def uX12_putNumber_17 (K : (SM → Int32 → Prop)) (s : SM) (a1 : Int32) : Prop := rX12_put s ((48 : Int32) + (a1 - a1 / (10 : Int32) * (10 : Int32)))
set_option maxRecDepth 1000000 in
noncomputable def lX12_putNumber : Nat → (SM → Int32 → SM)
  | 0 => fun (s : SM) (a1 : Int32) => s
  | n + 1 => tX12_putNumber_17 (lX12_putNumber n)
set_option maxRecDepth 1000000 in
def qX12_putNumber : Nat → (SM → Int32 → Prop)
  | 0 => fun (s : SM) (a1 : Int32) => False
  | n + 1 => uX12_putNumber_17 (qX12_putNumber n)
set_option maxRecDepth 1000000 in
noncomputable def fX12_putNumber (s : SM) (a1 : Int32) : SM := (if a1 < (10 : Int32) then ((lX12_putNumber FU) s a1) else ((lX12_putNumber FU) (mX12_put s ((48 : Int32) + (a1 / (10 : Int32)))) a1))
set_option maxRecDepth 1000000 in
noncomputable def mX12_putNumber (s : SM) (a1 : Int32) : SM := fX12_putNumber s a1
set_option maxRecDepth 1000000 in
def rX12_putNumber (s : SM) (a1 : Int32) : Prop := ((a1 < (10 : Int32) → (qX12_putNumber FU) s a1) ∧ (¬ a1 < (10 : Int32) → rX12_put s ((48 : Int32) + (a1 / (10 : Int32))) ∧ (qX12_putNumber FU) (mX12_put s ((48 : Int32) + (a1 / (10 : Int32)))) a1))
set_option maxRecDepth 1000000 in
noncomputable def tX12_restore_27 (K : (SM → Int32 → Int32 → Int32 × SM) × (SM → Int32 → Int32 → Int32 × SM)) (s : SM) (a1 : Int32) (a2 : Int32) : Int32 × SM := (if (787 : Int32) ≤ a2 then (K.2 (pI s 248 22 (gI s 275 ((((788 : Int32) * a1) + (787 : Int32))).toNatClampNeg)) a1 (0 : Int32)) else (K.1 (pI s 250 (a2).toNatClampNeg (gI s 275 ((((788 : Int32) * a1) + a2)).toNatClampNeg)) a1 (a2 + 1)))
set_option maxRecDepth 1000000 in
def uX12_restore_27 (K : (SM → Int32 → Int32 → Prop) × (SM → Int32 → Int32 → Prop)) (s : SM) (a1 : Int32) (a2 : Int32) : Prop := (((787 : Int32) ≤ a2 → vp_in (((788 : Int32) * a1) + (787 : Int32)) 1576 ∧ K.2 (pI s 248 22 (gI s 275 ((((788 : Int32) * a1) + (787 : Int32))).toNatClampNeg)) a1 (0 : Int32)) ∧ (¬ (787 : Int32) ≤ a2 → vp_in (((788 : Int32) * a1) + a2) 1576 ∧ vp_in a2 787 ∧ K.1 (pI s 250 (a2).toNatClampNeg (gI s 275 ((((788 : Int32) * a1) + a2)).toNatClampNeg)) a1 (a2 + 1)))
set_option maxRecDepth 1000000 in
noncomputable def tX12_restore_78 (K : (SM → Int32 → Int32 → Int32 × SM) × (SM → Int32 → Int32 → Int32 × SM)) (s : SM) (a1 : Int32) (a2 : Int32) : Int32 × SM := (if (15 : Int32) ≤ a2 then ((1 : Int32), (pI s 248 25 (0 : Int32))) else (K.2 (pL s 253 (a2).toNatClampNeg (gL s 276 ((((15 : Int32) * a1) + a2)).toNatClampNeg)) a1 (a2 + 1)))
set_option maxRecDepth 1000000 in
def uX12_restore_78 (K : (SM → Int32 → Int32 → Prop) × (SM → Int32 → Int32 → Prop)) (s : SM) (a1 : Int32) (a2 : Int32) : Prop := (¬ (15 : Int32) ≤ a2 → vp_in (((15 : Int32) * a1) + a2) 30 ∧ vp_in a2 30 ∧ K.2 (pL s 253 (a2).toNatClampNeg (gL s 276 ((((15 : Int32) * a1) + a2)).toNatClampNeg)) a1 (a2 + 1))
set_option maxRecDepth 1000000 in
noncomputable def lX12_restore : Nat → (SM → Int32 → Int32 → Int32 × SM) × (SM → Int32 → Int32 → Int32 × SM)
  | 0 => (fun (s : SM) (a1 : Int32) (a2 : Int32) => (0, s), fun (s : SM) (a1 : Int32) (a2 : Int32) => (0, s))
  | n + 1 => (tX12_restore_27 (lX12_restore n), tX12_restore_78 (lX12_restore n))
set_option maxRecDepth 1000000 in
def qX12_restore : Nat → (SM → Int32 → Int32 → Prop) × (SM → Int32 → Int32 → Prop)
  | 0 => (fun (s : SM) (a1 : Int32) (a2 : Int32) => False, fun (s : SM) (a1 : Int32) (a2 : Int32) => False)
  | n + 1 => (uX12_restore_27 (qX12_restore n), uX12_restore_78 (qX12_restore n))
set_option maxRecDepth 1000000 in
noncomputable def fX12_restore (s : SM) (a1 : Int32) : Int32 × SM := (if (vX12_isIn (pI s 248 0 (0 : Int32)) a1 (0 : Int32) (1 : Int32)) = 0 then ((0 : Int32), (pI s 248 0 (0 : Int32))) else (if (gI (pI s 248 0 (0 : Int32)) 277 (a1).toNatClampNeg) = 0 then ((0 : Int32), (pI s 248 0 (0 : Int32))) else ((lX12_restore FU).1 (pI s 248 0 (0 : Int32)) a1 (0 : Int32))))
set_option maxRecDepth 1000000 in
noncomputable def vX12_restore (s : SM) (a1 : Int32) : Int32 := fX12_restore s a1 |>.1
set_option maxRecDepth 1000000 in
noncomputable def mX12_restore (s : SM) (a1 : Int32) : SM := fX12_restore s a1 |>.2
set_option maxRecDepth 1000000 in
def rX12_restore (s : SM) (a1 : Int32) : Prop := (¬ (vX12_isIn (pI s 248 0 (0 : Int32)) a1 (0 : Int32) (1 : Int32)) = 0 → vp_in a1 2 ∧ (¬ (gI (pI s 248 0 (0 : Int32)) 277 (a1).toNatClampNeg) = 0 → (qX12_restore FU).1 (pI s 248 0 (0 : Int32)) a1 (0 : Int32)))
set_option maxRecDepth 1000000 in
noncomputable def vX12_ringAt (s : SM) (a1 : Int32) : Int32 := (if (vX12_isIn (pI s 248 0 (0 : Int32)) a1 (0 : Int32) ((gI (pI s 248 0 (0 : Int32)) 248 30) - (1 : Int32))) = 0 then (-1 : Int32) else (gI (pI s 248 0 (0 : Int32)) 258 (a1).toNatClampNeg))
set_option maxRecDepth 1000000 in
noncomputable def mX12_ringAt (s : SM) (a1 : Int32) : SM := (pI s 248 0 (0 : Int32))
set_option maxRecDepth 1000000 in
def rX12_ringAt (s : SM) (a1 : Int32) : Prop := (¬ (vX12_isIn (pI s 248 0 (0 : Int32)) a1 (0 : Int32) ((gI (pI s 248 0 (0 : Int32)) 248 30) - (1 : Int32))) = 0 → vp_in a1 5)
set_option maxRecDepth 1000000 in
noncomputable def vX12_sizeOf (s : SM) (a1 : Int32) : Int32 := (gI s 250 (((22 : Int32) + (vX12_of s a1 (3 : Int32)))).toNatClampNeg)
set_option maxRecDepth 1000000 in
def rX12_sizeOf (s : SM) (a1 : Int32) : Prop := rX12_of s a1 (3 : Int32) ∧ vp_in ((22 : Int32) + (vX12_of s a1 (3 : Int32))) 787
set_option maxRecDepth 1000000 in
noncomputable def vX12_sortOf (s : SM) (a1 : Int32) : Int32 := (gI s 250 (((28 : Int32) + (vX12_of s a1 (3 : Int32)))).toNatClampNeg)
set_option maxRecDepth 1000000 in
def rX12_sortOf (s : SM) (a1 : Int32) : Prop := rX12_of s a1 (3 : Int32) ∧ vp_in ((28 : Int32) + (vX12_of s a1 (3 : Int32))) 787
set_option maxRecDepth 1000000 in
noncomputable def vX12_year (s : SM)  : Int32 := (if (gI (pI s 248 0 (0 : Int32)) 250 ((35 : Int32)).toNatClampNeg) = (99 : Int32) then (-1 : Int32) else ((fun (s1 : SM) => (gI s1 250 ((35 : Int32)).toNatClampNeg)) (pI (mX12_keep (pI s 248 0 (0 : Int32)) ) 250 ((35 : Int32)).toNatClampNeg ((gI (mX12_keep (pI s 248 0 (0 : Int32)) ) 250 ((35 : Int32)).toNatClampNeg) + (1 : Int32)))))
set_option maxRecDepth 1000000 in
noncomputable def mX12_year (s : SM)  : SM := (if (gI (pI s 248 0 (0 : Int32)) 250 ((35 : Int32)).toNatClampNeg) = (99 : Int32) then (pI s 248 0 (0 : Int32)) else ((fun (s1 : SM) => s1) (pI (mX12_keep (pI s 248 0 (0 : Int32)) ) 250 ((35 : Int32)).toNatClampNeg ((gI (mX12_keep (pI s 248 0 (0 : Int32)) ) 250 ((35 : Int32)).toNatClampNeg) + (1 : Int32)))))
set_option maxRecDepth 1000000 in
def rX12_year (s : SM)  : Prop := (¬ (gI (pI s 248 0 (0 : Int32)) 250 ((35 : Int32)).toNatClampNeg) = (99 : Int32) → rX12_keep (pI s 248 0 (0 : Int32)) )
set_option maxRecDepth 1000000 in
noncomputable def tX1_noteWay_2 (K : (SM → Int32 → SM)) (s : SM) (a1 : Int32) : SM := (if (gI s 233 6) ≤ a1 then (pI s 233 9 ((gI s 233 9) + (1 : Int32))) else (if (gI s 233 9) = 0 then (if (gI (pI s 236 (a1).toNatClampNeg (gI s 235 (a1).toNatClampNeg)) 233 9) = 0 then ((fun (s20 : SM) => (K s20 (a1 + 1))) (pI (pI s 236 (a1).toNatClampNeg (gI s 235 (a1).toNatClampNeg)) 237 (a1).toNatClampNeg (gI (pI s 236 (a1).toNatClampNeg (gI s 235 (a1).toNatClampNeg)) 235 (a1).toNatClampNeg))) else ((fun (s17 : SM) => (K s17 (a1 + 1))) (pI (pI s 236 (a1).toNatClampNeg (gI s 235 (a1).toNatClampNeg)) 237 (a1).toNatClampNeg (if (gI (pI s 236 (a1).toNatClampNeg (gI s 235 (a1).toNatClampNeg)) 237 (a1).toNatClampNeg) < (gI (pI s 236 (a1).toNatClampNeg (gI s 235 (a1).toNatClampNeg)) 235 (a1).toNatClampNeg) then (gI (pI s 236 (a1).toNatClampNeg (gI s 235 (a1).toNatClampNeg)) 235 (a1).toNatClampNeg) else (gI (pI s 236 (a1).toNatClampNeg (gI s 235 (a1).toNatClampNeg)) 237 (a1).toNatClampNeg))))) else ((fun (s4 : SM) => (if (gI s4 233 9) = 0 then (K (pI s4 237 (a1).toNatClampNeg (gI s4 235 (a1).toNatClampNeg)) (a1 + 1)) else ((fun (s8 : SM) => (K s8 (a1 + 1))) (pI s4 237 (a1).toNatClampNeg (if (gI s4 237 (a1).toNatClampNeg) < (gI s4 235 (a1).toNatClampNeg) then (gI s4 235 (a1).toNatClampNeg) else (gI s4 237 (a1).toNatClampNeg)))))) (pI s 236 (a1).toNatClampNeg (if (gI s 235 (a1).toNatClampNeg) < (gI s 236 (a1).toNatClampNeg) then (gI s 235 (a1).toNatClampNeg) else (gI s 236 (a1).toNatClampNeg))))))
set_option maxRecDepth 1000000 in
def uX1_noteWay_2 (K : (SM → Int32 → Prop)) (s : SM) (a1 : Int32) : Prop := (¬ (gI s 233 6) ≤ a1 → ((¬ (gI s 233 9) = 0 → vp_in a1 4 ∧ vp_in a1 4 ∧ vp_in a1 4 ∧ (∀ s4, s4 = (pI s 236 (a1).toNatClampNeg (if (gI s 235 (a1).toNatClampNeg) < (gI s 236 (a1).toNatClampNeg) then (gI s 235 (a1).toNatClampNeg) else (gI s 236 (a1).toNatClampNeg))) → ((¬ (gI s4 233 9) = 0 → vp_in a1 4 ∧ vp_in a1 4 ∧ vp_in a1 4 ∧ (∀ s8, s8 = (pI s4 237 (a1).toNatClampNeg (if (gI s4 237 (a1).toNatClampNeg) < (gI s4 235 (a1).toNatClampNeg) then (gI s4 235 (a1).toNatClampNeg) else (gI s4 237 (a1).toNatClampNeg))) → K s8 (a1 + 1))) ∧ ((gI s4 233 9) = 0 → vp_in a1 4 ∧ vp_in a1 4 ∧ K (pI s4 237 (a1).toNatClampNeg (gI s4 235 (a1).toNatClampNeg)) (a1 + 1))))) ∧ ((gI s 233 9) = 0 → vp_in a1 4 ∧ vp_in a1 4 ∧ ((¬ (gI (pI s 236 (a1).toNatClampNeg (gI s 235 (a1).toNatClampNeg)) 233 9) = 0 → vp_in a1 4 ∧ vp_in a1 4 ∧ vp_in a1 4 ∧ (∀ s17, s17 = (pI (pI s 236 (a1).toNatClampNeg (gI s 235 (a1).toNatClampNeg)) 237 (a1).toNatClampNeg (if (gI (pI s 236 (a1).toNatClampNeg (gI s 235 (a1).toNatClampNeg)) 237 (a1).toNatClampNeg) < (gI (pI s 236 (a1).toNatClampNeg (gI s 235 (a1).toNatClampNeg)) 235 (a1).toNatClampNeg) then (gI (pI s 236 (a1).toNatClampNeg (gI s 235 (a1).toNatClampNeg)) 235 (a1).toNatClampNeg) else (gI (pI s 236 (a1).toNatClampNeg (gI s 235 (a1).toNatClampNeg)) 237 (a1).toNatClampNeg))) → K s17 (a1 + 1))) ∧ ((gI (pI s 236 (a1).toNatClampNeg (gI s 235 (a1).toNatClampNeg)) 233 9) = 0 → vp_in a1 4 ∧ vp_in a1 4 ∧ (∀ s20, s20 = (pI (pI s 236 (a1).toNatClampNeg (gI s 235 (a1).toNatClampNeg)) 237 (a1).toNatClampNeg (gI (pI s 236 (a1).toNatClampNeg (gI s 235 (a1).toNatClampNeg)) 235 (a1).toNatClampNeg)) → K s20 (a1 + 1)))))))
set_option maxRecDepth 1000000 in
noncomputable def lX1_noteWay : Nat → (SM → Int32 → SM)
  | 0 => fun (s : SM) (a1 : Int32) => s
  | n + 1 => tX1_noteWay_2 (lX1_noteWay n)
set_option maxRecDepth 1000000 in
def qX1_noteWay : Nat → (SM → Int32 → Prop)
  | 0 => fun (s : SM) (a1 : Int32) => False
  | n + 1 => uX1_noteWay_2 (qX1_noteWay n)
set_option maxRecDepth 1000000 in
noncomputable def fX1_noteWay (s : SM)  : SM := ((lX1_noteWay FU) s (0 : Int32))
set_option maxRecDepth 1000000 in
noncomputable def mX1_noteWay (s : SM)  : SM := fX1_noteWay s 
set_option maxRecDepth 1000000 in
def rX1_noteWay (s : SM)  : Prop := (qX1_noteWay FU) s (0 : Int32)
set_option maxRecDepth 1000000 in
noncomputable def mX2_keepNoted (s : SM)  : SM := ((fun (s1 : SM) => s1) (pI (pI s 55 1 (((gI s 55 1) + (1 : Int32)) - ((gI s 55 1) + (1 : Int32)) / (9 : Int32) * (9 : Int32))) 55 2 (if (8 : Int32) < ((gI (pI s 55 1 (((gI s 55 1) + (1 : Int32)) - ((gI s 55 1) + (1 : Int32)) / (9 : Int32) * (9 : Int32))) 55 2) + (1 : Int32)) then (8 : Int32) else ((gI (pI s 55 1 (((gI s 55 1) + (1 : Int32)) - ((gI s 55 1) + (1 : Int32)) / (9 : Int32) * (9 : Int32))) 55 2) + (1 : Int32)))))
set_option maxRecDepth 1000000 in
noncomputable def vX4_bearerFor (s : SM) (L0 P0 : Nat) (a1 : Int32) (a2 : Int32) : Int32 := (if (gI s (L0 + 7) (a1).toNatClampNeg) < a2 then (if (gI s (P0 + 3) (a1).toNatClampNeg) = (-1 : Int32) then (-1 : Int32) else (if (vX4_lives s L0 P0 (gI s (P0 + 3) (a1).toNatClampNeg)) = 0 then (-1 : Int32) else (if (gI s (L0 + 7) ((gI s (P0 + 3) (a1).toNatClampNeg)).toNatClampNeg) < a2 then (-1 : Int32) else (gI s (P0 + 3) (a1).toNatClampNeg)))) else a1)
set_option maxRecDepth 1000000 in
def rX4_bearerFor (s : SM) (L0 P0 : Nat) (a1 : Int32) (a2 : Int32) : Prop := vp_in a1 9 ∧ ((gI s (L0 + 7) (a1).toNatClampNeg) < a2 → vp_in a1 9 ∧ (¬ (gI s (P0 + 3) (a1).toNatClampNeg) = (-1 : Int32) → (¬ (vX4_lives s L0 P0 (gI s (P0 + 3) (a1).toNatClampNeg)) = 0 → vp_in (gI s (P0 + 3) (a1).toNatClampNeg) 9)))
set_option maxRecDepth 1000000 in
noncomputable def mX4_copyFrom (s : SM) (L0 P0 : Nat) (L1 P1 : Nat) : SM := (if (gI s L1 9) < 0 then s else (if (gI s L1 9) ≤ (60 : Int32) then ((fun (s1 : SM) => ((fun (s2 : SM) => ((fun (s3 : SM) => ((fun (s4 : SM) => ((fun (s5 : SM) => ((fun (s6 : SM) => ((fun (s7 : SM) => ((fun (s8 : SM) => ((fun (s9 : SM) => ((fun (s10 : SM) => ((fun (s11 : SM) => ((fun (s12 : SM) => s12) (pI (pI (pI s11 L0 9 (gI s L1 9)) L0 10 (gI (pI s11 L0 9 (gI s L1 9)) L1 10)) L0 14 (gI (pI (pI s11 L0 9 (gI s L1 9)) L0 10 (gI (pI s11 L0 9 (gI s L1 9)) L1 10)) L1 14)))) (cI s10 (L0 + 8) (va_cpy (gI s10 (L1 + 8)) (gI s10 (L0 + 8)) ((0 : Int32)).toNatClampNeg ((0 : Int32)).toNatClampNeg ((9 : Int32)).toNatClampNeg)))) (cI s9 (L0 + 7) (va_cpy (gI s9 (L1 + 7)) (gI s9 (L0 + 7)) ((0 : Int32)).toNatClampNeg ((0 : Int32)).toNatClampNeg ((9 : Int32)).toNatClampNeg)))) (cI s8 (L0 + 11) (va_cpy (gI s8 (L1 + 11)) (gI s8 (L0 + 11)) ((0 : Int32)).toNatClampNeg ((0 : Int32)).toNatClampNeg ((gI s L1 9)).toNatClampNeg)))) (cI s7 (L0 + 10) (va_cpy (gI s7 (L1 + 10)) (gI s7 (L0 + 10)) ((0 : Int32)).toNatClampNeg ((0 : Int32)).toNatClampNeg ((gI s L1 9)).toNatClampNeg)))) (cI s6 (L0 + 9) (va_cpy (gI s6 (L1 + 9)) (gI s6 (L0 + 9)) ((0 : Int32)).toNatClampNeg ((0 : Int32)).toNatClampNeg ((gI s L1 9)).toNatClampNeg)))) (cI s5 (L0 + 6) (va_cpy (gI s5 (L1 + 6)) (gI s5 (L0 + 6)) ((0 : Int32)).toNatClampNeg ((0 : Int32)).toNatClampNeg ((gI s L1 9)).toNatClampNeg)))) (cI s4 (L0 + 5) (va_cpy (gI s4 (L1 + 5)) (gI s4 (L0 + 5)) ((0 : Int32)).toNatClampNeg ((0 : Int32)).toNatClampNeg ((gI s L1 9)).toNatClampNeg)))) (cI s3 (L0 + 4) (va_cpy (gI s3 (L1 + 4)) (gI s3 (L0 + 4)) ((0 : Int32)).toNatClampNeg ((0 : Int32)).toNatClampNeg ((gI s L1 9)).toNatClampNeg)))) (cI s2 (L0 + 3) (va_cpy (gI s2 (L1 + 3)) (gI s2 (L0 + 3)) ((0 : Int32)).toNatClampNeg ((0 : Int32)).toNatClampNeg ((gI s L1 9)).toNatClampNeg)))) (cI s1 (L0 + 2) (va_cpy (gI s1 (L1 + 2)) (gI s1 (L0 + 2)) ((0 : Int32)).toNatClampNeg ((0 : Int32)).toNatClampNeg ((gI s L1 9)).toNatClampNeg)))) (cI s (L0 + 1) (va_cpy (gI s (L1 + 1)) (gI s (L0 + 1)) ((0 : Int32)).toNatClampNeg ((0 : Int32)).toNatClampNeg ((gI s L1 9)).toNatClampNeg))) else s))
set_option maxRecDepth 1000000 in
def rX4_copyFrom (s : SM) (L0 P0 : Nat) (L1 P1 : Nat) : Prop := (¬ (gI s L1 9) < 0 → ((gI s L1 9) ≤ (60 : Int32) → (¬ (gI s L1 9) < 0 ∧ 0 + ((gI s L1 9)).toNatClampNeg ≤ 60) ∧ (∀ s1, s1 = (cI s (L0 + 1) (va_cpy (gI s (L1 + 1)) (gI s (L0 + 1)) ((0 : Int32)).toNatClampNeg ((0 : Int32)).toNatClampNeg ((gI s L1 9)).toNatClampNeg)) → (¬ (gI s L1 9) < 0 ∧ 0 + ((gI s L1 9)).toNatClampNeg ≤ 60) ∧ (∀ s2, s2 = (cI s1 (L0 + 2) (va_cpy (gI s1 (L1 + 2)) (gI s1 (L0 + 2)) ((0 : Int32)).toNatClampNeg ((0 : Int32)).toNatClampNeg ((gI s L1 9)).toNatClampNeg)) → (¬ (gI s L1 9) < 0 ∧ 0 + ((gI s L1 9)).toNatClampNeg ≤ 60) ∧ (∀ s3, s3 = (cI s2 (L0 + 3) (va_cpy (gI s2 (L1 + 3)) (gI s2 (L0 + 3)) ((0 : Int32)).toNatClampNeg ((0 : Int32)).toNatClampNeg ((gI s L1 9)).toNatClampNeg)) → (¬ (gI s L1 9) < 0 ∧ 0 + ((gI s L1 9)).toNatClampNeg ≤ 60) ∧ (∀ s4, s4 = (cI s3 (L0 + 4) (va_cpy (gI s3 (L1 + 4)) (gI s3 (L0 + 4)) ((0 : Int32)).toNatClampNeg ((0 : Int32)).toNatClampNeg ((gI s L1 9)).toNatClampNeg)) → (¬ (gI s L1 9) < 0 ∧ 0 + ((gI s L1 9)).toNatClampNeg ≤ 60) ∧ (∀ s5, s5 = (cI s4 (L0 + 5) (va_cpy (gI s4 (L1 + 5)) (gI s4 (L0 + 5)) ((0 : Int32)).toNatClampNeg ((0 : Int32)).toNatClampNeg ((gI s L1 9)).toNatClampNeg)) → (¬ (gI s L1 9) < 0 ∧ 0 + ((gI s L1 9)).toNatClampNeg ≤ 60) ∧ (∀ s6, s6 = (cI s5 (L0 + 6) (va_cpy (gI s5 (L1 + 6)) (gI s5 (L0 + 6)) ((0 : Int32)).toNatClampNeg ((0 : Int32)).toNatClampNeg ((gI s L1 9)).toNatClampNeg)) → (¬ (gI s L1 9) < 0 ∧ 0 + ((gI s L1 9)).toNatClampNeg ≤ 60) ∧ (∀ s7, s7 = (cI s6 (L0 + 9) (va_cpy (gI s6 (L1 + 9)) (gI s6 (L0 + 9)) ((0 : Int32)).toNatClampNeg ((0 : Int32)).toNatClampNeg ((gI s L1 9)).toNatClampNeg)) → (¬ (gI s L1 9) < 0 ∧ 0 + ((gI s L1 9)).toNatClampNeg ≤ 60) ∧ (∀ s8, s8 = (cI s7 (L0 + 10) (va_cpy (gI s7 (L1 + 10)) (gI s7 (L0 + 10)) ((0 : Int32)).toNatClampNeg ((0 : Int32)).toNatClampNeg ((gI s L1 9)).toNatClampNeg)) → (¬ (gI s L1 9) < 0 ∧ 0 + ((gI s L1 9)).toNatClampNeg ≤ 60)))))))))))
set_option maxRecDepth 1000000 in
noncomputable def vX4_isBuried (s : SM) (L0 P0 : Nat) (a1 : Int32) : Int32 := (if a1 = (-1 : Int32) then (1 : Int32) else (if (vX4_lives s L0 P0 a1) = 0 then (1 : Int32) else (0 : Int32)))
set_option maxRecDepth 1000000 in
noncomputable def tX4_isOnAny_27 (K : (SM → Nat → Nat → Int32 → Int32 → Int32) × (SM → Nat → Nat → Int32 → Int32 → Int32 → Int32)) (s : SM) (L0 : Nat) (P0 : Nat) (a1 : Int32) (a2 : Int32) : Int32 := (if (gI s (L0 + 10) (a1).toNatClampNeg) = (-1 : Int32) then (K.2 s L0 P0 a1 a2 (0 : Int32)) else (if (vX11_isIn s (gI s (L0 + 10) (a1).toNatClampNeg) a2) = 0 then (K.2 s L0 P0 a1 a2 (0 : Int32)) else (if (0 : Int32) = 0 then (if (1 : Int32) = 0 then (0 : Int32) else (1 : Int32)) else (1 : Int32))))
set_option maxRecDepth 1000000 in
def uX4_isOnAny_27 (K : (SM → Nat → Nat → Int32 → Int32 → Prop) × (SM → Nat → Nat → Int32 → Int32 → Int32 → Prop)) (s : SM) (L0 : Nat) (P0 : Nat) (a1 : Int32) (a2 : Int32) : Prop := vp_in a1 60 ∧ (((gI s (L0 + 10) (a1).toNatClampNeg) = (-1 : Int32) → K.2 s L0 P0 a1 a2 (0 : Int32)) ∧ (¬ (gI s (L0 + 10) (a1).toNatClampNeg) = (-1 : Int32) → vp_in a1 60 ∧ ((vX11_isIn s (gI s (L0 + 10) (a1).toNatClampNeg) a2) = 0 → K.2 s L0 P0 a1 a2 (0 : Int32))))
set_option maxRecDepth 1000000 in
noncomputable def tX4_isOnAny_56 (K : (SM → Nat → Nat → Int32 → Int32 → Int32) × (SM → Nat → Nat → Int32 → Int32 → Int32 → Int32)) (s : SM) (L0 : Nat) (P0 : Nat) (a1 : Int32) (a2 : Int32) (a3 : Int32) : Int32 := (if a3 = 0 then (if (0 : Int32) = 0 then (0 : Int32) else (1 : Int32)) else (1 : Int32))
set_option maxRecDepth 1000000 in
def uX4_isOnAny_56 (K : (SM → Nat → Nat → Int32 → Int32 → Prop) × (SM → Nat → Nat → Int32 → Int32 → Int32 → Prop)) (s : SM) (L0 : Nat) (P0 : Nat) (a1 : Int32) (a2 : Int32) (a3 : Int32) : Prop := True
set_option maxRecDepth 1000000 in
noncomputable def lX4_isOnAny : Nat → (SM → Nat → Nat → Int32 → Int32 → Int32) × (SM → Nat → Nat → Int32 → Int32 → Int32 → Int32)
  | 0 => (fun (s : SM) (L0 : Nat) (P0 : Nat) (a1 : Int32) (a2 : Int32) => 0, fun (s : SM) (L0 : Nat) (P0 : Nat) (a1 : Int32) (a2 : Int32) (a3 : Int32) => 0)
  | n + 1 => (tX4_isOnAny_27 (lX4_isOnAny n), tX4_isOnAny_56 (lX4_isOnAny n))
set_option maxRecDepth 1000000 in
def qX4_isOnAny : Nat → (SM → Nat → Nat → Int32 → Int32 → Prop) × (SM → Nat → Nat → Int32 → Int32 → Int32 → Prop)
  | 0 => (fun (s : SM) (L0 : Nat) (P0 : Nat) (a1 : Int32) (a2 : Int32) => False, fun (s : SM) (L0 : Nat) (P0 : Nat) (a1 : Int32) (a2 : Int32) (a3 : Int32) => False)
  | n + 1 => (uX4_isOnAny_27 (qX4_isOnAny n), uX4_isOnAny_56 (qX4_isOnAny n))
set_option maxRecDepth 1000000 in
noncomputable def fX4_isOnAny (s : SM) (L0 P0 : Nat) (a1 : Int32) (a2 : Int32) : Int32 := (if (gI s (L0 + 9) (a1).toNatClampNeg) = (-1 : Int32) then ((lX4_isOnAny FU).1 s L0 P0 a1 a2) else (if (vX11_isIn s (gI s (L0 + 9) (a1).toNatClampNeg) a2) = 0 then ((lX4_isOnAny FU).1 s L0 P0 a1 a2) else (if (gI s (L0 + 10) (a1).toNatClampNeg) = (-1 : Int32) then ((lX4_isOnAny FU).2 s L0 P0 a1 a2 (1 : Int32)) else (if (vX11_isIn s (gI s (L0 + 10) (a1).toNatClampNeg) a2) = 0 then ((lX4_isOnAny FU).2 s L0 P0 a1 a2 (1 : Int32)) else (if (1 : Int32) = 0 then (if (1 : Int32) = 0 then (0 : Int32) else (1 : Int32)) else (1 : Int32))))))
set_option maxRecDepth 1000000 in
noncomputable def vX4_isOnAny (s : SM) (L0 P0 : Nat) (a1 : Int32) (a2 : Int32) : Int32 := fX4_isOnAny s L0 P0 a1 a2
set_option maxRecDepth 1000000 in
def rX4_isOnAny (s : SM) (L0 P0 : Nat) (a1 : Int32) (a2 : Int32) : Prop := vp_in a1 60 ∧ (((gI s (L0 + 9) (a1).toNatClampNeg) = (-1 : Int32) → (qX4_isOnAny FU).1 s L0 P0 a1 a2) ∧ (¬ (gI s (L0 + 9) (a1).toNatClampNeg) = (-1 : Int32) → vp_in a1 60 ∧ (((vX11_isIn s (gI s (L0 + 9) (a1).toNatClampNeg) a2) = 0 → (qX4_isOnAny FU).1 s L0 P0 a1 a2) ∧ (¬ (vX11_isIn s (gI s (L0 + 9) (a1).toNatClampNeg) a2) = 0 → vp_in a1 60 ∧ (((gI s (L0 + 10) (a1).toNatClampNeg) = (-1 : Int32) → (qX4_isOnAny FU).2 s L0 P0 a1 a2 (1 : Int32)) ∧ (¬ (gI s (L0 + 10) (a1).toNatClampNeg) = (-1 : Int32) → vp_in a1 60 ∧ ((vX11_isIn s (gI s (L0 + 10) (a1).toNatClampNeg) a2) = 0 → (qX4_isOnAny FU).2 s L0 P0 a1 a2 (1 : Int32))))))))
set_option maxRecDepth 1000000 in
noncomputable def vX4_isOpen (s : SM) (L0 P0 : Nat) (a1 : Int32) : Int32 := (if (vX4_hasDeal s L0 P0 a1) = 0 then (0 : Int32) else (if (gI s (L0 + 6) (a1).toNatClampNeg) = 0 then (1 : Int32) else (0 : Int32)))
set_option maxRecDepth 1000000 in
def rX4_isOpen (s : SM) (L0 P0 : Nat) (a1 : Int32) : Prop := (¬ (vX4_hasDeal s L0 P0 a1) = 0 → vp_in a1 60)
set_option maxRecDepth 1000000 in
noncomputable def vX4_isScarred (s : SM) (L0 P0 : Nat) (a1 : Int32) (a2 : Int32) : Int32 := (vX11_isIn s a2 (gI s (L0 + 11) (a1).toNatClampNeg))
set_option maxRecDepth 1000000 in
def rX4_isScarred (s : SM) (L0 P0 : Nat) (a1 : Int32) (a2 : Int32) : Prop := vp_in a1 60
set_option maxRecDepth 1000000 in
noncomputable def tX4_leastLeft_4 (K : (SM → Nat → Nat → Int32 → Int32 → Int32 → Int32)) (s : SM) (L0 : Nat) (P0 : Nat) (a1 : Int32) (a2 : Int32) (a3 : Int32) : Int32 := (if (gI s P0 6) ≤ a3 then a2 else (if (vX4_lives s L0 P0 a3) = 0 then (K s L0 P0 a1 a2 (a3 + 1)) else (if (vX11_isIn s a3 a1) = 0 then (if a2 = (-1 : Int32) then (K s L0 P0 a1 a3 (a3 + 1)) else (if (gI s (L0 + 7) (a2).toNatClampNeg) ≤ (gI s (L0 + 7) (a3).toNatClampNeg) then (K s L0 P0 a1 a2 (a3 + 1)) else (K s L0 P0 a1 a3 (a3 + 1)))) else (K s L0 P0 a1 a2 (a3 + 1)))))
set_option maxRecDepth 1000000 in
def uX4_leastLeft_4 (K : (SM → Nat → Nat → Int32 → Int32 → Int32 → Prop)) (s : SM) (L0 : Nat) (P0 : Nat) (a1 : Int32) (a2 : Int32) (a3 : Int32) : Prop := (¬ (gI s P0 6) ≤ a3 → (((vX4_lives s L0 P0 a3) = 0 → K s L0 P0 a1 a2 (a3 + 1)) ∧ (¬ (vX4_lives s L0 P0 a3) = 0 → ((¬ (vX11_isIn s a3 a1) = 0 → K s L0 P0 a1 a2 (a3 + 1)) ∧ ((vX11_isIn s a3 a1) = 0 → ((a2 = (-1 : Int32) → K s L0 P0 a1 a3 (a3 + 1)) ∧ (¬ a2 = (-1 : Int32) → vp_in a3 9 ∧ vp_in a2 9 ∧ (((gI s (L0 + 7) (a2).toNatClampNeg) ≤ (gI s (L0 + 7) (a3).toNatClampNeg) → K s L0 P0 a1 a2 (a3 + 1)) ∧ (¬ (gI s (L0 + 7) (a2).toNatClampNeg) ≤ (gI s (L0 + 7) (a3).toNatClampNeg) → K s L0 P0 a1 a3 (a3 + 1))))))))))
set_option maxRecDepth 1000000 in
noncomputable def lX4_leastLeft : Nat → (SM → Nat → Nat → Int32 → Int32 → Int32 → Int32)
  | 0 => fun (s : SM) (L0 : Nat) (P0 : Nat) (a1 : Int32) (a2 : Int32) (a3 : Int32) => 0
  | n + 1 => tX4_leastLeft_4 (lX4_leastLeft n)
set_option maxRecDepth 1000000 in
def qX4_leastLeft : Nat → (SM → Nat → Nat → Int32 → Int32 → Int32 → Prop)
  | 0 => fun (s : SM) (L0 : Nat) (P0 : Nat) (a1 : Int32) (a2 : Int32) (a3 : Int32) => False
  | n + 1 => uX4_leastLeft_4 (qX4_leastLeft n)
set_option maxRecDepth 1000000 in
noncomputable def fX4_leastLeft (s : SM) (L0 P0 : Nat) (a1 : Int32) : Int32 := ((lX4_leastLeft FU) s L0 P0 a1 (-1 : Int32) (0 : Int32))
set_option maxRecDepth 1000000 in
noncomputable def vX4_leastLeft (s : SM) (L0 P0 : Nat) (a1 : Int32) : Int32 := fX4_leastLeft s L0 P0 a1
set_option maxRecDepth 1000000 in
def rX4_leastLeft (s : SM) (L0 P0 : Nat) (a1 : Int32) : Prop := (qX4_leastLeft FU) s L0 P0 a1 (-1 : Int32) (0 : Int32)
set_option maxRecDepth 1000000 in
noncomputable def tX4_leftOfLiving_4 (K : (SM → Nat → Nat → Int32 → Int32 → Int32)) (s : SM) (L0 : Nat) (P0 : Nat) (a1 : Int32) (a2 : Int32) : Int32 := (if (gI s P0 6) ≤ a2 then a1 else (if (vX4_lives s L0 P0 a2) = 0 then (K s L0 P0 (a1 + (0 : Int32)) (a2 + 1)) else (K s L0 P0 (a1 + (gI s (L0 + 7) (a2).toNatClampNeg)) (a2 + 1))))
set_option maxRecDepth 1000000 in
def uX4_leftOfLiving_4 (K : (SM → Nat → Nat → Int32 → Int32 → Prop)) (s : SM) (L0 : Nat) (P0 : Nat) (a1 : Int32) (a2 : Int32) : Prop := (¬ (gI s P0 6) ≤ a2 → (((vX4_lives s L0 P0 a2) = 0 → K s L0 P0 (a1 + (0 : Int32)) (a2 + 1)) ∧ (¬ (vX4_lives s L0 P0 a2) = 0 → vp_in a2 9 ∧ K s L0 P0 (a1 + (gI s (L0 + 7) (a2).toNatClampNeg)) (a2 + 1))))
set_option maxRecDepth 1000000 in
noncomputable def lX4_leftOfLiving : Nat → (SM → Nat → Nat → Int32 → Int32 → Int32)
  | 0 => fun (s : SM) (L0 : Nat) (P0 : Nat) (a1 : Int32) (a2 : Int32) => 0
  | n + 1 => tX4_leftOfLiving_4 (lX4_leftOfLiving n)
set_option maxRecDepth 1000000 in
def qX4_leftOfLiving : Nat → (SM → Nat → Nat → Int32 → Int32 → Prop)
  | 0 => fun (s : SM) (L0 : Nat) (P0 : Nat) (a1 : Int32) (a2 : Int32) => False
  | n + 1 => uX4_leftOfLiving_4 (qX4_leftOfLiving n)
set_option maxRecDepth 1000000 in
noncomputable def fX4_leftOfLiving (s : SM) (L0 P0 : Nat) : Int32 := ((lX4_leftOfLiving FU) s L0 P0 (0 : Int32) (0 : Int32))
set_option maxRecDepth 1000000 in
noncomputable def vX4_leftOfLiving (s : SM) (L0 P0 : Nat) : Int32 := fX4_leftOfLiving s L0 P0
set_option maxRecDepth 1000000 in
def rX4_leftOfLiving (s : SM) (L0 P0 : Nat) : Prop := (qX4_leftOfLiving FU) s L0 P0 (0 : Int32) (0 : Int32)
set_option maxRecDepth 1000000 in
noncomputable def vX4_unscarredBearer (s : SM) (L0 P0 : Nat) (a1 : Int32) (a2 : Int32) : Int32 := (if (((gI s (L0 + 11) (a1).toNatClampNeg) >>> (a2 &&& 31)) &&& (1 : Int32)) = (1 : Int32) then (-1 : Int32) else (vX4_bearer s L0 P0 a1 a2))
set_option maxRecDepth 1000000 in
def rX4_unscarredBearer (s : SM) (L0 P0 : Nat) (a1 : Int32) (a2 : Int32) : Prop := vp_in a1 60 ∧ (¬ (((gI s (L0 + 11) (a1).toNatClampNeg) >>> (a2 &&& 31)) &&& (1 : Int32)) = (1 : Int32) → rX4_bearer s L0 P0 a1 a2)
set_option maxRecDepth 1000000 in
noncomputable def vX4_valueOf (s : SM) (L0 P0 : Nat) (a1 : Int32) : Int32 := (vX6_valueOf s P0 (gI s (L0 + 4) (a1).toNatClampNeg) (gI s (L0 + 3) (a1).toNatClampNeg))
set_option maxRecDepth 1000000 in
def rX4_valueOf (s : SM) (L0 P0 : Nat) (a1 : Int32) : Prop := vp_in a1 60 ∧ vp_in a1 60 ∧ rX6_valueOf s P0 (gI s (L0 + 4) (a1).toNatClampNeg) (gI s (L0 + 3) (a1).toNatClampNeg)
set_option maxRecDepth 1000000 in
noncomputable def mX5_keepTold (s : SM)  : SM := ((fun (s1 : SM) => s1) (cI s 231 (va_cpy (gI s 230) (gI s 231) ((0 : Int32)).toNatClampNeg ((0 : Int32)).toNatClampNeg ((6 : Int32)).toNatClampNeg)))
set_option maxRecDepth 1000000 in
noncomputable def mX6_copyFrom (s : SM) (p0 : Nat) (p1 : Nat) : SM := ((fun (s1 : SM) => ((fun (s2 : SM) => ((fun (s3 : SM) => ((fun (s4 : SM) => ((fun (s5 : SM) => ((fun (s6 : SM) => ((fun (s7 : SM) => ((fun (s8 : SM) => s8) (pI (pI (pI s7 p0 9 (gI s7 p1 9)) p0 10 (gI (pI s7 p0 9 (gI s7 p1 9)) p1 10)) p0 11 (gI (pI (pI s7 p0 9 (gI s7 p1 9)) p0 10 (gI (pI s7 p0 9 (gI s7 p1 9)) p1 10)) p1 11)))) (pI (pI (pI s6 p0 6 (gI s6 p1 6)) p0 7 (gI (pI s6 p0 6 (gI s6 p1 6)) p1 7)) p0 8 (gI (pI (pI s6 p0 6 (gI s6 p1 6)) p0 7 (gI (pI s6 p0 6 (gI s6 p1 6)) p1 7)) p1 8)))) (cI s5 (p0 + 6) (va_cpy (gI s5 (p1 + 6)) (gI s5 (p0 + 6)) ((0 : Int32)).toNatClampNeg ((0 : Int32)).toNatClampNeg ((6 : Int32)).toNatClampNeg)))) (cI s4 (p0 + 5) (va_cpy (gI s4 (p1 + 5)) (gI s4 (p0 + 5)) ((0 : Int32)).toNatClampNeg ((0 : Int32)).toNatClampNeg ((6 : Int32)).toNatClampNeg)))) (cL s3 (p0 + 4) (va_cpy (gL s3 (p1 + 4)) (gL s3 (p0 + 4)) ((0 : Int32)).toNatClampNeg ((0 : Int32)).toNatClampNeg ((6 : Int32)).toNatClampNeg)))) (cI s2 (p0 + 3) (va_cpy (gI s2 (p1 + 3)) (gI s2 (p0 + 3)) ((0 : Int32)).toNatClampNeg ((0 : Int32)).toNatClampNeg ((9 : Int32)).toNatClampNeg)))) (cI s1 (p0 + 2) (va_cpy (gI s1 (p1 + 2)) (gI s1 (p0 + 2)) ((0 : Int32)).toNatClampNeg ((0 : Int32)).toNatClampNeg ((9 : Int32)).toNatClampNeg)))) (cL s (p0 + 1) (va_cpy (gL s (p1 + 1)) (gL s (p0 + 1)) ((0 : Int32)).toNatClampNeg ((0 : Int32)).toNatClampNeg ((9 : Int32)).toNatClampNeg)))
set_option maxRecDepth 1000000 in
noncomputable def vX6_dotOn (s : SM) (p0 : Nat) (a1 : Int32) : Int32 := (if (gI s (p0 + 5) (a1).toNatClampNeg) < (gI s p0 9) then (gI s (p0 + 5) (a1).toNatClampNeg) else (gI s p0 9))
set_option maxRecDepth 1000000 in
def rX6_dotOn (s : SM) (p0 : Nat) (a1 : Int32) : Prop := vp_in a1 6
set_option maxRecDepth 1000000 in
noncomputable def vX6_hasDealers (s : SM) (p0 : Nat) (a1 : Int32) (a2 : Int32) (a3 : Int32) : Int32 := (if (vX6_hasBody s p0 a1) = 0 then (0 : Int32) else (if (vX6_hasBody s p0 a2) = 0 then (0 : Int32) else (if (vX6_hasKind s p0 a3) = 0 then (0 : Int32) else (1 : Int32))))
set_option maxRecDepth 1000000 in
noncomputable def vX6_sortTold (s : SM)  : Int32 := (if (vX9_says s (28270047624193380 : Int64)) = 0 then (if (vX9_says s (114767640814948 : Int64)) = 0 then (if (vX9_says s (439721161573 : Int64)) = 0 then (if (vX9_says s (457135713908 : Int64)) = 0 then (0 : Int32) else (4 : Int32)) else (3 : Int32)) else (2 : Int32)) else (1 : Int32))
set_option maxRecDepth 1000000 in
noncomputable def mX7_offer (s : SM) (a1 : Int32) (a2 : Int32) (a3 : Int32) : SM := (if (vX7_isBetter s a1 a3) = 0 then s else ((fun (s1 : SM) => (pI (pI (pI s1 218 1 a1) 218 3 a2) 218 2 a3)) (cI s 219 (va_cpy (gI s 220) (gI s 219) ((0 : Int32)).toNatClampNeg ((0 : Int32)).toNatClampNeg ((5 : Int32)).toNatClampNeg))))
set_option maxRecDepth 1000000 in
noncomputable def vX9_isAllRead (s : SM)  : Int32 := (if (gI s 3 1) ≤ (600 : Int32) then (1 : Int32) else (if (vX9_refuse s (1 : Int32)) = 0 then (0 : Int32) else (1 : Int32)))
set_option maxRecDepth 1000000 in
noncomputable def mX9_isAllRead (s : SM)  : SM := (if (gI s 3 1) ≤ (600 : Int32) then s else (mX9_refuse s (1 : Int32)))
set_option maxRecDepth 1000000 in
noncomputable def vX9_isStop (s : SM)  : Int32 := (if (gI s 3 9) = (3 : Int32) then (1 : Int32) else (if (vX9_refuse s (1 : Int32)) = 0 then (0 : Int32) else (1 : Int32)))
set_option maxRecDepth 1000000 in
noncomputable def mX9_isStop (s : SM)  : SM := (if (gI s 3 9) = (3 : Int32) then s else (mX9_refuse s (1 : Int32)))
set_option maxRecDepth 1000000 in
noncomputable def tX9_readRun_14 (K : (SM → Int32 → Int32 → SM) × (SM → Int32 → Int32 → SM) × (SM → Int32 → Int32 → SM) × (SM → Int32 → Int32 → SM)) (s : SM) (a1 : Int32) (a2 : Int32) : SM := (if (gI s 3 1) ≤ (gI s 3 7) then (K.2.2.1 s a1 a2) else (if (vX9_isLetter s (vX9_byteOr s (gI s 3 7) (0 : Int32))) = 0 then (if (vX9_isDigit s (vX9_byteOr s (gI s 3 7) (0 : Int32))) = 0 then (K.2.2.1 s a1 a2) else (K.2.1 s a1 a2)) else (K.2.1 s a1 a2)))
set_option maxRecDepth 1000000 in
def uX9_readRun_14 (K : (SM → Int32 → Int32 → Prop) × (SM → Int32 → Int32 → Prop) × (SM → Int32 → Int32 → Prop) × (SM → Int32 → Int32 → Prop)) (s : SM) (a1 : Int32) (a2 : Int32) : Prop := (((gI s 3 1) ≤ (gI s 3 7) → K.2.2.1 s a1 a2) ∧ (¬ (gI s 3 1) ≤ (gI s 3 7) → rX9_byteOr s (gI s 3 7) (0 : Int32) ∧ ((¬ (vX9_isLetter s (vX9_byteOr s (gI s 3 7) (0 : Int32))) = 0 → K.2.1 s a1 a2) ∧ ((vX9_isLetter s (vX9_byteOr s (gI s 3 7) (0 : Int32))) = 0 → rX9_byteOr s (gI s 3 7) (0 : Int32) ∧ (((vX9_isDigit s (vX9_byteOr s (gI s 3 7) (0 : Int32))) = 0 → K.2.2.1 s a1 a2) ∧ (¬ (vX9_isDigit s (vX9_byteOr s (gI s 3 7) (0 : Int32))) = 0 → K.2.1 s a1 a2))))))
set_option maxRecDepth 1000000 in
noncomputable def tX9_readRun_55 (K : (SM → Int32 → Int32 → SM) × (SM → Int32 → Int32 → SM) × (SM → Int32 → Int32 → SM) × (SM → Int32 → Int32 → SM)) (s : SM) (a1 : Int32) (a2 : Int32) : SM := ((fun (s1 : SM) => (K.1 (pI s1 3 7 ((gI s1 3 7) + (1 : Int32))) (a1 + (if (vX9_isLetter s (vX9_byteOr s (gI s 3 7) (0 : Int32))) = 0 then (0 : Int32) else (1 : Int32))) (a2 + (if (vX9_isDigit s (vX9_byteOr s (gI s 3 7) (0 : Int32))) = 0 then (0 : Int32) else (1 : Int32))))) (pI (pL s 3 4 (((gL s 3 4) <<< (((8 : Int32)).toInt64 &&& 63)) ||| ((vX9_byteOr s (gI s 3 7) (0 : Int32))).toInt64)) 3 5 (((gI (pL s 3 4 (((gL s 3 4) <<< (((8 : Int32)).toInt64 &&& 63)) ||| ((vX9_byteOr s (gI s 3 7) (0 : Int32))).toInt64)) 3 5) * (10 : Int32)) + ((vX9_byteOr s (gI s 3 7) (0 : Int32)) - (48 : Int32)))))
set_option maxRecDepth 1000000 in
def uX9_readRun_55 (K : (SM → Int32 → Int32 → Prop) × (SM → Int32 → Int32 → Prop) × (SM → Int32 → Int32 → Prop) × (SM → Int32 → Int32 → Prop)) (s : SM) (a1 : Int32) (a2 : Int32) : Prop := rX9_byteOr s (gI s 3 7) (0 : Int32) ∧ (∀ s1, s1 = (pI (pL s 3 4 (((gL s 3 4) <<< (((8 : Int32)).toInt64 &&& 63)) ||| ((vX9_byteOr s (gI s 3 7) (0 : Int32))).toInt64)) 3 5 (((gI (pL s 3 4 (((gL s 3 4) <<< (((8 : Int32)).toInt64 &&& 63)) ||| ((vX9_byteOr s (gI s 3 7) (0 : Int32))).toInt64)) 3 5) * (10 : Int32)) + ((vX9_byteOr s (gI s 3 7) (0 : Int32)) - (48 : Int32)))) → K.1 (pI s1 3 7 ((gI s1 3 7) + (1 : Int32))) (a1 + (if (vX9_isLetter s (vX9_byteOr s (gI s 3 7) (0 : Int32))) = 0 then (0 : Int32) else (1 : Int32))) (a2 + (if (vX9_isDigit s (vX9_byteOr s (gI s 3 7) (0 : Int32))) = 0 then (0 : Int32) else (1 : Int32))))
set_option maxRecDepth 1000000 in
noncomputable def tX9_readRun_138 (K : (SM → Int32 → Int32 → SM) × (SM → Int32 → Int32 → SM) × (SM → Int32 → Int32 → SM) × (SM → Int32 → Int32 → SM)) (s : SM) (a1 : Int32) (a2 : Int32) : SM := (if a2 = 0 then (if (7 : Int32) < a1 then (K.2.2.2 (pI s 3 9 (4 : Int32)) a1 a2) else (K.2.2.2 (pI (pI s 3 9 (4 : Int32)) 3 9 (1 : Int32)) a1 a2)) else (K.2.2.2 (pI s 3 9 (4 : Int32)) a1 a2))
set_option maxRecDepth 1000000 in
def uX9_readRun_138 (K : (SM → Int32 → Int32 → Prop) × (SM → Int32 → Int32 → Prop) × (SM → Int32 → Int32 → Prop) × (SM → Int32 → Int32 → Prop)) (s : SM) (a1 : Int32) (a2 : Int32) : Prop := ((¬ a2 = 0 → K.2.2.2 (pI s 3 9 (4 : Int32)) a1 a2) ∧ (a2 = 0 → (((7 : Int32) < a1 → K.2.2.2 (pI s 3 9 (4 : Int32)) a1 a2) ∧ (¬ (7 : Int32) < a1 → K.2.2.2 (pI (pI s 3 9 (4 : Int32)) 3 9 (1 : Int32)) a1 a2))))
set_option maxRecDepth 1000000 in
noncomputable def tX9_readRun_158 (K : (SM → Int32 → Int32 → SM) × (SM → Int32 → Int32 → SM) × (SM → Int32 → Int32 → SM) × (SM → Int32 → Int32 → SM)) (s : SM) (a1 : Int32) (a2 : Int32) : SM := (if a1 = 0 then (if (2 : Int32) < a2 then s else (pI s 3 9 (2 : Int32))) else s)
set_option maxRecDepth 1000000 in
def uX9_readRun_158 (K : (SM → Int32 → Int32 → Prop) × (SM → Int32 → Int32 → Prop) × (SM → Int32 → Int32 → Prop) × (SM → Int32 → Int32 → Prop)) (s : SM) (a1 : Int32) (a2 : Int32) : Prop := True
set_option maxRecDepth 1000000 in
noncomputable def lX9_readRun : Nat → (SM → Int32 → Int32 → SM) × (SM → Int32 → Int32 → SM) × (SM → Int32 → Int32 → SM) × (SM → Int32 → Int32 → SM)
  | 0 => (fun (s : SM) (a1 : Int32) (a2 : Int32) => s, fun (s : SM) (a1 : Int32) (a2 : Int32) => s, fun (s : SM) (a1 : Int32) (a2 : Int32) => s, fun (s : SM) (a1 : Int32) (a2 : Int32) => s)
  | n + 1 => (tX9_readRun_14 (lX9_readRun n), tX9_readRun_55 (lX9_readRun n), tX9_readRun_138 (lX9_readRun n), tX9_readRun_158 (lX9_readRun n))
set_option maxRecDepth 1000000 in
def qX9_readRun : Nat → (SM → Int32 → Int32 → Prop) × (SM → Int32 → Int32 → Prop) × (SM → Int32 → Int32 → Prop) × (SM → Int32 → Int32 → Prop)
  | 0 => (fun (s : SM) (a1 : Int32) (a2 : Int32) => False, fun (s : SM) (a1 : Int32) (a2 : Int32) => False, fun (s : SM) (a1 : Int32) (a2 : Int32) => False, fun (s : SM) (a1 : Int32) (a2 : Int32) => False)
  | n + 1 => (uX9_readRun_14 (qX9_readRun n), uX9_readRun_55 (qX9_readRun n), uX9_readRun_138 (qX9_readRun n), uX9_readRun_158 (qX9_readRun n))
set_option maxRecDepth 1000000 in
noncomputable def fX9_readRun (s : SM)  : SM := ((lX9_readRun FU).1 (pI (pL s 3 4 (0 : Int64)) 3 5 (0 : Int32)) (0 : Int32) (0 : Int32))
set_option maxRecDepth 1000000 in
noncomputable def mX9_readRun (s : SM)  : SM := fX9_readRun s 
set_option maxRecDepth 1000000 in
def rX9_readRun (s : SM)  : Prop := (qX9_readRun FU).1 (pI (pL s 3 4 (0 : Int64)) 3 5 (0 : Int32)) (0 : Int32) (0 : Int32)
set_option maxRecDepth 1000000 in
noncomputable def tX11_addMark_118 (K : (SM → Int32 → Int32 → Int32 → SM) × (SM → Int32 → Int32 → Int32 → SM)) (s : SM) (a1 : Int32) (a2 : Int32) (a3 : Int32) : SM := ((fun (s3 : SM) => (if (gI s3 37 (a1).toNatClampNeg) = (1 : Int32) then (K.2 (mX10_add s3 (120 : Int32)) a1 a2 a3) else (K.2 s3 a1 a2 a3))) (mX10_addName (mX10_add s (32 : Int32)) (gL (mX10_add s (32 : Int32)) 9 ((gI (mX10_add s (32 : Int32)) 35 (a1).toNatClampNeg)).toNatClampNeg)))
set_option maxRecDepth 1000000 in
def uX11_addMark_118 (K : (SM → Int32 → Int32 → Int32 → Prop) × (SM → Int32 → Int32 → Int32 → Prop)) (s : SM) (a1 : Int32) (a2 : Int32) (a3 : Int32) : Prop := rX10_add s (32 : Int32) ∧ vp_in a1 60 ∧ vp_in (gI (mX10_add s (32 : Int32)) 35 (a1).toNatClampNeg) 6 ∧ rX10_addName (mX10_add s (32 : Int32)) (gL (mX10_add s (32 : Int32)) 9 ((gI (mX10_add s (32 : Int32)) 35 (a1).toNatClampNeg)).toNatClampNeg) ∧ (∀ s3, s3 = (mX10_addName (mX10_add s (32 : Int32)) (gL (mX10_add s (32 : Int32)) 9 ((gI (mX10_add s (32 : Int32)) 35 (a1).toNatClampNeg)).toNatClampNeg)) → vp_in a1 60 ∧ ((¬ (gI s3 37 (a1).toNatClampNeg) = (1 : Int32) → K.2 s3 a1 a2 a3) ∧ ((gI s3 37 (a1).toNatClampNeg) = (1 : Int32) → rX10_add s3 (120 : Int32) ∧ K.2 (mX10_add s3 (120 : Int32)) a1 a2 a3)))
set_option maxRecDepth 1000000 in
noncomputable def tX11_addMark_173 (K : (SM → Int32 → Int32 → Int32 → SM) × (SM → Int32 → Int32 → Int32 → SM)) (s : SM) (a1 : Int32) (a2 : Int32) (a3 : Int32) : SM := (if (gI s 37 (a1).toNatClampNeg) = (2 : Int32) then (mX10_add (mX10_add s (111 : Int32)) (59 : Int32)) else (mX10_add s (59 : Int32)))
set_option maxRecDepth 1000000 in
def uX11_addMark_173 (K : (SM → Int32 → Int32 → Int32 → Prop) × (SM → Int32 → Int32 → Int32 → Prop)) (s : SM) (a1 : Int32) (a2 : Int32) (a3 : Int32) : Prop := vp_in a1 60 ∧ ((¬ (gI s 37 (a1).toNatClampNeg) = (2 : Int32) → rX10_add s (59 : Int32)) ∧ ((gI s 37 (a1).toNatClampNeg) = (2 : Int32) → rX10_add s (111 : Int32) ∧ rX10_add (mX10_add s (111 : Int32)) (59 : Int32)))
set_option maxRecDepth 1000000 in
noncomputable def lX11_addMark : Nat → (SM → Int32 → Int32 → Int32 → SM) × (SM → Int32 → Int32 → Int32 → SM)
  | 0 => (fun (s : SM) (a1 : Int32) (a2 : Int32) (a3 : Int32) => s, fun (s : SM) (a1 : Int32) (a2 : Int32) (a3 : Int32) => s)
  | n + 1 => (tX11_addMark_118 (lX11_addMark n), tX11_addMark_173 (lX11_addMark n))
set_option maxRecDepth 1000000 in
def qX11_addMark : Nat → (SM → Int32 → Int32 → Int32 → Prop) × (SM → Int32 → Int32 → Int32 → Prop)
  | 0 => (fun (s : SM) (a1 : Int32) (a2 : Int32) (a3 : Int32) => False, fun (s : SM) (a1 : Int32) (a2 : Int32) (a3 : Int32) => False)
  | n + 1 => (uX11_addMark_118 (qX11_addMark n), uX11_addMark_173 (qX11_addMark n))
set_option maxRecDepth 1000000 in
noncomputable def fX11_addMark (s : SM) (a1 : Int32) (a2 : Int32) : SM := (if a2 = 0 then ((fun (s17 : SM) => (if (vX4_isScarred (mX10_add s17 (32 : Int32)) 31 5 a1 a2) = 0 then ((lX11_addMark FU).1 (mX10_addNumber (mX10_add s17 (32 : Int32)) (gI (mX10_add s17 (32 : Int32)) 34 (a1).toNatClampNeg)) a1 a2 (gI s 33 (a1).toNatClampNeg)) else ((lX11_addMark FU).1 (mX10_add (mX10_add s17 (32 : Int32)) (63 : Int32)) a1 a2 (gI s 33 (a1).toNatClampNeg)))) (mX10_addName (mX10_add (mX10_add s (if a2 = 0 then (43 : Int32) else (45 : Int32))) (32 : Int32)) (gL (mX10_add (mX10_add s (if a2 = 0 then (43 : Int32) else (45 : Int32))) (32 : Int32)) 6 ((gI s 33 (a1).toNatClampNeg)).toNatClampNeg))) else ((fun (s3 : SM) => (if (vX4_isScarred (mX10_add s3 (32 : Int32)) 31 5 a1 a2) = 0 then ((lX11_addMark FU).1 (mX10_addNumber (mX10_add s3 (32 : Int32)) (gI (mX10_add s3 (32 : Int32)) 34 (a1).toNatClampNeg)) a1 a2 (gI s 32 (a1).toNatClampNeg)) else ((lX11_addMark FU).1 (mX10_add (mX10_add s3 (32 : Int32)) (63 : Int32)) a1 a2 (gI s 32 (a1).toNatClampNeg)))) (mX10_addName (mX10_add (mX10_add s (if a2 = 0 then (43 : Int32) else (45 : Int32))) (32 : Int32)) (gL (mX10_add (mX10_add s (if a2 = 0 then (43 : Int32) else (45 : Int32))) (32 : Int32)) 6 ((gI s 32 (a1).toNatClampNeg)).toNatClampNeg))))
set_option maxRecDepth 1000000 in
noncomputable def mX11_addMark (s : SM) (a1 : Int32) (a2 : Int32) : SM := fX11_addMark s a1 a2
set_option maxRecDepth 1000000 in
def rX11_addMark (s : SM) (a1 : Int32) (a2 : Int32) : Prop := ((¬ a2 = 0 → vp_in a1 60 ∧ rX10_add s (if a2 = 0 then (43 : Int32) else (45 : Int32)) ∧ rX10_add (mX10_add s (if a2 = 0 then (43 : Int32) else (45 : Int32))) (32 : Int32) ∧ vp_in (gI s 32 (a1).toNatClampNeg) 9 ∧ rX10_addName (mX10_add (mX10_add s (if a2 = 0 then (43 : Int32) else (45 : Int32))) (32 : Int32)) (gL (mX10_add (mX10_add s (if a2 = 0 then (43 : Int32) else (45 : Int32))) (32 : Int32)) 6 ((gI s 32 (a1).toNatClampNeg)).toNatClampNeg) ∧ (∀ s3, s3 = (mX10_addName (mX10_add (mX10_add s (if a2 = 0 then (43 : Int32) else (45 : Int32))) (32 : Int32)) (gL (mX10_add (mX10_add s (if a2 = 0 then (43 : Int32) else (45 : Int32))) (32 : Int32)) 6 ((gI s 32 (a1).toNatClampNeg)).toNatClampNeg)) → rX10_add s3 (32 : Int32) ∧ rX4_isScarred (mX10_add s3 (32 : Int32)) 31 5 a1 a2 ∧ (((vX4_isScarred (mX10_add s3 (32 : Int32)) 31 5 a1 a2) = 0 → vp_in a1 60 ∧ rX10_addNumber (mX10_add s3 (32 : Int32)) (gI (mX10_add s3 (32 : Int32)) 34 (a1).toNatClampNeg) ∧ (qX11_addMark FU).1 (mX10_addNumber (mX10_add s3 (32 : Int32)) (gI (mX10_add s3 (32 : Int32)) 34 (a1).toNatClampNeg)) a1 a2 (gI s 32 (a1).toNatClampNeg)) ∧ (¬ (vX4_isScarred (mX10_add s3 (32 : Int32)) 31 5 a1 a2) = 0 → rX10_add (mX10_add s3 (32 : Int32)) (63 : Int32) ∧ (qX11_addMark FU).1 (mX10_add (mX10_add s3 (32 : Int32)) (63 : Int32)) a1 a2 (gI s 32 (a1).toNatClampNeg))))) ∧ (a2 = 0 → vp_in a1 60 ∧ rX10_add s (if a2 = 0 then (43 : Int32) else (45 : Int32)) ∧ rX10_add (mX10_add s (if a2 = 0 then (43 : Int32) else (45 : Int32))) (32 : Int32) ∧ vp_in (gI s 33 (a1).toNatClampNeg) 9 ∧ rX10_addName (mX10_add (mX10_add s (if a2 = 0 then (43 : Int32) else (45 : Int32))) (32 : Int32)) (gL (mX10_add (mX10_add s (if a2 = 0 then (43 : Int32) else (45 : Int32))) (32 : Int32)) 6 ((gI s 33 (a1).toNatClampNeg)).toNatClampNeg) ∧ (∀ s17, s17 = (mX10_addName (mX10_add (mX10_add s (if a2 = 0 then (43 : Int32) else (45 : Int32))) (32 : Int32)) (gL (mX10_add (mX10_add s (if a2 = 0 then (43 : Int32) else (45 : Int32))) (32 : Int32)) 6 ((gI s 33 (a1).toNatClampNeg)).toNatClampNeg)) → rX10_add s17 (32 : Int32) ∧ rX4_isScarred (mX10_add s17 (32 : Int32)) 31 5 a1 a2 ∧ (((vX4_isScarred (mX10_add s17 (32 : Int32)) 31 5 a1 a2) = 0 → vp_in a1 60 ∧ rX10_addNumber (mX10_add s17 (32 : Int32)) (gI (mX10_add s17 (32 : Int32)) 34 (a1).toNatClampNeg) ∧ (qX11_addMark FU).1 (mX10_addNumber (mX10_add s17 (32 : Int32)) (gI (mX10_add s17 (32 : Int32)) 34 (a1).toNatClampNeg)) a1 a2 (gI s 33 (a1).toNatClampNeg)) ∧ (¬ (vX4_isScarred (mX10_add s17 (32 : Int32)) 31 5 a1 a2) = 0 → rX10_add (mX10_add s17 (32 : Int32)) (63 : Int32) ∧ (qX11_addMark FU).1 (mX10_add (mX10_add s17 (32 : Int32)) (63 : Int32)) a1 a2 (gI s 33 (a1).toNatClampNeg))))))
set_option maxRecDepth 1000000 in
noncomputable def tX11_between_30 (K : (SM → Int32 → Int32 → Int32 → Int32 → Int32 → Int32)) (s : SM) (a1 : Int32) (a2 : Int32) (a3 : Int32) (a4 : Int32) (a5 : Int32) : Int32 := (if (gI s 31 9) ≤ a5 then (if a3 = (-1 : Int32) then a4 else (-1 : Int32)) else (if (vX4_isOpen s 31 5 a5) = 0 then (K s a1 a2 a3 a4 (a5 + 1)) else (if (gI s 32 (a5).toNatClampNeg) = a1 then (if (gI s 33 (a5).toNatClampNeg) = a2 then (if a4 = a3 then a5 else (K s a1 a2 a3 (a4 + 1) (a5 + 1))) else (K s a1 a2 a3 a4 (a5 + 1))) else (K s a1 a2 a3 a4 (a5 + 1)))))
set_option maxRecDepth 1000000 in
def uX11_between_30 (K : (SM → Int32 → Int32 → Int32 → Int32 → Int32 → Prop)) (s : SM) (a1 : Int32) (a2 : Int32) (a3 : Int32) (a4 : Int32) (a5 : Int32) : Prop := (¬ (gI s 31 9) ≤ a5 → rX4_isOpen s 31 5 a5 ∧ (((vX4_isOpen s 31 5 a5) = 0 → K s a1 a2 a3 a4 (a5 + 1)) ∧ (¬ (vX4_isOpen s 31 5 a5) = 0 → vp_in a5 60 ∧ ((¬ (gI s 32 (a5).toNatClampNeg) = a1 → K s a1 a2 a3 a4 (a5 + 1)) ∧ ((gI s 32 (a5).toNatClampNeg) = a1 → vp_in a5 60 ∧ ((¬ (gI s 33 (a5).toNatClampNeg) = a2 → K s a1 a2 a3 a4 (a5 + 1)) ∧ ((gI s 33 (a5).toNatClampNeg) = a2 → (¬ a4 = a3 → K s a1 a2 a3 (a4 + 1) (a5 + 1)))))))))
set_option maxRecDepth 1000000 in
noncomputable def lX11_between : Nat → (SM → Int32 → Int32 → Int32 → Int32 → Int32 → Int32)
  | 0 => fun (s : SM) (a1 : Int32) (a2 : Int32) (a3 : Int32) (a4 : Int32) (a5 : Int32) => 0
  | n + 1 => tX11_between_30 (lX11_between n)
set_option maxRecDepth 1000000 in
def qX11_between : Nat → (SM → Int32 → Int32 → Int32 → Int32 → Int32 → Prop)
  | 0 => fun (s : SM) (a1 : Int32) (a2 : Int32) (a3 : Int32) (a4 : Int32) (a5 : Int32) => False
  | n + 1 => uX11_between_30 (qX11_between n)
set_option maxRecDepth 1000000 in
noncomputable def fX11_between (s : SM) (a1 : Int32) (a2 : Int32) (a3 : Int32) : Int32 := (if (vX6_hasBody s 5 a1) = 0 then (-1 : Int32) else (if (vX6_hasBody s 5 a2) = 0 then (-1 : Int32) else ((lX11_between FU) s a1 a2 a3 (0 : Int32) (0 : Int32))))
set_option maxRecDepth 1000000 in
noncomputable def vX11_between (s : SM) (a1 : Int32) (a2 : Int32) (a3 : Int32) : Int32 := fX11_between s a1 a2 a3
set_option maxRecDepth 1000000 in
def rX11_between (s : SM) (a1 : Int32) (a2 : Int32) (a3 : Int32) : Prop := (¬ (vX6_hasBody s 5 a1) = 0 → (¬ (vX6_hasBody s 5 a2) = 0 → (qX11_between FU) s a1 a2 a3 (0 : Int32) (0 : Int32)))
set_option maxRecDepth 1000000 in
noncomputable def tX11_fullest_7 (K : (SM → Int32 → Int32 → Int32 → Int32 → Int32) × (SM → Int32 → Int32 → Int32 → Int32 → Int32)) (s : SM) (a1 : Int32) (a2 : Int32) (a3 : Int32) (a4 : Int32) : Int32 := (if a1 < a4 then (K.2 s a1 a2 a3 a4) else (if (9 : Int32) ≤ a4 then (K.2 s a1 a2 a3 a4) else (K.1 s a1 (a2 ||| (if (vX4_leastLeft s 31 5 a2) = (-1 : Int32) then (0 : Int32) else ((1 : Int32) <<< ((vX4_leastLeft s 31 5 a2) &&& 31)))) (vX4_leastLeft s 31 5 a2) (a4 + 1))))
set_option maxRecDepth 1000000 in
def uX11_fullest_7 (K : (SM → Int32 → Int32 → Int32 → Int32 → Prop) × (SM → Int32 → Int32 → Int32 → Int32 → Prop)) (s : SM) (a1 : Int32) (a2 : Int32) (a3 : Int32) (a4 : Int32) : Prop := ((a1 < a4 → K.2 s a1 a2 a3 a4) ∧ (¬ a1 < a4 → (((9 : Int32) ≤ a4 → K.2 s a1 a2 a3 a4) ∧ (¬ (9 : Int32) ≤ a4 → rX4_leastLeft s 31 5 a2 ∧ K.1 s a1 (a2 ||| (if (vX4_leastLeft s 31 5 a2) = (-1 : Int32) then (0 : Int32) else ((1 : Int32) <<< ((vX4_leastLeft s 31 5 a2) &&& 31)))) (vX4_leastLeft s 31 5 a2) (a4 + 1)))))
set_option maxRecDepth 1000000 in
noncomputable def tX11_fullest_50 (K : (SM → Int32 → Int32 → Int32 → Int32 → Int32) × (SM → Int32 → Int32 → Int32 → Int32 → Int32)) (s : SM) (a1 : Int32) (a2 : Int32) (a3 : Int32) (a4 : Int32) : Int32 := (if (9 : Int32) ≤ a1 then (-1 : Int32) else a3)
set_option maxRecDepth 1000000 in
def uX11_fullest_50 (K : (SM → Int32 → Int32 → Int32 → Int32 → Prop) × (SM → Int32 → Int32 → Int32 → Int32 → Prop)) (s : SM) (a1 : Int32) (a2 : Int32) (a3 : Int32) (a4 : Int32) : Prop := True
set_option maxRecDepth 1000000 in
noncomputable def lX11_fullest : Nat → (SM → Int32 → Int32 → Int32 → Int32 → Int32) × (SM → Int32 → Int32 → Int32 → Int32 → Int32)
  | 0 => (fun (s : SM) (a1 : Int32) (a2 : Int32) (a3 : Int32) (a4 : Int32) => 0, fun (s : SM) (a1 : Int32) (a2 : Int32) (a3 : Int32) (a4 : Int32) => 0)
  | n + 1 => (tX11_fullest_7 (lX11_fullest n), tX11_fullest_50 (lX11_fullest n))
set_option maxRecDepth 1000000 in
def qX11_fullest : Nat → (SM → Int32 → Int32 → Int32 → Int32 → Prop) × (SM → Int32 → Int32 → Int32 → Int32 → Prop)
  | 0 => (fun (s : SM) (a1 : Int32) (a2 : Int32) (a3 : Int32) (a4 : Int32) => False, fun (s : SM) (a1 : Int32) (a2 : Int32) (a3 : Int32) (a4 : Int32) => False)
  | n + 1 => (uX11_fullest_7 (qX11_fullest n), uX11_fullest_50 (qX11_fullest n))
set_option maxRecDepth 1000000 in
noncomputable def fX11_fullest (s : SM) (a1 : Int32) : Int32 := ((lX11_fullest FU).1 s a1 (0 : Int32) (-1 : Int32) (0 : Int32))
set_option maxRecDepth 1000000 in
noncomputable def vX11_fullest (s : SM) (a1 : Int32) : Int32 := fX11_fullest s a1
set_option maxRecDepth 1000000 in
def rX11_fullest (s : SM) (a1 : Int32) : Prop := (qX11_fullest FU).1 s a1 (0 : Int32) (-1 : Int32) (0 : Int32)
set_option maxRecDepth 1000000 in
noncomputable def tX11_owes_27 (K : (SM → Int32 → Int32 → Int32 → Int32 → Int32)) (s : SM) (a1 : Int32) (a2 : Int32) (a3 : Int32) (a4 : Int32) : Int32 := (if (gI s 31 9) ≤ a4 then a3 else (if (vX4_isOpen s 31 5 a4) = 0 then (K s a1 a2 a3 (a4 + 1)) else (if a2 = 0 then (if a2 = 0 then (K s a1 a2 (a3 ||| (if (gI s 32 (a4).toNatClampNeg) = a1 then ((1 : Int32) <<< ((gI s 33 (a4).toNatClampNeg) &&& 31)) else (0 : Int32))) (a4 + 1)) else (K s a1 a2 (a3 ||| (if (gI s 32 (a4).toNatClampNeg) = a1 then ((1 : Int32) <<< ((gI s 32 (a4).toNatClampNeg) &&& 31)) else (0 : Int32))) (a4 + 1))) else (if a2 = 0 then (K s a1 a2 (a3 ||| (if (gI s 33 (a4).toNatClampNeg) = a1 then ((1 : Int32) <<< ((gI s 33 (a4).toNatClampNeg) &&& 31)) else (0 : Int32))) (a4 + 1)) else (K s a1 a2 (a3 ||| (if (gI s 33 (a4).toNatClampNeg) = a1 then ((1 : Int32) <<< ((gI s 32 (a4).toNatClampNeg) &&& 31)) else (0 : Int32))) (a4 + 1))))))
set_option maxRecDepth 1000000 in
def uX11_owes_27 (K : (SM → Int32 → Int32 → Int32 → Int32 → Prop)) (s : SM) (a1 : Int32) (a2 : Int32) (a3 : Int32) (a4 : Int32) : Prop := (¬ (gI s 31 9) ≤ a4 → rX4_isOpen s 31 5 a4 ∧ (((vX4_isOpen s 31 5 a4) = 0 → K s a1 a2 a3 (a4 + 1)) ∧ (¬ (vX4_isOpen s 31 5 a4) = 0 → ((¬ a2 = 0 → vp_in a4 60 ∧ ((¬ a2 = 0 → vp_in a4 60 ∧ K s a1 a2 (a3 ||| (if (gI s 33 (a4).toNatClampNeg) = a1 then ((1 : Int32) <<< ((gI s 32 (a4).toNatClampNeg) &&& 31)) else (0 : Int32))) (a4 + 1)) ∧ (a2 = 0 → vp_in a4 60 ∧ K s a1 a2 (a3 ||| (if (gI s 33 (a4).toNatClampNeg) = a1 then ((1 : Int32) <<< ((gI s 33 (a4).toNatClampNeg) &&& 31)) else (0 : Int32))) (a4 + 1)))) ∧ (a2 = 0 → vp_in a4 60 ∧ ((¬ a2 = 0 → vp_in a4 60 ∧ K s a1 a2 (a3 ||| (if (gI s 32 (a4).toNatClampNeg) = a1 then ((1 : Int32) <<< ((gI s 32 (a4).toNatClampNeg) &&& 31)) else (0 : Int32))) (a4 + 1)) ∧ (a2 = 0 → vp_in a4 60 ∧ K s a1 a2 (a3 ||| (if (gI s 32 (a4).toNatClampNeg) = a1 then ((1 : Int32) <<< ((gI s 33 (a4).toNatClampNeg) &&& 31)) else (0 : Int32))) (a4 + 1))))))))
set_option maxRecDepth 1000000 in
noncomputable def lX11_owes : Nat → (SM → Int32 → Int32 → Int32 → Int32 → Int32)
  | 0 => fun (s : SM) (a1 : Int32) (a2 : Int32) (a3 : Int32) (a4 : Int32) => 0
  | n + 1 => tX11_owes_27 (lX11_owes n)
set_option maxRecDepth 1000000 in
def qX11_owes : Nat → (SM → Int32 → Int32 → Int32 → Int32 → Prop)
  | 0 => fun (s : SM) (a1 : Int32) (a2 : Int32) (a3 : Int32) (a4 : Int32) => False
  | n + 1 => uX11_owes_27 (qX11_owes n)
set_option maxRecDepth 1000000 in
noncomputable def fX11_owes (s : SM) (a1 : Int32) (a2 : Int32) : Int32 := (if (vX6_hasBody s 5 a1) = 0 then (-1 : Int32) else (if a2 < 0 then (-1 : Int32) else (if a2 ≤ (1 : Int32) then ((lX11_owes FU) s a1 a2 (0 : Int32) (0 : Int32)) else (-1 : Int32))))
set_option maxRecDepth 1000000 in
noncomputable def vX11_owes (s : SM) (a1 : Int32) (a2 : Int32) : Int32 := fX11_owes s a1 a2
set_option maxRecDepth 1000000 in
def rX11_owes (s : SM) (a1 : Int32) (a2 : Int32) : Prop := (¬ (vX6_hasBody s 5 a1) = 0 → (¬ a2 < 0 → (a2 ≤ (1 : Int32) → (qX11_owes FU) s a1 a2 (0 : Int32) (0 : Int32))))
set_option maxRecDepth 1000000 in
noncomputable def tX11_trade_23 (K : (SM → Int32 → Int32 → Int32 → Int32 → Int32) × (SM → Int32 → Int32 → Int32 → Int32 → Int32)) (s : SM) (a1 : Int32) (a2 : Int32) (a3 : Int32) (a4 : Int32) : Int32 := (if (gI s 31 9) ≤ a4 then a3 else (if (gI s 36 (a4).toNatClampNeg) = a1 then (if a2 = 0 then (K.2 s a1 a2 a3 a4) else (if (gI s 37 (a4).toNatClampNeg) = (a2 - (1 : Int32)) then (K.2 s a1 a2 a3 a4) else (K.1 s a1 a2 a3 (a4 + 1)))) else (K.1 s a1 a2 a3 (a4 + 1))))
set_option maxRecDepth 1000000 in
def uX11_trade_23 (K : (SM → Int32 → Int32 → Int32 → Int32 → Prop) × (SM → Int32 → Int32 → Int32 → Int32 → Prop)) (s : SM) (a1 : Int32) (a2 : Int32) (a3 : Int32) (a4 : Int32) : Prop := (¬ (gI s 31 9) ≤ a4 → vp_in a4 60 ∧ ((¬ (gI s 36 (a4).toNatClampNeg) = a1 → K.1 s a1 a2 a3 (a4 + 1)) ∧ ((gI s 36 (a4).toNatClampNeg) = a1 → ((a2 = 0 → K.2 s a1 a2 a3 a4) ∧ (¬ a2 = 0 → vp_in a4 60 ∧ ((¬ (gI s 37 (a4).toNatClampNeg) = (a2 - (1 : Int32)) → K.1 s a1 a2 a3 (a4 + 1)) ∧ ((gI s 37 (a4).toNatClampNeg) = (a2 - (1 : Int32)) → K.2 s a1 a2 a3 a4)))))))
set_option maxRecDepth 1000000 in
noncomputable def tX11_trade_69 (K : (SM → Int32 → Int32 → Int32 → Int32 → Int32) × (SM → Int32 → Int32 → Int32 → Int32 → Int32)) (s : SM) (a1 : Int32) (a2 : Int32) (a3 : Int32) (a4 : Int32) : Int32 := (K.1 s a1 a2 (a3 + (vX4_valueOf s 31 5 a4)) (a4 + 1))
set_option maxRecDepth 1000000 in
def uX11_trade_69 (K : (SM → Int32 → Int32 → Int32 → Int32 → Prop) × (SM → Int32 → Int32 → Int32 → Int32 → Prop)) (s : SM) (a1 : Int32) (a2 : Int32) (a3 : Int32) (a4 : Int32) : Prop := rX4_valueOf s 31 5 a4 ∧ K.1 s a1 a2 (a3 + (vX4_valueOf s 31 5 a4)) (a4 + 1)
set_option maxRecDepth 1000000 in
noncomputable def lX11_trade : Nat → (SM → Int32 → Int32 → Int32 → Int32 → Int32) × (SM → Int32 → Int32 → Int32 → Int32 → Int32)
  | 0 => (fun (s : SM) (a1 : Int32) (a2 : Int32) (a3 : Int32) (a4 : Int32) => 0, fun (s : SM) (a1 : Int32) (a2 : Int32) (a3 : Int32) (a4 : Int32) => 0)
  | n + 1 => (tX11_trade_23 (lX11_trade n), tX11_trade_69 (lX11_trade n))
set_option maxRecDepth 1000000 in
def qX11_trade : Nat → (SM → Int32 → Int32 → Int32 → Int32 → Prop) × (SM → Int32 → Int32 → Int32 → Int32 → Prop)
  | 0 => (fun (s : SM) (a1 : Int32) (a2 : Int32) (a3 : Int32) (a4 : Int32) => False, fun (s : SM) (a1 : Int32) (a2 : Int32) (a3 : Int32) (a4 : Int32) => False)
  | n + 1 => (uX11_trade_23 (qX11_trade n), uX11_trade_69 (qX11_trade n))
set_option maxRecDepth 1000000 in
noncomputable def fX11_trade (s : SM) (a1 : Int32) (a2 : Int32) : Int32 := (if (vX11_isYear s a1) = 0 then (-1 : Int32) else (if a2 < 0 then (-1 : Int32) else (if a2 ≤ (3 : Int32) then ((lX11_trade FU).1 s a1 a2 (0 : Int32) (0 : Int32)) else (-1 : Int32))))
set_option maxRecDepth 1000000 in
noncomputable def vX11_trade (s : SM) (a1 : Int32) (a2 : Int32) : Int32 := fX11_trade s a1 a2
set_option maxRecDepth 1000000 in
def rX11_trade (s : SM) (a1 : Int32) (a2 : Int32) : Prop := (¬ (vX11_isYear s a1) = 0 → (¬ a2 < 0 → (a2 ≤ (3 : Int32) → (qX11_trade FU).1 s a1 a2 (0 : Int32) (0 : Int32))))
set_option maxRecDepth 1000000 in
noncomputable def tX11_witness_86 (K : (SM → Int32 → Int32 → Int32 → Int32)) (s : SM) (a1 : Int32) (a2 : Int32) (a3 : Int32) : Int32 := (if (if a2 = (-1 : Int32) then a3 else a2) = (-1 : Int32) then (-1 : Int32) else ((1 : Int32) <<< ((if a2 = (-1 : Int32) then a3 else a2) &&& 31)))
set_option maxRecDepth 1000000 in
def uX11_witness_86 (K : (SM → Int32 → Int32 → Int32 → Prop)) (s : SM) (a1 : Int32) (a2 : Int32) (a3 : Int32) : Prop := True
set_option maxRecDepth 1000000 in
noncomputable def lX11_witness : Nat → (SM → Int32 → Int32 → Int32 → Int32)
  | 0 => fun (s : SM) (a1 : Int32) (a2 : Int32) (a3 : Int32) => 0
  | n + 1 => tX11_witness_86 (lX11_witness n)
set_option maxRecDepth 1000000 in
def qX11_witness : Nat → (SM → Int32 → Int32 → Int32 → Prop)
  | 0 => fun (s : SM) (a1 : Int32) (a2 : Int32) (a3 : Int32) => False
  | n + 1 => uX11_witness_86 (qX11_witness n)
set_option maxRecDepth 1000000 in
noncomputable def fX11_witness (s : SM) (a1 : Int32) : Int32 := (if (vX4_hasDeal s 31 5 a1) = 0 then (-1 : Int32) else (if (gI s 11 ((gI s 35 (a1).toNatClampNeg)).toNatClampNeg) = (4 : Int32) then (if (vX4_unscarredBearer s 31 5 a1 (0 : Int32)) = (-1 : Int32) then (-1 : Int32) else (if (vX4_unscarredBearer s 31 5 a1 (1 : Int32)) = (-1 : Int32) then (-1 : Int32) else (((1 : Int32) <<< ((vX4_unscarredBearer s 31 5 a1 (0 : Int32)) &&& 31)) ||| ((1 : Int32) <<< ((vX4_unscarredBearer s 31 5 a1 (1 : Int32)) &&& 31))))) else (if (vX4_unscarredBearer s 31 5 a1 (0 : Int32)) = (-1 : Int32) then ((lX11_witness FU) s a1 (vX4_unscarredBearer s 31 5 a1 (0 : Int32)) (vX4_unscarredBearer s 31 5 a1 (1 : Int32))) else (if (vX4_unscarredBearer s 31 5 a1 (1 : Int32)) = (-1 : Int32) then ((lX11_witness FU) s a1 (vX4_unscarredBearer s 31 5 a1 (0 : Int32)) (vX4_unscarredBearer s 31 5 a1 (1 : Int32))) else ((1 : Int32) <<< ((if (vX4_unscarredBearer s 31 5 a1 (1 : Int32)) < (vX4_unscarredBearer s 31 5 a1 (0 : Int32)) then (vX4_unscarredBearer s 31 5 a1 (1 : Int32)) else (vX4_unscarredBearer s 31 5 a1 (0 : Int32))) &&& 31))))))
set_option maxRecDepth 1000000 in
noncomputable def vX11_witness (s : SM) (a1 : Int32) : Int32 := fX11_witness s a1
set_option maxRecDepth 1000000 in
def rX11_witness (s : SM) (a1 : Int32) : Prop := (¬ (vX4_hasDeal s 31 5 a1) = 0 → rX4_unscarredBearer s 31 5 a1 (0 : Int32) ∧ rX4_unscarredBearer s 31 5 a1 (1 : Int32) ∧ vp_in a1 60 ∧ vp_in (gI s 35 (a1).toNatClampNeg) 6 ∧ (¬ (gI s 11 ((gI s 35 (a1).toNatClampNeg)).toNatClampNeg) = (4 : Int32) → (((vX4_unscarredBearer s 31 5 a1 (0 : Int32)) = (-1 : Int32) → (qX11_witness FU) s a1 (vX4_unscarredBearer s 31 5 a1 (0 : Int32)) (vX4_unscarredBearer s 31 5 a1 (1 : Int32))) ∧ (¬ (vX4_unscarredBearer s 31 5 a1 (0 : Int32)) = (-1 : Int32) → ((vX4_unscarredBearer s 31 5 a1 (1 : Int32)) = (-1 : Int32) → (qX11_witness FU) s a1 (vX4_unscarredBearer s 31 5 a1 (0 : Int32)) (vX4_unscarredBearer s 31 5 a1 (1 : Int32)))))))
set_option maxRecDepth 1000000 in
noncomputable def vX12_aged (s : SM) (a1 : Int32) (a2 : Int32) : Int32 := (if (vX12_isBody (pI s 248 0 (0 : Int32)) a1) = 0 then (-1 : Int32) else (if (vX12_isIn (pI s 248 0 (0 : Int32)) a2 (0 : Int32) (99 : Int32)) = 0 then (-1 : Int32) else (vX12_marksOn (pI s 248 0 (0 : Int32)) a1 a2)))
set_option maxRecDepth 1000000 in
noncomputable def mX12_aged (s : SM) (a1 : Int32) (a2 : Int32) : SM := (pI s 248 0 (0 : Int32))
set_option maxRecDepth 1000000 in
def rX12_aged (s : SM) (a1 : Int32) (a2 : Int32) : Prop := (¬ (vX12_isBody (pI s 248 0 (0 : Int32)) a1) = 0 → (¬ (vX12_isIn (pI s 248 0 (0 : Int32)) a2 (0 : Int32) (99 : Int32)) = 0 → rX12_marksOn (pI s 248 0 (0 : Int32)) a1 a2))
set_option maxRecDepth 1000000 in
noncomputable def vX12_dotOf (s : SM) (a1 : Int32) : Int32 := (if (vX12_sizeOf s a1) ≤ (gI s 250 ((3 : Int32)).toNatClampNeg) then (vX12_sizeOf s a1) else (gI s 250 ((3 : Int32)).toNatClampNeg))
set_option maxRecDepth 1000000 in
def rX12_dotOf (s : SM) (a1 : Int32) : Prop := rX12_sizeOf s a1 ∧ ((vX12_sizeOf s a1) ≤ (gI s 250 ((3 : Int32)).toNatClampNeg) → rX12_sizeOf s a1)
set_option maxRecDepth 1000000 in
noncomputable def vX12_fresh (s : SM) (a1 : Int32) : Int32 := (if (vX12_isName s ) = 0 then (vX12_bad s (1 : Int32)) else (if 0 ≤ (vX12_find s (15 : Int32) (gI s 251 ((0 : Int32)).toNatClampNeg)) then (vX12_bad s (3 : Int32)) else (if (vX12_find s (24 : Int32) (gI s 251 ((1 : Int32)).toNatClampNeg)) < 0 then (1 : Int32) else (vX12_bad s (3 : Int32)))))
set_option maxRecDepth 1000000 in
noncomputable def mX12_fresh (s : SM) (a1 : Int32) : SM := (if (vX12_isName s ) = 0 then (mX12_bad s (1 : Int32)) else (if 0 ≤ (vX12_find s (15 : Int32) (gI s 251 ((0 : Int32)).toNatClampNeg)) then (mX12_bad s (3 : Int32)) else (if (vX12_find s (24 : Int32) (gI s 251 ((1 : Int32)).toNatClampNeg)) < 0 then (mX12_next (pL s 253 (a1).toNatClampNeg (gL s 248 17)) ) else (mX12_bad s (3 : Int32)))))
set_option maxRecDepth 1000000 in
def rX12_fresh (s : SM) (a1 : Int32) : Prop := rX12_isName s  ∧ (¬ (vX12_isName s ) = 0 → rX12_find s (15 : Int32) (gI s 251 ((0 : Int32)).toNatClampNeg) ∧ (¬ 0 ≤ (vX12_find s (15 : Int32) (gI s 251 ((0 : Int32)).toNatClampNeg)) → rX12_find s (24 : Int32) (gI s 251 ((1 : Int32)).toNatClampNeg) ∧ ((vX12_find s (24 : Int32) (gI s 251 ((1 : Int32)).toNatClampNeg)) < 0 → vp_in a1 30 ∧ rX12_next (pL s 253 (a1).toNatClampNeg (gL s 248 17)) )))
set_option maxRecDepth 1000000 in
noncomputable def vX12_isKnown (s : SM) (a1 : Int32) (a2 : Int32) : Int32 := (if (vX12_sortOf s a1) = (4 : Int32) then (if (vX12_isRead s a1 (0 : Int32) a2) = 0 then (0 : Int32) else (if (vX12_isRead s a1 (1 : Int32) a2) = 0 then (0 : Int32) else (1 : Int32))) else (if (vX12_isRead s a1 (0 : Int32) a2) = 0 then (if (vX12_isRead s a1 (1 : Int32) a2) = 0 then (0 : Int32) else (1 : Int32)) else (1 : Int32)))
set_option maxRecDepth 1000000 in
def rX12_isKnown (s : SM) (a1 : Int32) (a2 : Int32) : Prop := rX12_isRead s a1 (0 : Int32) a2 ∧ rX12_isRead s a1 (1 : Int32) a2 ∧ rX12_sortOf s a1
set_option maxRecDepth 1000000 in
noncomputable def vX12_isOpen (s : SM) (a1 : Int32) : Int32 := (if (vX12_isDeal s a1) = 0 then (0 : Int32) else (if (vX12_of s a1 (5 : Int32)) = 0 then (1 : Int32) else (0 : Int32)))
set_option maxRecDepth 1000000 in
def rX12_isOpen (s : SM) (a1 : Int32) : Prop := (¬ (vX12_isDeal s a1) = 0 → rX12_of s a1 (5 : Int32))
set_option maxRecDepth 1000000 in
noncomputable def vX12_kind (s : SM) (a1 : Int32) (a2 : Int32) : Int32 := (if (vX12_isKind s a1) = 0 then (if (vX12_throwsIf s (1 : Int32)) = 0 then (gI (mX12_throwsIf s (1 : Int32)) 250 (((if a2 = 0 then (22 : Int32) else (28 : Int32)) + a1)).toNatClampNeg) else (0 : Int32)) else (if (vX12_throwsIf s (if (vX12_isIn s a2 (0 : Int32) (1 : Int32)) = 0 then (1 : Int32) else (0 : Int32))) = 0 then (gI (mX12_throwsIf s (if (vX12_isIn s a2 (0 : Int32) (1 : Int32)) = 0 then (1 : Int32) else (0 : Int32))) 250 (((if a2 = 0 then (22 : Int32) else (28 : Int32)) + a1)).toNatClampNeg) else (0 : Int32)))
set_option maxRecDepth 1000000 in
noncomputable def mX12_kind (s : SM) (a1 : Int32) (a2 : Int32) : SM := (if (vX12_isKind s a1) = 0 then (mX12_throwsIf s (1 : Int32)) else (mX12_throwsIf s (if (vX12_isIn s a2 (0 : Int32) (1 : Int32)) = 0 then (1 : Int32) else (0 : Int32))))
set_option maxRecDepth 1000000 in
def rX12_kind (s : SM) (a1 : Int32) (a2 : Int32) : Prop := (((vX12_isKind s a1) = 0 → rX12_throwsIf s (1 : Int32) ∧ ((vX12_throwsIf s (1 : Int32)) = 0 → vp_in ((if a2 = 0 then (22 : Int32) else (28 : Int32)) + a1) 787)) ∧ (¬ (vX12_isKind s a1) = 0 → rX12_throwsIf s (if (vX12_isIn s a2 (0 : Int32) (1 : Int32)) = 0 then (1 : Int32) else (0 : Int32)) ∧ ((vX12_throwsIf s (if (vX12_isIn s a2 (0 : Int32) (1 : Int32)) = 0 then (1 : Int32) else (0 : Int32))) = 0 → vp_in ((if a2 = 0 then (22 : Int32) else (28 : Int32)) + a1) 787)))
set_option maxRecDepth 1000000 in
noncomputable def tX12_leftOf_21 (K : (SM → Int32 → Int32 → Int32 → Int32) × (SM → Int32 → Int32 → Int32 → Int32 → Int32)) (s : SM) (a1 : Int32) (a2 : Int32) (a3 : Int32) : Int32 := (if (gI s 250 ((34 : Int32)).toNatClampNeg) ≤ a3 then a2 else (K.2 s a1 a2 a3 (0 : Int32)))
set_option maxRecDepth 1000000 in
def uX12_leftOf_21 (K : (SM → Int32 → Int32 → Int32 → Prop) × (SM → Int32 → Int32 → Int32 → Int32 → Prop)) (s : SM) (a1 : Int32) (a2 : Int32) (a3 : Int32) : Prop := (¬ (gI s 250 ((34 : Int32)).toNatClampNeg) ≤ a3 → K.2 s a1 a2 a3 (0 : Int32))
set_option maxRecDepth 1000000 in
noncomputable def tX12_leftOf_35 (K : (SM → Int32 → Int32 → Int32 → Int32) × (SM → Int32 → Int32 → Int32 → Int32 → Int32)) (s : SM) (a1 : Int32) (a2 : Int32) (a3 : Int32) (a4 : Int32) : Int32 := (if (2 : Int32) ≤ a4 then (K.1 s a1 a2 (a3 + 1)) else (if (vX12_of s a3 ((6 : Int32) + a4)) = a1 then (K.2 s a1 (a2 - (vX12_sizeOf s a3)) a3 (a4 + 1)) else (K.2 s a1 a2 a3 (a4 + 1))))
set_option maxRecDepth 1000000 in
def uX12_leftOf_35 (K : (SM → Int32 → Int32 → Int32 → Prop) × (SM → Int32 → Int32 → Int32 → Int32 → Prop)) (s : SM) (a1 : Int32) (a2 : Int32) (a3 : Int32) (a4 : Int32) : Prop := (((2 : Int32) ≤ a4 → K.1 s a1 a2 (a3 + 1)) ∧ (¬ (2 : Int32) ≤ a4 → rX12_of s a3 ((6 : Int32) + a4) ∧ ((¬ (vX12_of s a3 ((6 : Int32) + a4)) = a1 → K.2 s a1 a2 a3 (a4 + 1)) ∧ ((vX12_of s a3 ((6 : Int32) + a4)) = a1 → rX12_sizeOf s a3 ∧ K.2 s a1 (a2 - (vX12_sizeOf s a3)) a3 (a4 + 1)))))
set_option maxRecDepth 1000000 in
noncomputable def lX12_leftOf : Nat → (SM → Int32 → Int32 → Int32 → Int32) × (SM → Int32 → Int32 → Int32 → Int32 → Int32)
  | 0 => (fun (s : SM) (a1 : Int32) (a2 : Int32) (a3 : Int32) => 0, fun (s : SM) (a1 : Int32) (a2 : Int32) (a3 : Int32) (a4 : Int32) => 0)
  | n + 1 => (tX12_leftOf_21 (lX12_leftOf n), tX12_leftOf_35 (lX12_leftOf n))
set_option maxRecDepth 1000000 in
def qX12_leftOf : Nat → (SM → Int32 → Int32 → Int32 → Prop) × (SM → Int32 → Int32 → Int32 → Int32 → Prop)
  | 0 => (fun (s : SM) (a1 : Int32) (a2 : Int32) (a3 : Int32) => False, fun (s : SM) (a1 : Int32) (a2 : Int32) (a3 : Int32) (a4 : Int32) => False)
  | n + 1 => (uX12_leftOf_21 (qX12_leftOf n), uX12_leftOf_35 (qX12_leftOf n))
set_option maxRecDepth 1000000 in
noncomputable def fX12_leftOf (s : SM) (a1 : Int32) : Int32 := ((lX12_leftOf FU).1 s a1 ((gI s 250 (((4 : Int32) + a1)).toNatClampNeg) - (gI s 250 (((37 : Int32) + a1)).toNatClampNeg)) (0 : Int32))
set_option maxRecDepth 1000000 in
noncomputable def vX12_leftOf (s : SM) (a1 : Int32) : Int32 := fX12_leftOf s a1
set_option maxRecDepth 1000000 in
def rX12_leftOf (s : SM) (a1 : Int32) : Prop := vp_in ((4 : Int32) + a1) 787 ∧ vp_in ((37 : Int32) + a1) 787 ∧ (qX12_leftOf FU).1 s a1 ((gI s 250 (((4 : Int32) + a1)).toNatClampNeg) - (gI s 250 (((37 : Int32) + a1)).toNatClampNeg)) (0 : Int32)
set_option maxRecDepth 1000000 in
noncomputable def vX12_mark (s : SM) (a1 : Int32) (a2 : Int32) : Int32 := (if (vX12_isBody (pI s 248 0 (0 : Int32)) a1) = 0 then (-1 : Int32) else (if a2 < (-1 : Int32) then (-1 : Int32) else (vX12_markOf (pI s 248 0 (0 : Int32)) a1 a2)))
set_option maxRecDepth 1000000 in
noncomputable def mX12_mark (s : SM) (a1 : Int32) (a2 : Int32) : SM := (pI s 248 0 (0 : Int32))
set_option maxRecDepth 1000000 in
def rX12_mark (s : SM) (a1 : Int32) (a2 : Int32) : Prop := (¬ (vX12_isBody (pI s 248 0 (0 : Int32)) a1) = 0 → (¬ a2 < (-1 : Int32) → rX12_markOf (pI s 248 0 (0 : Int32)) a1 a2))
set_option maxRecDepth 1000000 in
noncomputable def vX12_packs (s : SM) (a1 : Int32) : Int32 := (if (gI s 264 (((3 : Int32) * a1)).toNatClampNeg) = (gI s 264 ((((3 : Int32) * a1) + (1 : Int32))).toNatClampNeg) then (0 : Int32) else (if (vX12_isLiving s (gI s 264 (((3 : Int32) * a1)).toNatClampNeg)) = 0 then (0 : Int32) else (if (vX12_isLiving s (gI s 264 ((((3 : Int32) * a1) + (1 : Int32))).toNatClampNeg)) = 0 then (0 : Int32) else (if ((gI s 266 (a1).toNatClampNeg) - (gI s 266 (a1).toNatClampNeg) / (2 : Int32) * (2 : Int32)) = 0 then (if (2 : Int32) ≤ (gI s 266 (a1).toNatClampNeg) then (if (gI s 264 (((3 : Int32) * a1)).toNatClampNeg) < 0 then (0 : Int32) else (if (gI s 250 (((13 : Int32) + (gI s 264 ((((3 : Int32) * a1) + (1 : Int32))).toNatClampNeg))).toNatClampNeg) < 0 then (0 : Int32) else (if (vX12_isLiving s (gI s 264 (((3 : Int32) * a1)).toNatClampNeg)) = 0 then (0 : Int32) else (if (vX12_isLiving s (gI s 250 (((13 : Int32) + (gI s 264 ((((3 : Int32) * a1) + (1 : Int32))).toNatClampNeg))).toNatClampNeg)) = 0 then (0 : Int32) else (1 : Int32))))) else (if (gI s 264 (((3 : Int32) * a1)).toNatClampNeg) < 0 then (0 : Int32) else (if (gI s 264 ((((3 : Int32) * a1) + (1 : Int32))).toNatClampNeg) < 0 then (0 : Int32) else (if (vX12_isLiving s (gI s 264 (((3 : Int32) * a1)).toNatClampNeg)) = 0 then (0 : Int32) else (if (vX12_isLiving s (gI s 264 ((((3 : Int32) * a1) + (1 : Int32))).toNatClampNeg)) = 0 then (0 : Int32) else (1 : Int32)))))) else (if (2 : Int32) ≤ (gI s 266 (a1).toNatClampNeg) then (if (gI s 250 (((13 : Int32) + (gI s 264 (((3 : Int32) * a1)).toNatClampNeg))).toNatClampNeg) < 0 then (0 : Int32) else (if (gI s 250 (((13 : Int32) + (gI s 264 ((((3 : Int32) * a1) + (1 : Int32))).toNatClampNeg))).toNatClampNeg) < 0 then (0 : Int32) else (if (vX12_isLiving s (gI s 250 (((13 : Int32) + (gI s 264 (((3 : Int32) * a1)).toNatClampNeg))).toNatClampNeg)) = 0 then (0 : Int32) else (if (vX12_isLiving s (gI s 250 (((13 : Int32) + (gI s 264 ((((3 : Int32) * a1) + (1 : Int32))).toNatClampNeg))).toNatClampNeg)) = 0 then (0 : Int32) else (1 : Int32))))) else (if (gI s 250 (((13 : Int32) + (gI s 264 (((3 : Int32) * a1)).toNatClampNeg))).toNatClampNeg) < 0 then (0 : Int32) else (if (gI s 264 ((((3 : Int32) * a1) + (1 : Int32))).toNatClampNeg) < 0 then (0 : Int32) else (if (vX12_isLiving s (gI s 250 (((13 : Int32) + (gI s 264 (((3 : Int32) * a1)).toNatClampNeg))).toNatClampNeg)) = 0 then (0 : Int32) else (if (vX12_isLiving s (gI s 264 ((((3 : Int32) * a1) + (1 : Int32))).toNatClampNeg)) = 0 then (0 : Int32) else (1 : Int32))))))))))
