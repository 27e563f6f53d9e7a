def RFL : List (List (Option Nat)) := [[], [], [some 3, some 5, some 12, some 19, some 25, some 31, some 43, some 55, some 165, some 218, some 225, some 233, some 240, some 244, some 246, none, some 247], [some 4], [], [some 6, some 7, some 8, some 9, some 10, some 11], [], [], [], [], [], [], [some 13, some 14, some 15, some 16, some 17, some 18], [], [], [], [], [], [], [none, some 20, some 21, some 22, some 23, some 24], [], [], [], [], [], [none, some 26, some 27, some 28, some 29, some 30], [], [], [], [], [], [some 32, some 33, some 34, some 35, some 36, some 37, some 38, some 39, some 5, none, none, some 40, some 41, some 42], [], [], [], [], [], [], [], [], [], [], [], [some 44, some 45, some 46, some 47, some 48, some 49, some 50, some 51, some 5, none, none, some 52, some 53, some 54], [], [], [], [], [], [], [], [], [], [], [], [some 56], [some 57, some 69, some 81, some 93, some 105, some 117, some 129, some 141, some 153], [some 58, some 59, some 60, some 61, some 62, some 63, some 64, some 65, some 5, none, none, some 66, some 67, some 68], [], [], [], [], [], [], [], [], [], [], [], [some 70, some 71, some 72, some 73, some 74, some 75, some 76, some 77, some 5, none, none, some 78, some 79, some 80], [], [], [], [], [], [], [], [], [], [], [], [some 82, some 83, some 84, some 85, some 86, some 87, some 88, some 89, some 5, none, none, some 90, some 91, some 92], [], [], [], [], [], [], [], [], [], [], [], [some 94, some 95, some 96, some 97, some 98, some 99, some 100, some 101, some 5, none, none, some 102, some 103, some 104], [], [], [], [], [], [], [], [], [], [], [], [some 106, some 107, some 108, some 109, some 110, some 111, some 112, some 113, some 5, none, none, some 114, some 115, some 116], [], [], [], [], [], [], [], [], [], [], [], [some 118, some 119, some 120, some 121, some 122, some 123, some 124, some 125, some 5, none, none, some 126, some 127, some 128], [], [], [], [], [], [], [], [], [], [], [], [some 130, some 131, some 132, some 133, some 134, some 135, some 136, some 137, some 5, none, none, some 138, some 139, some 140], [], [], [], [], [], [], [], [], [], [], [], [some 142, some 143, some 144, some 145, some 146, some 147, some 148, some 149, some 5, none, none, some 150, some 151, some 152], [], [], [], [], [], [], [], [], [], [], [], [some 154, some 155, some 156, some 157, some 158, some 159, some 160, some 161, some 5, none, none, some 162, some 163, some 164], [], [], [], [], [], [], [], [], [], [], [], [some 166, some 192], [none, some 167, some 174, some 186], [some 168, some 169, some 170, some 171, some 172, some 173], [], [], [], [], [], [], [some 175, some 176, some 177, some 178, some 179, some 180, some 181, some 182, some 167, none, none, some 183, some 184, some 185], [], [], [], [], [], [], [], [], [], [], [], [none, some 187, some 188, some 189, some 190, some 191], [], [], [], [], [], [none, some 193, some 200, some 212], [some 194, some 195, some 196, some 197, some 198, some 199], [], [], [], [], [], [], [some 201, some 202, some 203, some 204, some 205, some 206, some 207, some 208, some 193, none, none, some 209, some 210, some 211], [], [], [], [], [], [], [], [], [], [], [], [none, some 213, some 214, some 215, some 216, some 217], [], [], [], [], [], [some 219, none, none, none, none, some 220, some 221, none, some 222, some 223, some 224], [], [], [], [], [], [], [none, none, some 226, some 227, some 228, some 229, some 230, some 231, some 232], [], [], [], [], [], [], [], [some 234, some 235, some 236, some 237, some 238, some 239], [], [], [], [], [], [], [some 241, some 242, some 243], [], [], [], [none, some 245], [], [], [], [none, some 249, none, none, none, none, some 250, some 251, some 252, some 253, some 254, none, none, none, none, none, none, none, none, none, none, none, none, none, some 255, none, some 256, some 257, some 258, none, none, some 259, some 260, some 261, some 262, none, none, some 263, none, some 264, some 265, some 266, some 267, some 268, some 269, none, none, none, some 270, some 271, some 272, some 273, some 274, none, none, some 275, some 276, some 277], [], [], [], [], [], [], [], [], [], [], [], [], [], [], [], [], [], [], [], [], [], [], [], [], [], [], [], [], [], []]
def LX : List (Nat × Nat) := [(31, 5), (43, 5), (57, 5), (69, 5), (81, 5), (93, 5), (105, 5), (117, 5), (129, 5), (141, 5), (153, 5), (174, 167), (200, 193)]
def PX : List Nat := [5, 12, 167, 193]
def BX : List Nat := [19, 25, 186, 212]
def IX : List (Nat × Nat × Nat × Nat) := [(166, 167, 174, 186), (192, 193, 200, 212)]

def RF (a j : Nat) : Option Nat := (RFL.getD a []).getD j none
/-- the memory once all is made: ints, longs, the three references that change, the script -/
abbrev SM : Type := (Nat → Nat → Int32) × (Nat → Nat → Int64) × (Nat → Option Nat) × (Nat × (Nat → Int32))
def RFd (f : Nat → Option Nat) (a j : Nat) : Option Nat := if a = 218 ∧ j = 4 then f 0 else if a = 225 ∧ j = 10 then f 1 else if a = 233 ∧ j = 11 then f 2 else RF a j
def std (s : SM) : JMem := (s.1, s.2.1, RFd s.2.2.1, 279, s.2.2.2)
def gI (s : SM) : Nat → Nat → Int32 := s.1
def gL (s : SM) : Nat → Nat → Int64 := s.2.1
def gD (s : SM) : Nat → Option Nat := s.2.2.1
def cI (s : SM) (c : Nat) (f : Nat → Int32) : SM := (rw1 s.1 c f, s.2)
def cL (s : SM) (c : Nat) (f : Nat → Int64) : SM := (s.1, rw1 s.2.1 c f, s.2.2)
def pI (s : SM) (c i : Nat) (v : Int32) : SM := cI s c (upd (gI s c) i v)
def pL (s : SM) (c i : Nat) (v : Int64) : SM := cL s c (vp_updL (gL s c) i v)
def pD (s : SM) (k v : Nat) : SM := (s.1, s.2.1, va_up s.2.2.1 k (some v), s.2.2.2)
theorem gI_pI (s : SM) (c i : Nat) (v : Int32) (c' i' : Nat) : gI (pI s c i v) c' i' = if c' = c ∧ i' = i then v else gI s c' i' := by
  show rw1 (gI s) c (upd (gI s c) i v) c' i' = _
  unfold rw1 upd
  by_cases h : c' = c
  · subst h
    by_cases h2 : i' = i <;> simp [h2]
  · simp [h]
theorem gI_pL (s : SM) (c i : Nat) (v : Int64) : gI (pL s c i v) = gI s := rfl
theorem gL_pI (s : SM) (c i : Nat) (v : Int32) : gL (pI s c i v) = gL s := rfl
theorem gD_pI (s : SM) (c i : Nat) (v : Int32) : gD (pI s c i v) = gD s := rfl
theorem gD_pL (s : SM) (c i : Nat) (v : Int64) : gD (pL s c i v) = gD s := rfl
theorem gI_pD (s : SM) (k v : Nat) : gI (pD s k v) = gI s := rfl
theorem gL_pD (s : SM) (k v : Nat) : gL (pD s k v) = gL s := rfl
theorem gD_pD (s : SM) (k v k' : Nat) : gD (pD s k v) k' = if k' = k then some v else gD s k' := rfl
theorem gL_pL (s : SM) (c i : Nat) (v : Int64) (c' i' : Nat) : gL (pL s c i v) c' i' = if c' = c ∧ i' = i then v else gL s c' i' := by
  show rw1 (gL s) c (vp_updL (gL s c) i v) c' i' = _
  unfold rw1 vp_updL
  by_cases h : c' = c
  · subst h
    by_cases h2 : i' = i <;> simp [h2]
  · simp [h]
theorem gI_cI (s : SM) (c : Nat) (f : Nat → Int32) (c' : Nat) : gI (cI s c f) c' = if c' = c then f else gI s c' := rfl
theorem gL_cL (s : SM) (c : Nat) (f : Nat → Int64) (c' : Nat) : gL (cL s c f) c' = if c' = c then f else gL s c' := rfl
theorem gI_cL (s : SM) (c : Nat) (f : Nat → Int64) : gI (cL s c f) = gI s := rfl
theorem gL_cI (s : SM) (c : Nat) (f : Nat → Int32) : gL (cI s c f) = gL s := rfl
theorem gD_cI (s : SM) (c : Nat) (f : Nat → Int32) : gD (cI s c f) = gD s := rfl
theorem gD_cL (s : SM) (c : Nat) (f : Nat → Int64) : gD (cL s c f) = gD s := rfl
theorem sc_pI (s : SM) (c i : Nat) (v : Int32) : (pI s c i v).2.2.2 = s.2.2.2 := rfl
theorem sc_pL (s : SM) (c i : Nat) (v : Int64) : (pL s c i v).2.2.2 = s.2.2.2 := rfl
theorem sc_pD (s : SM) (k v : Nat) : (pD s k v).2.2.2 = s.2.2.2 := rfl
theorem sc_cI (s : SM) (c : Nat) (f : Nat → Int32) : (cI s c f).2.2.2 = s.2.2.2 := rfl
theorem sc_cL (s : SM) (c : Nat) (f : Nat → Int64) : (cL s c f).2.2.2 = s.2.2.2 := rfl
theorem RFd_pD (f : Nat → Option Nat) (k v : Nat) (q : Nat × Nat) (hq : [(218, 4), (225, 10), (233, 11)][k]? = some q) : RFd (va_up f k (some v)) = rw1 (RFd f) q.1 (va_up (RFd f q.1) q.2 (some v)) := by
  funext a j
  unfold rw1 va_up RFd
  match k, hq with
  | 0, hq => cases hq; by_cases h1 : a = 218 <;> by_cases h2 : j = 4 <;> simp [h1, h2]
  | 1, hq => cases hq; by_cases h1 : a = 225 <;> by_cases h2 : j = 10 <;> simp [h1, h2]
  | 2, hq => cases hq; by_cases h1 : a = 233 <;> by_cases h2 : j = 11 <;> simp [h1, h2]
theorem std_pD (s : SM) (k v : Nat) (q : Nat × Nat) (hq : [(218, 4), (225, 10), (233, 11)][k]? = some q) : wR (std s) q.1 q.2 v = std (pD s k v) := by
  show (s.1, s.2.1, rw1 (RFd s.2.2.1) q.1 _, 279, s.2.2.2) = (s.1, s.2.1, RFd (va_up s.2.2.1 k (some v)), 279, s.2.2.2)
  rw [RFd_pD _ k v q hq]
  rfl
def KQ (Q : Int32 → SM → Prop) : Option Value → JMem → Prop := fun v m1 => nrm v ∧ ∃ x s1, v = some (.int x) ∧ m1 = std s1 ∧ Q x s1
def KQv (Q : SM → Prop) : Option Value → JMem → Prop := fun v m1 => nrm v ∧ ∃ s1, v = none ∧ m1 = std s1 ∧ Q s1
/-- at pc, nothing on the stack; an int is answered (BI), nothing (BV) -/
abbrev BI (M : MT) (d : Nat) (pc : Nat) (lv : List (Nat × Value)) (s : SM) (Q : Int32 → SM → Prop) : Prop := JT M d 0 0 pc lv [] (std s) (KQ Q)
abbrev BV (M : MT) (d : Nat) (pc : Nat) (lv : List (Nat × Value)) (s : SM) (Q : SM → Prop) : Prop := JT M d 0 0 pc lv [] (std s) (KQv Q)
/-- a call -/
def KI (M : MT) (d : Nat) (as : List Value) (s : SM) (Q : Int32 → SM → Prop) : Prop := BI M d 0 (lv_args 0 as) s Q
def KV (M : MT) (d : Nat) (as : List Value) (s : SM) (Q : SM → Prop) : Prop := BV M d 0 (lv_args 0 as) s Q

theorem JS_iret {M : MT} {d : Nat} {pc : Nat} {lv : List (Nat × Value)} {s : SM} {Q : Int32 → SM → Prop} {x : Int32} {ty : FieldType} (hd : decode M.2.2.1 pc = .ok (.ireturn, 1)) (hr : M.2.2.2.2 = some ty) (hn : narrow ty (.int x) = .int x) (k : Q x s) : JT M d 0 0 pc lv [.int x] (std s) (KQ Q) := JT_iret (st := []) hd hr hn ⟨trivial, x, s, rfl, rfl, k⟩
theorem JS_vret {M : MT} {d : Nat} {pc : Nat} {lv : List (Nat × Value)} {s : SM} {Q : SM → Prop} (hd : decode M.2.2.1 pc = .ok (.return_, 1)) (hr : M.2.2.2.2 = none) (k : Q s) : JT M d 0 0 pc lv [] (std s) (KQv Q) := JT_vret (st := []) hd hr ⟨trivial, s, rfl, rfl, k⟩
theorem n01 {x : Int32} (h : x = 0 ∨ x = 1) : narrow .boolean (.int x) = .int x := by rcases h with rfl | rfl <;> rfl
theorem JS_getI {M : MT} {d : Nat} {pc : Nat} {lv : List (Nat × Value)} {st : List Value} {s : SM} {Q : Option Value → JMem → Prop} {idx ci j a : Nat} {fin : Bool} (hd : decode M.2.2.1 pc = .ok (.getfield idx, 3)) (hf : jFL M.1 idx ci j fin) (hb : BS a = (none, ci)) (h2 : 2 ≤ a) (hN : a < 279) (ht : CFT ci j = .int ∨ CFT ci j = .boolean) (k : JT M d 0 0 (pc + 3) lv (.int (gI s a j) :: st) (std s) Q) : JT M d 0 0 pc lv (.ref a :: st) (std s) Q := JT_getI hd hf hb h2 hN ht k
theorem JS_getL {M : MT} {d : Nat} {pc : Nat} {lv : List (Nat × Value)} {st : List Value} {s : SM} {Q : Option Value → JMem → Prop} {idx ci j a : Nat} {fin : Bool} (hd : decode M.2.2.1 pc = .ok (.getfield idx, 3)) (hf : jFL M.1 idx ci j fin) (hb : BS a = (none, ci)) (h2 : 2 ≤ a) (hN : a < 279) (ht : CFT ci j = .long) (k : JT M d 0 0 (pc + 3) lv (.long (gL s a j) :: st) (std s) Q) : JT M d 0 0 pc lv (.ref a :: st) (std s) Q := JT_getL hd hf hb h2 hN ht k
theorem JS_getR {M : MT} {d : Nat} {pc : Nat} {lv : List (Nat × Value)} {st : List Value} {s : SM} {Q : Option Value → JMem → Prop} {idx ci j a x : Nat} {fin : Bool} (hd : decode M.2.2.1 pc = .ok (.getfield idx, 3)) (hf : jFL M.1 idx ci j fin) (hb : BS a = (none, ci)) (h2 : 2 ≤ a) (hN : a < 279) (ht : (∃ C, CFT ci j = .object C) ∨ ∃ t, CFT ci j = .array t) (hr : RFd (gD s) a j = some x) (k : JT M d 0 0 (pc + 3) lv (.ref x :: st) (std s) Q) : JT M d 0 0 pc lv (.ref a :: st) (std s) Q := JT_getR hd hf hb h2 hN ht hr k
theorem JS_putI {M : MT} {d : Nat} {pc : Nat} {lv : List (Nat × Value)} {st : List Value} {s : SM} {Q : Option Value → JMem → Prop} {idx ci j a : Nat} {x : Int32} (hd : decode M.2.2.1 pc = .ok (.putfield idx, 3)) (hf : jFL M.1 idx ci j false) (hb : BS a = (none, ci)) (h2 : 2 ≤ a) (hN : a < 279) (ht : CFT ci j = .int) (k : JT M d 0 0 (pc + 3) lv st (std (pI s a j x)) Q) : JT M d 0 0 pc lv (.int x :: .ref a :: st) (std s) Q := JT_putI hd hf hb h2 hN ht k
theorem JS_putZ {M : MT} {d : Nat} {pc : Nat} {lv : List (Nat × Value)} {st : List Value} {s : SM} {Q : Option Value → JMem → Prop} {idx ci j a : Nat} {x : Int32} (hd : decode M.2.2.1 pc = .ok (.putfield idx, 3)) (hf : jFL M.1 idx ci j false) (hb : BS a = (none, ci)) (h2 : 2 ≤ a) (hN : a < 279) (ht : CFT ci j = .boolean) (h01 : x = 0 ∨ x = 1) (k : JT M d 0 0 (pc + 3) lv st (std (pI s a j x)) Q) : JT M d 0 0 pc lv (.int x :: .ref a :: st) (std s) Q := JT_putZ hd hf hb h2 hN ht h01 k
theorem JS_putL {M : MT} {d : Nat} {pc : Nat} {lv : List (Nat × Value)} {st : List Value} {s : SM} {Q : Option Value → JMem → Prop} {idx ci j a : Nat} {x : Int64} (hd : decode M.2.2.1 pc = .ok (.putfield idx, 3)) (hf : jFL M.1 idx ci j false) (hb : BS a = (none, ci)) (h2 : 2 ≤ a) (hN : a < 279) (ht : CFT ci j = .long) (k : JT M d 0 0 (pc + 3) lv st (std (pL s a j x)) Q) : JT M d 0 0 pc lv (.long x :: .ref a :: st) (std s) Q := JT_putL hd hf hb h2 hN ht k
theorem JS_putD {M : MT} {d : Nat} {pc : Nat} {lv : List (Nat × Value)} {st : List Value} {s : SM} {Q : Option Value → JMem → Prop} {idx ci j a x kk : Nat} (hd : decode M.2.2.1 pc = .ok (.putfield idx, 3)) (hf : jFL M.1 idx ci j false) (hb : BS a = (none, ci)) (h2 : 2 ≤ a) (hN : a < 279) (ht : (∃ C, CFT ci j = .object C) ∨ ∃ t, CFT ci j = .array t) (hq : [(218, 4), (225, 10), (233, 11)][kk]? = some (a, j)) (k : JT M d 0 0 (pc + 3) lv st (std (pD s kk x)) Q) : JT M d 0 0 pc lv (.ref x :: .ref a :: st) (std s) Q := JT_putR hd hf hb h2 hN ht (by rw [std_pD s kk x (a, j) hq]; exact k)
theorem JS_iald {M : MT} {d : Nat} {pc : Nat} {lv : List (Nat × Value)} {st : List Value} {s : SM} {Q : Option Value → JMem → Prop} {a n : Nat} {i : Int32} (hd : decode M.2.2.1 pc = .ok (.iaload, 1)) (hb : BS a = (some .int, n)) (h2 : 2 ≤ a) (hN : a < 279) (hin : vp_in i n) (k : JT M d 0 0 (pc + 1) lv (.int (gI s a i.toNatClampNeg) :: st) (std s) Q) : JT M d 0 0 pc lv (.int i :: .ref a :: st) (std s) Q := JT_iald hd hb h2 hN hin k
theorem JS_bald {M : MT} {d : Nat} {pc : Nat} {lv : List (Nat × Value)} {st : List Value} {s : SM} {Q : Option Value → JMem → Prop} {a n : Nat} {i : Int32} (hd : decode M.2.2.1 pc = .ok (.baload, 1)) (hb : BS a = (some .byte, n)) (h2 : 2 ≤ a) (hN : a < 279) (hin : vp_in i n) (k : JT M d 0 0 (pc + 1) lv (.int (gI s a i.toNatClampNeg) :: st) (std s) Q) : JT M d 0 0 pc lv (.int i :: .ref a :: st) (std s) Q := JT_bald hd hb h2 hN hin k
theorem JS_zald {M : MT} {d : Nat} {pc : Nat} {lv : List (Nat × Value)} {st : List Value} {s : SM} {Q : Option Value → JMem → Prop} {a n : Nat} {i : Int32} (hd : decode M.2.2.1 pc = .ok (.baload, 1)) (hb : BS a = (some .boolean, n)) (h2 : 2 ≤ a) (hN : a < 279) (hin : vp_in i n) (k : JT M d 0 0 (pc + 1) lv (.int (gI s a i.toNatClampNeg) :: st) (std s) Q) : JT M d 0 0 pc lv (.int i :: .ref a :: st) (std s) Q := JT_zald hd hb h2 hN hin k
theorem JS_lald {M : MT} {d : Nat} {pc : Nat} {lv : List (Nat × Value)} {st : List Value} {s : SM} {Q : Option Value → JMem → Prop} {a n : Nat} {i : Int32} (hd : decode M.2.2.1 pc = .ok (.laload, 1)) (hb : BS a = (some .long, n)) (h2 : 2 ≤ a) (hN : a < 279) (hin : vp_in i n) (k : JT M d 0 0 (pc + 1) lv (.long (gL s a i.toNatClampNeg) :: st) (std s) Q) : JT M d 0 0 pc lv (.int i :: .ref a :: st) (std s) Q := JT_lald hd hb h2 hN hin k
theorem JS_iast {M : MT} {d : Nat} {pc : Nat} {lv : List (Nat × Value)} {st : List Value} {s : SM} {Q : Option Value → JMem → Prop} {a n : Nat} {i : Int32} {x : Int32} (hd : decode M.2.2.1 pc = .ok (.iastore, 1)) (hb : BS a = (some .int, n)) (h2 : 2 ≤ a) (hN : a < 279) (hin : vp_in i n) (k : JT M d 0 0 (pc + 1) lv st (std (pI s a i.toNatClampNeg x)) Q) : JT M d 0 0 pc lv (.int x :: .int i :: .ref a :: st) (std s) Q := JT_iast hd hb h2 hN hin k
theorem JS_bast {M : MT} {d : Nat} {pc : Nat} {lv : List (Nat × Value)} {st : List Value} {s : SM} {Q : Option Value → JMem → Prop} {a n : Nat} {i : Int32} {x : Int32} (hd : decode M.2.2.1 pc = .ok (.bastore, 1)) (hb : BS a = (some .byte, n)) (h2 : 2 ≤ a) (hN : a < 279) (hin : vp_in i n) (k : JT M d 0 0 (pc + 1) lv st (std (pI s a i.toNatClampNeg (vp_nar .byte x))) Q) : JT M d 0 0 pc lv (.int x :: .int i :: .ref a :: st) (std s) Q := JT_bast hd hb h2 hN hin k
theorem JS_zast {M : MT} {d : Nat} {pc : Nat} {lv : List (Nat × Value)} {st : List Value} {s : SM} {Q : Option Value → JMem → Prop} {a n : Nat} {i : Int32} {x : Int32} (hd : decode M.2.2.1 pc = .ok (.bastore, 1)) (hb : BS a = (some .boolean, n)) (h2 : 2 ≤ a) (hN : a < 279) (hin : vp_in i n) (k : JT M d 0 0 (pc + 1) lv st (std (pI s a i.toNatClampNeg (vp_nar .boolean x))) Q) : JT M d 0 0 pc lv (.int x :: .int i :: .ref a :: st) (std s) Q := JT_zast hd hb h2 hN hin k
theorem JS_last {M : MT} {d : Nat} {pc : Nat} {lv : List (Nat × Value)} {st : List Value} {s : SM} {Q : Option Value → JMem → Prop} {a n : Nat} {i : Int32} {x : Int64} (hd : decode M.2.2.1 pc = .ok (.lastore, 1)) (hb : BS a = (some .long, n)) (h2 : 2 ≤ a) (hN : a < 279) (hin : vp_in i n) (k : JT M d 0 0 (pc + 1) lv st (std (pL s a i.toNatClampNeg x)) Q) : JT M d 0 0 pc lv (.long x :: .int i :: .ref a :: st) (std s) Q := JT_last hd hb h2 hN hin k
theorem JS_aald {M : MT} {d : Nat} {pc : Nat} {lv : List (Nat × Value)} {st : List Value} {s : SM} {Q : Option Value → JMem → Prop} {a n x : Nat} {i : Int32} {C : String} (hd : decode M.2.2.1 pc = .ok (.aaload, 1)) (hb : BS a = (some (.object C), n)) (h2 : 2 ≤ a) (hN : a < 279) (hin : vp_in i n) (hr : RFd (gD s) a i.toNatClampNeg = some x) (k : JT M d 0 0 (pc + 1) lv (.ref x :: st) (std s) Q) : JT M d 0 0 pc lv (.int i :: .ref a :: st) (std s) Q := JT_aald hd hb h2 hN hin hr k
theorem JS_copyI {M : MT} {d : Nat} {pc : Nat} {lv : List (Nat × Value)} {st : List Value} {s : SM} {Q : Option Value → JMem → Prop} {idx d2 a b na nb : Nat} {sp dp n : Int32} (hd : decode M.2.2.1 pc = .ok (.invokestatic idx, 3)) (hw : Cond.methodLink M.1 idx arraycopyName ∈ TS) (hb : BS b = (some .int, nb)) (h2 : 2 ≤ b) (hN : b < 279) (hba : BS a = (some .int, na)) (ha2 : 2 ≤ a) (haN : a < 279) (h1 : ¬ sp < 0) (h3 : ¬ dp < 0) (h4 : ¬ n < 0) (h5 : sp.toNatClampNeg + n.toNatClampNeg ≤ na) (h6 : dp.toNatClampNeg + n.toNatClampNeg ≤ nb) (hcat : (st.map fun v => v.category).sum ≤ 8) (hdd : d = d2 + 1) (k : JT M d 0 0 (pc + 3) lv st (std (cI s b (va_cpy (gI s a) (gI s b) sp.toNatClampNeg dp.toNatClampNeg n.toNatClampNeg))) Q) : JT M d 0 0 pc lv (.int n :: .int dp :: .ref b :: .int sp :: .ref a :: st) (std s) Q := JT_copyI hd hw hb h2 hN hba ha2 haN h1 h3 h4 h5 h6 hcat hdd k
theorem JS_copyL {M : MT} {d : Nat} {pc : Nat} {lv : List (Nat × Value)} {st : List Value} {s : SM} {Q : Option Value → JMem → Prop} {idx d2 a b na nb : Nat} {sp dp n : Int32} (hd : decode M.2.2.1 pc = .ok (.invokestatic idx, 3)) (hw : Cond.methodLink M.1 idx arraycopyName ∈ TS) (hb : BS b = (some .long, nb)) (h2 : 2 ≤ b) (hN : b < 279) (hba : BS a = (some .long, na)) (ha2 : 2 ≤ a) (haN : a < 279) (h1 : ¬ sp < 0) (h3 : ¬ dp < 0) (h4 : ¬ n < 0) (h5 : sp.toNatClampNeg + n.toNatClampNeg ≤ na) (h6 : dp.toNatClampNeg + n.toNatClampNeg ≤ nb) (hcat : (st.map fun v => v.category).sum ≤ 8) (hdd : d = d2 + 1) (k : JT M d 0 0 (pc + 3) lv st (std (cL s b (va_cpy (gL s a) (gL s b) sp.toNatClampNeg dp.toNatClampNeg n.toNatClampNeg))) Q) : JT M d 0 0 pc lv (.int n :: .int dp :: .ref b :: .int sp :: .ref a :: st) (std s) Q := JT_copyL hd hw hb h2 hN hba ha2 haN h1 h3 h4 h5 h6 hcat hdd k
theorem JS_callVI {M M' : MT} {d d' : Nat} {pc : Nat} {lv : List (Nat × Value)} {st : List Value} {s : SM} {Q : Option Value → JMem → Prop} {P : Int32 → SM → Prop} {As rest : List Value} {idx : Nat} {b ci : Nat} (hd : decode M.2.2.1 pc = .ok (.invokevirtual idx, 3)) (hcv : jCV M.1 idx M') (hok : jOK M' As.length) (hst : st = As.reverse ++ .ref b :: rest) (hcat : (rest.map fun v => v.category).sum ≤ 8) (hb : BS b = (none, ci)) (h2 : 2 ≤ b) (hN : b < 279) (hci : ∃ T N, vwCl[ci]? = some (M'.1, T, N)) (hlen : (lg_sl (.ref b :: As)).length ≤ M'.2.2.2.1) (hlev : d' + 1 ≤ d) (hC : KI M' d' (.ref b :: As) s P) (k : ∀ x s1, P x s1 → JT M d 0 0 (pc + 3) lv (.int x :: rest) (std s1) Q) : JT M d 0 0 pc lv st (std s) Q := by
  obtain ⟨d9, rfl⟩ : ∃ d9, d = d9 + 1 := ⟨d - 1, by omega⟩
  refine JT_callV (mc1 := 0) (ms1 := 0) (mc := 0) (ms := 0) hd hcv hok hst hcat hb h2 hN hci hlen (JT_room hC (by omega) (Nat.le_refl _) (Nat.le_refl _)) (fun v m1 hq => ?_)
  obtain ⟨x, s1, rfl, rfl, hp⟩ := hq
  exact k x s1 hp
theorem JS_callVV {M M' : MT} {d d' : Nat} {pc : Nat} {lv : List (Nat × Value)} {st : List Value} {s : SM} {Q : Option Value → JMem → Prop} {P : SM → Prop} {As rest : List Value} {idx : Nat} {b ci : Nat} (hd : decode M.2.2.1 pc = .ok (.invokevirtual idx, 3)) (hcv : jCV M.1 idx M') (hok : jOK M' As.length) (hst : st = As.reverse ++ .ref b :: rest) (hcat : (rest.map fun v => v.category).sum ≤ 8) (hb : BS b = (none, ci)) (h2 : 2 ≤ b) (hN : b < 279) (hci : ∃ T N, vwCl[ci]? = some (M'.1, T, N)) (hlen : (lg_sl (.ref b :: As)).length ≤ M'.2.2.2.1) (hlev : d' + 1 ≤ d) (hC : KV M' d' (.ref b :: As) s P) (k : ∀ s1, P s1 → JT M d 0 0 (pc + 3) lv rest (std s1) Q) : JT M d 0 0 pc lv st (std s) Q := by
  obtain ⟨d9, rfl⟩ : ∃ d9, d = d9 + 1 := ⟨d - 1, by omega⟩
  refine JT_callV (mc1 := 0) (ms1 := 0) (mc := 0) (ms := 0) hd hcv hok hst hcat hb h2 hN hci hlen (JT_room hC (by omega) (Nat.le_refl _) (Nat.le_refl _)) (fun v m1 hq => ?_)
  obtain ⟨s1, rfl, rfl, hp⟩ := hq
  exact k s1 hp
theorem JS_callSI {M M' : MT} {d d' : Nat} {pc : Nat} {lv : List (Nat × Value)} {st : List Value} {s : SM} {Q : Option Value → JMem → Prop} {P : Int32 → SM → Prop} {As rest : List Value} {idx : Nat} (hd : decode M.2.2.1 pc = .ok (.invokestatic idx, 3)) (hcv : jCS M.1 idx M') (hok : jOK M' As.length) (hst : st = As.reverse ++ rest) (hcat : (rest.map fun v => v.category).sum ≤ 8) (hlen : (lg_sl As).length ≤ M'.2.2.2.1) (hlev : d' + 1 ≤ d) (hC : KI M' d' As s P) (k : ∀ x s1, P x s1 → JT M d 0 0 (pc + 3) lv (.int x :: rest) (std s1) Q) : JT M d 0 0 pc lv st (std s) Q := by
  obtain ⟨d9, rfl⟩ : ∃ d9, d = d9 + 1 := ⟨d - 1, by omega⟩
  refine JT_callS (mc1 := 0) (ms1 := 0) (mc := 0) (ms := 0) hd hcv hok hst hcat hlen (JT_room hC (by omega) (Nat.le_refl _) (Nat.le_refl _)) (fun v m1 hq => ?_)
  obtain ⟨x, s1, rfl, rfl, hp⟩ := hq
  exact k x s1 hp
theorem JS_callSV {M M' : MT} {d d' : Nat} {pc : Nat} {lv : List (Nat × Value)} {st : List Value} {s : SM} {Q : Option Value → JMem → Prop} {P : SM → Prop} {As rest : List Value} {idx : Nat} (hd : decode M.2.2.1 pc = .ok (.invokestatic idx, 3)) (hcv : jCS M.1 idx M') (hok : jOK M' As.length) (hst : st = As.reverse ++ rest) (hcat : (rest.map fun v => v.category).sum ≤ 8) (hlen : (lg_sl As).length ≤ M'.2.2.2.1) (hlev : d' + 1 ≤ d) (hC : KV M' d' As s P) (k : ∀ s1, P s1 → JT M d 0 0 (pc + 3) lv rest (std s1) Q) : JT M d 0 0 pc lv st (std s) Q := by
  obtain ⟨d9, rfl⟩ : ∃ d9, d = d9 + 1 := ⟨d - 1, by omega⟩
  refine JT_callS (mc1 := 0) (ms1 := 0) (mc := 0) (ms := 0) hd hcv hok hst hcat hlen (JT_room hC (by omega) (Nat.le_refl _) (Nat.le_refl _)) (fun v m1 hq => ?_)
  obtain ⟨s1, rfl, rfl, hp⟩ := hq
  exact k s1 hp
theorem JS_callSNI {M M' : MT} {d d' : Nat} {pc : Nat} {lv : List (Nat × Value)} {st : List Value} {s : SM} {Q : Option Value → JMem → Prop} {P : Int32 → SM → Prop} {As rest : List Value} {idx : Nat} (hd : decode M.2.2.1 pc = .ok (.invokestatic idx, 3)) (hcv : jCSN M.1 idx M') (hok : jOK M' As.length) (hst : st = As.reverse ++ rest) (hcat : (rest.map fun v => v.category).sum ≤ 8) (hlen : (lg_sl As).length ≤ M'.2.2.2.1) (hlev : d' + 1 ≤ d) (hC : KI M' d' As s P) (k : ∀ x s1, P x s1 → JT M d 0 0 (pc + 3) lv (.int x :: rest) (std s1) Q) : JT M d 0 0 pc lv st (std s) Q := by
  obtain ⟨d9, rfl⟩ : ∃ d9, d = d9 + 1 := ⟨d - 1, by omega⟩
  refine JT_callSN (mc1 := 0) (ms1 := 0) (mc := 0) (ms := 0) hd hcv hok hst hcat hlen (JT_room hC (by omega) (Nat.le_refl _) (Nat.le_refl _)) (fun v m1 hq => ?_)
  obtain ⟨x, s1, rfl, rfl, hp⟩ := hq
  exact k x s1 hp
theorem JS_callSNV {M M' : MT} {d d' : Nat} {pc : Nat} {lv : List (Nat × Value)} {st : List Value} {s : SM} {Q : Option Value → JMem → Prop} {P : SM → Prop} {As rest : List Value} {idx : Nat} (hd : decode M.2.2.1 pc = .ok (.invokestatic idx, 3)) (hcv : jCSN M.1 idx M') (hok : jOK M' As.length) (hst : st = As.reverse ++ rest) (hcat : (rest.map fun v => v.category).sum ≤ 8) (hlen : (lg_sl As).length ≤ M'.2.2.2.1) (hlev : d' + 1 ≤ d) (hC : KV M' d' As s P) (k : ∀ s1, P s1 → JT M d 0 0 (pc + 3) lv rest (std s1) Q) : JT M d 0 0 pc lv st (std s) Q := by
  obtain ⟨d9, rfl⟩ : ∃ d9, d = d9 + 1 := ⟨d - 1, by omega⟩
  refine JT_callSN (mc1 := 0) (ms1 := 0) (mc := 0) (ms := 0) hd hcv hok hst hcat hlen (JT_room hC (by omega) (Nat.le_refl _) (Nat.le_refl _)) (fun v m1 hq => ?_)
  obtain ⟨s1, rfl, rfl, hp⟩ := hq
  exact k s1 hp
theorem KI_mono {M : MT} {d : Nat} {as : List Value} {s : SM} {P Q : Int32 → SM → Prop} (h : KI M d as s P) (k : ∀ x s1, P x s1 → Q x s1) : KI M d as s Q := JT_mono h (fun v m1 hq => by obtain ⟨h1, x, s1, h2, h3, h5⟩ := hq; exact ⟨h1, x, s1, h2, h3, k x s1 h5⟩)
theorem KV_mono {M : MT} {d : Nat} {as : List Value} {s : SM} {P Q : SM → Prop} (h : KV M d as s P) (k : ∀ s1, P s1 → Q s1) : KV M d as s Q := JT_mono h (fun v m1 hq => by obtain ⟨h1, s1, h2, h3, h5⟩ := hq; exact ⟨h1, s1, h2, h3, k s1 h5⟩)

def lxQ (q : Nat × Nat) : Bool := decide (2 ≤ q.1) && decide (q.1 + 12 ≤ 279) && decide (q.2 ∈ PX) && decide (BS q.1 = (none, 4)) && ([1,2,3,4,5,6,9,10,11].all (fun k => decide (BS (q.1 + k) = (some .int, 60)))) && ([7,8].all (fun k => decide (BS (q.1 + k) = (some .int, 9)))) && ([0,1,2,3,4,5,6,7].all (fun j => decide (RF q.1 j = some (q.1 + 1 + j)))) && ([11,12,13].all (fun j => decide (RF q.1 j = some (q.1 + j - 2)))) && decide (RF q.1 8 = some q.2) && decide (q.1 < 218)
theorem lx_all : LX.all lxQ = true := by decide +kernel
theorem lx (L P : Nat) (h : (L, P) ∈ LX) : lxQ (L, P) = true := List.all_eq_true.mp lx_all _ h
def pxQ (p : Nat) : Bool := decide (2 ≤ p) && decide (p + 7 ≤ 279) && decide (BS p = (none, 6)) && ([(1, some .long, 9), (2, some .int, 9), (3, some .int, 9), (4, some .long, 6), (5, some .int, 6), (6, some .int, 6)].all (fun (q : Nat × Option FieldType × Nat) => decide (BS (p + q.1) = q.2))) && ([0,1,2,3,4,5].all (fun j => decide (RF p j = some (p + 1 + j)))) && decide (p < 218)
theorem px_all : PX.all pxQ = true := by decide +kernel
theorem px (p : Nat) (h : p ∈ PX) : pxQ p = true := List.all_eq_true.mp px_all _ h
def bxQ (p : Nat) : Bool := decide (2 ≤ p) && decide (p + 6 ≤ 279) && decide (BS p = (none, 0)) && ([1,2,3,4,5].all (fun k => decide (BS (p + k) = (some .int, 40)))) && ([1,2,3,4,5].all (fun j => decide (RF p j = some (p + j)))) && decide (p < 218)
theorem bx_all : BX.all bxQ = true := by decide +kernel
theorem bx (p : Nat) (h : p ∈ BX) : bxQ p = true := List.all_eq_true.mp bx_all _ h
def ixQ (q : Nat × Nat × Nat × Nat) : Bool := decide (2 ≤ q.1) && decide (q.1 < 218) && decide (BS q.1 = (none, 3)) && decide (RF q.1 1 = some q.2.1) && decide (RF q.1 2 = some q.2.2.1) && decide (RF q.1 3 = some q.2.2.2) && decide (q.2.1 ∈ PX) && decide ((q.2.2.1, q.2.1) ∈ LX) && decide (q.2.2.2 ∈ BX)
theorem ix_all : IX.all ixQ = true := by decide +kernel
theorem ix (I P L B : Nat) (h : (I, P, L, B) ∈ IX) : ixQ (I, P, L, B) = true := List.all_eq_true.mp ix_all _ h
theorem RFd_lo {f : Nat → Option Nat} {a j : Nat} (h : a < 218) : RFd f a j = RF a j := by
  unfold RFd
  rw [if_neg (by omega), if_neg (by omega), if_neg (by omega)]
theorem RFd_arr {f : Nat → Option Nat} {a j : Nat} (h : a = 165 ∨ a = 56) : RFd f a j = RF a j := RFd_lo (by omega)

theorem lxB {L P : Nat} (hL : (L, P) ∈ LX) : BS L = (none, 4) := by have h := lx L P hL; simp only [lxQ, Bool.and_eq_true, decide_eq_true_eq, List.all_cons, List.all_nil, and_true] at h; simp [h]
theorem lxB1 {L P : Nat} (hL : (L, P) ∈ LX) : BS (L + 1) = (some .int, 60) := by have h := lx L P hL; simp only [lxQ, Bool.and_eq_true, decide_eq_true_eq, List.all_cons, List.all_nil, and_true] at h; simp [h]
theorem lxB2 {L P : Nat} (hL : (L, P) ∈ LX) : BS (L + 2) = (some .int, 60) := by have h := lx L P hL; simp only [lxQ, Bool.and_eq_true, decide_eq_true_eq, List.all_cons, List.all_nil, and_true] at h; simp [h]
theorem lxB3 {L P : Nat} (hL : (L, P) ∈ LX) : BS (L + 3) = (some .int, 60) := by have h := lx L P hL; simp only [lxQ, Bool.and_eq_true, decide_eq_true_eq, List.all_cons, List.all_nil, and_true] at h; simp [h]
theorem lxB4 {L P : Nat} (hL : (L, P) ∈ LX) : BS (L + 4) = (some .int, 60) := by have h := lx L P hL; simp only [lxQ, Bool.and_eq_true, decide_eq_true_eq, List.all_cons, List.all_nil, and_true] at h; simp [h]
theorem lxB5 {L P : Nat} (hL : (L, P) ∈ LX) : BS (L + 5) = (some .int, 60) := by have h := lx L P hL; simp only [lxQ, Bool.and_eq_true, decide_eq_true_eq, List.all_cons, List.all_nil, and_true] at h; simp [h]
theorem lxB6 {L P : Nat} (hL : (L, P) ∈ LX) : BS (L + 6) = (some .int, 60) := by have h := lx L P hL; simp only [lxQ, Bool.and_eq_true, decide_eq_true_eq, List.all_cons, List.all_nil, and_true] at h; simp [h]
theorem lxB9 {L P : Nat} (hL : (L, P) ∈ LX) : BS (L + 9) = (some .int, 60) := by have h := lx L P hL; simp only [lxQ, Bool.and_eq_true, decide_eq_true_eq, List.all_cons, List.all_nil, and_true] at h; simp [h]
theorem lxB10 {L P : Nat} (hL : (L, P) ∈ LX) : BS (L + 10) = (some .int, 60) := by have h := lx L P hL; simp only [lxQ, Bool.and_eq_true, decide_eq_true_eq, List.all_cons, List.all_nil, and_true] at h; simp [h]
theorem lxB11 {L P : Nat} (hL : (L, P) ∈ LX) : BS (L + 11) = (some .int, 60) := by have h := lx L P hL; simp only [lxQ, Bool.and_eq_true, decide_eq_true_eq, List.all_cons, List.all_nil, and_true] at h; simp [h]
theorem lxB7 {L P : Nat} (hL : (L, P) ∈ LX) : BS (L + 7) = (some .int, 9) := by have h := lx L P hL; simp only [lxQ, Bool.and_eq_true, decide_eq_true_eq, List.all_cons, List.all_nil, and_true] at h; simp [h]
theorem lxB8 {L P : Nat} (hL : (L, P) ∈ LX) : BS (L + 8) = (some .int, 9) := by have h := lx L P hL; simp only [lxQ, Bool.and_eq_true, decide_eq_true_eq, List.all_cons, List.all_nil, and_true] at h; simp [h]
theorem lx_r {L P : Nat} (hL : (L, P) ∈ LX) : 2 ≤ L ∧ L + 12 ≤ 279 ∧ L < 218 := by have h := lx L P hL; simp only [lxQ, Bool.and_eq_true, decide_eq_true_eq, List.all_cons, List.all_nil, and_true] at h; simp [h]
theorem lx2 {L P : Nat} (hL : (L, P) ∈ LX) : 2 ≤ L := (lx_r hL).1
theorem lxN {L P : Nat} (hL : (L, P) ∈ LX) : L < 279 := by have := lx_r hL; omega
theorem lx2k {L P : Nat} (hL : (L, P) ∈ LX) (k : Nat) : 2 ≤ L + k := by have := lx_r hL; omega
theorem lxNk {L P : Nat} (hL : (L, P) ∈ LX) {k : Nat} (hk : k < 12) : L + k < 279 := by have := lx_r hL; omega
theorem lxP {L P : Nat} (hL : (L, P) ∈ LX) : P ∈ PX := by have h := lx L P hL; simp only [lxQ, Bool.and_eq_true, decide_eq_true_eq, List.all_cons, List.all_nil, and_true] at h; simp [h]
theorem lxR0 {L P : Nat} (hL : (L, P) ∈ LX) {f : Nat → Option Nat} : RFd f L 0 = some (L + 1) := by rw [RFd_lo (lx_r hL).2.2]; revert hL; intro hL; have h : RF L 0 = some (L + 1 + 0) := (by have h := lx L P hL; simp only [lxQ, Bool.and_eq_true, decide_eq_true_eq, List.all_cons, List.all_nil, and_true] at h; simp [h]); rw [h]
theorem lxR1 {L P : Nat} (hL : (L, P) ∈ LX) {f : Nat → Option Nat} : RFd f L 1 = some (L + 2) := by rw [RFd_lo (lx_r hL).2.2]; revert hL; intro hL; have h : RF L 1 = some (L + 1 + 1) := (by have h := lx L P hL; simp only [lxQ, Bool.and_eq_true, decide_eq_true_eq, List.all_cons, List.all_nil, and_true] at h; simp [h]); rw [h]
theorem lxR2 {L P : Nat} (hL : (L, P) ∈ LX) {f : Nat → Option Nat} : RFd f L 2 = some (L + 3) := by rw [RFd_lo (lx_r hL).2.2]; revert hL; intro hL; have h : RF L 2 = some (L + 1 + 2) := (by have h := lx L P hL; simp only [lxQ, Bool.and_eq_true, decide_eq_true_eq, List.all_cons, List.all_nil, and_true] at h; simp [h]); rw [h]
theorem lxR3 {L P : Nat} (hL : (L, P) ∈ LX) {f : Nat → Option Nat} : RFd f L 3 = some (L + 4) := by rw [RFd_lo (lx_r hL).2.2]; revert hL; intro hL; have h : RF L 3 = some (L + 1 + 3) := (by have h := lx L P hL; simp only [lxQ, Bool.and_eq_true, decide_eq_true_eq, List.all_cons, List.all_nil, and_true] at h; simp [h]); rw [h]
theorem lxR4 {L P : Nat} (hL : (L, P) ∈ LX) {f : Nat → Option Nat} : RFd f L 4 = some (L + 5) := by rw [RFd_lo (lx_r hL).2.2]; revert hL; intro hL; have h : RF L 4 = some (L + 1 + 4) := (by have h := lx L P hL; simp only [lxQ, Bool.and_eq_true, decide_eq_true_eq, List.all_cons, List.all_nil, and_true] at h; simp [h]); rw [h]
theorem lxR5 {L P : Nat} (hL : (L, P) ∈ LX) {f : Nat → Option Nat} : RFd f L 5 = some (L + 6) := by rw [RFd_lo (lx_r hL).2.2]; revert hL; intro hL; have h : RF L 5 = some (L + 1 + 5) := (by have h := lx L P hL; simp only [lxQ, Bool.and_eq_true, decide_eq_true_eq, List.all_cons, List.all_nil, and_true] at h; simp [h]); rw [h]
theorem lxR6 {L P : Nat} (hL : (L, P) ∈ LX) {f : Nat → Option Nat} : RFd f L 6 = some (L + 7) := by rw [RFd_lo (lx_r hL).2.2]; revert hL; intro hL; have h : RF L 6 = some (L + 1 + 6) := (by have h := lx L P hL; simp only [lxQ, Bool.and_eq_true, decide_eq_true_eq, List.all_cons, List.all_nil, and_true] at h; simp [h]); rw [h]
theorem lxR7 {L P : Nat} (hL : (L, P) ∈ LX) {f : Nat → Option Nat} : RFd f L 7 = some (L + 8) := by rw [RFd_lo (lx_r hL).2.2]; revert hL; intro hL; have h : RF L 7 = some (L + 1 + 7) := (by have h := lx L P hL; simp only [lxQ, Bool.and_eq_true, decide_eq_true_eq, List.all_cons, List.all_nil, and_true] at h; simp [h]); rw [h]
theorem lxR11 {L P : Nat} (hL : (L, P) ∈ LX) {f : Nat → Option Nat} : RFd f L 11 = some (L + 9) := by rw [RFd_lo (lx_r hL).2.2]; have h : RF L 11 = some (L + 11 - 2) := (by have h := lx L P hL; simp only [lxQ, Bool.and_eq_true, decide_eq_true_eq, List.all_cons, List.all_nil, and_true] at h; simp [h]); rw [h]; rfl
theorem lxR12 {L P : Nat} (hL : (L, P) ∈ LX) {f : Nat → Option Nat} : RFd f L 12 = some (L + 10) := by rw [RFd_lo (lx_r hL).2.2]; have h : RF L 12 = some (L + 12 - 2) := (by have h := lx L P hL; simp only [lxQ, Bool.and_eq_true, decide_eq_true_eq, List.all_cons, List.all_nil, and_true] at h; simp [h]); rw [h]; rfl
theorem lxR13 {L P : Nat} (hL : (L, P) ∈ LX) {f : Nat → Option Nat} : RFd f L 13 = some (L + 11) := by rw [RFd_lo (lx_r hL).2.2]; have h : RF L 13 = some (L + 13 - 2) := (by have h := lx L P hL; simp only [lxQ, Bool.and_eq_true, decide_eq_true_eq, List.all_cons, List.all_nil, and_true] at h; simp [h]); rw [h]; rfl
theorem lxR8 {L P : Nat} (hL : (L, P) ∈ LX) {f : Nat → Option Nat} : RFd f L 8 = some P := by rw [RFd_lo (lx_r hL).2.2]; have h := lx L P hL; simp only [lxQ, Bool.and_eq_true, decide_eq_true_eq, List.all_cons, List.all_nil, and_true] at h; simp [h]
theorem pxB {p : Nat} (hp : p ∈ PX) : BS p = (none, 6) := by have h := px p hp; simp only [pxQ, Bool.and_eq_true, decide_eq_true_eq, List.all_cons, List.all_nil, and_true] at h; simp [h]
theorem pxB1 {p : Nat} (hp : p ∈ PX) : BS (p + 1) = (some .long, 9) := by have h := px p hp; simp only [pxQ, Bool.and_eq_true, decide_eq_true_eq, List.all_cons, List.all_nil, and_true] at h; simp [h]
theorem pxB2 {p : Nat} (hp : p ∈ PX) : BS (p + 2) = (some .int, 9) := by have h := px p hp; simp only [pxQ, Bool.and_eq_true, decide_eq_true_eq, List.all_cons, List.all_nil, and_true] at h; simp [h]
theorem pxB3 {p : Nat} (hp : p ∈ PX) : BS (p + 3) = (some .int, 9) := by have h := px p hp; simp only [pxQ, Bool.and_eq_true, decide_eq_true_eq, List.all_cons, List.all_nil, and_true] at h; simp [h]
theorem pxB4 {p : Nat} (hp : p ∈ PX) : BS (p + 4) = (some .long, 6) := by have h := px p hp; simp only [pxQ, Bool.and_eq_true, decide_eq_true_eq, List.all_cons, List.all_nil, and_true] at h; simp [h]
theorem pxB5 {p : Nat} (hp : p ∈ PX) : BS (p + 5) = (some .int, 6) := by have h := px p hp; simp only [pxQ, Bool.and_eq_true, decide_eq_true_eq, List.all_cons, List.all_nil, and_true] at h; simp [h]
theorem pxB6 {p : Nat} (hp : p ∈ PX) : BS (p + 6) = (some .int, 6) := by have h := px p hp; simp only [pxQ, Bool.and_eq_true, decide_eq_true_eq, List.all_cons, List.all_nil, and_true] at h; simp [h]
theorem px_r {p : Nat} (hp : p ∈ PX) : 2 ≤ p ∧ p + 7 ≤ 279 ∧ p < 218 := by have h := px p hp; simp only [pxQ, Bool.and_eq_true, decide_eq_true_eq, List.all_cons, List.all_nil, and_true] at h; simp [h]
theorem px2 {p : Nat} (hp : p ∈ PX) : 2 ≤ p := (px_r hp).1
theorem pxN {p : Nat} (hp : p ∈ PX) : p < 279 := by have := px_r hp; omega
theorem px2k {p : Nat} (hp : p ∈ PX) (k : Nat) : 2 ≤ p + k := by have := px_r hp; omega
theorem pxNk {p : Nat} (hp : p ∈ PX) {k : Nat} (hk : k < 7) : p + k < 279 := by have := px_r hp; omega
theorem pxR0 {p : Nat} (hp : p ∈ PX) {f : Nat → Option Nat} : RFd f p 0 = some (p + 1) := by rw [RFd_lo (px_r hp).2.2]; have h : RF p 0 = some (p + 1 + 0) := (by have h := px p hp; simp only [pxQ, Bool.and_eq_true, decide_eq_true_eq, List.all_cons, List.all_nil, and_true] at h; simp [h]); rw [h]
theorem pxR1 {p : Nat} (hp : p ∈ PX) {f : Nat → Option Nat} : RFd f p 1 = some (p + 2) := by rw [RFd_lo (px_r hp).2.2]; have h : RF p 1 = some (p + 1 + 1) := (by have h := px p hp; simp only [pxQ, Bool.and_eq_true, decide_eq_true_eq, List.all_cons, List.all_nil, and_true] at h; simp [h]); rw [h]
theorem pxR2 {p : Nat} (hp : p ∈ PX) {f : Nat → Option Nat} : RFd f p 2 = some (p + 3) := by rw [RFd_lo (px_r hp).2.2]; have h : RF p 2 = some (p + 1 + 2) := (by have h := px p hp; simp only [pxQ, Bool.and_eq_true, decide_eq_true_eq, List.all_cons, List.all_nil, and_true] at h; simp [h]); rw [h]
theorem pxR3 {p : Nat} (hp : p ∈ PX) {f : Nat → Option Nat} : RFd f p 3 = some (p + 4) := by rw [RFd_lo (px_r hp).2.2]; have h : RF p 3 = some (p + 1 + 3) := (by have h := px p hp; simp only [pxQ, Bool.and_eq_true, decide_eq_true_eq, List.all_cons, List.all_nil, and_true] at h; simp [h]); rw [h]
theorem pxR4 {p : Nat} (hp : p ∈ PX) {f : Nat → Option Nat} : RFd f p 4 = some (p + 5) := by rw [RFd_lo (px_r hp).2.2]; have h : RF p 4 = some (p + 1 + 4) := (by have h := px p hp; simp only [pxQ, Bool.and_eq_true, decide_eq_true_eq, List.all_cons, List.all_nil, and_true] at h; simp [h]); rw [h]
theorem pxR5 {p : Nat} (hp : p ∈ PX) {f : Nat → Option Nat} : RFd f p 5 = some (p + 6) := by rw [RFd_lo (px_r hp).2.2]; have h : RF p 5 = some (p + 1 + 5) := (by have h := px p hp; simp only [pxQ, Bool.and_eq_true, decide_eq_true_eq, List.all_cons, List.all_nil, and_true] at h; simp [h]); rw [h]
theorem bxB {p : Nat} (hp : p ∈ BX) : BS p = (none, 0) := by have h := bx p hp; simp only [bxQ, Bool.and_eq_true, decide_eq_true_eq, List.all_cons, List.all_nil, and_true] at h; simp [h]
theorem bxB1 {p : Nat} (hp : p ∈ BX) : BS (p + 1) = (some .int, 40) := by have h := bx p hp; simp only [bxQ, Bool.and_eq_true, decide_eq_true_eq, List.all_cons, List.all_nil, and_true] at h; simp [h]
theorem bxB2 {p : Nat} (hp : p ∈ BX) : BS (p + 2) = (some .int, 40) := by have h := bx p hp; simp only [bxQ, Bool.and_eq_true, decide_eq_true_eq, List.all_cons, List.all_nil, and_true] at h; simp [h]
theorem bxB3 {p : Nat} (hp : p ∈ BX) : BS (p + 3) = (some .int, 40) := by have h := bx p hp; simp only [bxQ, Bool.and_eq_true, decide_eq_true_eq, List.all_cons, List.all_nil, and_true] at h; simp [h]
theorem bxB4 {p : Nat} (hp : p ∈ BX) : BS (p + 4) = (some .int, 40) := by have h := bx p hp; simp only [bxQ, Bool.and_eq_true, decide_eq_true_eq, List.all_cons, List.all_nil, and_true] at h; simp [h]
theorem bxB5 {p : Nat} (hp : p ∈ BX) : BS (p + 5) = (some .int, 40) := by have h := bx p hp; simp only [bxQ, Bool.and_eq_true, decide_eq_true_eq, List.all_cons, List.all_nil, and_true] at h; simp [h]
theorem bx_r {p : Nat} (hp : p ∈ BX) : 2 ≤ p ∧ p + 6 ≤ 279 ∧ p < 218 := by have h := bx p hp; simp only [bxQ, Bool.and_eq_true, decide_eq_true_eq, List.all_cons, List.all_nil, and_true] at h; simp [h]
theorem bx2 {p : Nat} (hp : p ∈ BX) : 2 ≤ p := (bx_r hp).1
theorem bxN {p : Nat} (hp : p ∈ BX) : p < 279 := by have := bx_r hp; omega
theorem bx2k {p : Nat} (hp : p ∈ BX) (k : Nat) : 2 ≤ p + k := by have := bx_r hp; omega
theorem bxNk {p : Nat} (hp : p ∈ BX) {k : Nat} (hk : k < 6) : p + k < 279 := by have := bx_r hp; omega
theorem bxR1 {p : Nat} (hp : p ∈ BX) {f : Nat → Option Nat} : RFd f p 1 = some (p + 1) := by rw [RFd_lo (bx_r hp).2.2]; have h := bx p hp; simp only [bxQ, Bool.and_eq_true, decide_eq_true_eq, List.all_cons, List.all_nil, and_true] at h; simp [h]
theorem bxR2 {p : Nat} (hp : p ∈ BX) {f : Nat → Option Nat} : RFd f p 2 = some (p + 2) := by rw [RFd_lo (bx_r hp).2.2]; have h := bx p hp; simp only [bxQ, Bool.and_eq_true, decide_eq_true_eq, List.all_cons, List.all_nil, and_true] at h; simp [h]
theorem bxR3 {p : Nat} (hp : p ∈ BX) {f : Nat → Option Nat} : RFd f p 3 = some (p + 3) := by rw [RFd_lo (bx_r hp).2.2]; have h := bx p hp; simp only [bxQ, Bool.and_eq_true, decide_eq_true_eq, List.all_cons, List.all_nil, and_true] at h; simp [h]
theorem bxR4 {p : Nat} (hp : p ∈ BX) {f : Nat → Option Nat} : RFd f p 4 = some (p + 4) := by rw [RFd_lo (bx_r hp).2.2]; have h := bx p hp; simp only [bxQ, Bool.and_eq_true, decide_eq_true_eq, List.all_cons, List.all_nil, and_true] at h; simp [h]
theorem bxR5 {p : Nat} (hp : p ∈ BX) {f : Nat → Option Nat} : RFd f p 5 = some (p + 5) := by rw [RFd_lo (bx_r hp).2.2]; have h := bx p hp; simp only [bxQ, Bool.and_eq_true, decide_eq_true_eq, List.all_cons, List.all_nil, and_true] at h; simp [h]
theorem ix_r {I P L B : Nat} (hi : (I, P, L, B) ∈ IX) : 2 ≤ I ∧ I < 218 := by have h := ix I P L B hi; simp only [ixQ, Bool.and_eq_true, decide_eq_true_eq, List.all_cons, List.all_nil, and_true] at h; simp [h]
theorem ixB {I P L B : Nat} (hi : (I, P, L, B) ∈ IX) : BS I = (none, 3) := by have h := ix I P L B hi; simp only [ixQ, Bool.and_eq_true, decide_eq_true_eq, List.all_cons, List.all_nil, and_true] at h; simp [h]
theorem ix2 {I P L B : Nat} (hi : (I, P, L, B) ∈ IX) : 2 ≤ I := (ix_r hi).1
theorem ixN {I P L B : Nat} (hi : (I, P, L, B) ∈ IX) : I < 279 := by have := ix_r hi; omega
theorem ixR1 {I P L B : Nat} (hi : (I, P, L, B) ∈ IX) {f : Nat → Option Nat} : RFd f I 1 = some P := by rw [RFd_lo (ix_r hi).2]; have h := ix I P L B hi; simp only [ixQ, Bool.and_eq_true, decide_eq_true_eq, List.all_cons, List.all_nil, and_true] at h; simp [h]
theorem ixR2 {I P L B : Nat} (hi : (I, P, L, B) ∈ IX) {f : Nat → Option Nat} : RFd f I 2 = some L := by rw [RFd_lo (ix_r hi).2]; have h := ix I P L B hi; simp only [ixQ, Bool.and_eq_true, decide_eq_true_eq, List.all_cons, List.all_nil, and_true] at h; simp [h]
theorem ixR3 {I P L B : Nat} (hi : (I, P, L, B) ∈ IX) {f : Nat → Option Nat} : RFd f I 3 = some B := by rw [RFd_lo (ix_r hi).2]; have h := ix I P L B hi; simp only [ixQ, Bool.and_eq_true, decide_eq_true_eq, List.all_cons, List.all_nil, and_true] at h; simp [h]
theorem ixP {I P L B : Nat} (hi : (I, P, L, B) ∈ IX) : P ∈ PX := by have h := ix I P L B hi; simp only [ixQ, Bool.and_eq_true, decide_eq_true_eq, List.all_cons, List.all_nil, and_true] at h; simp [h]
theorem ixL {I P L B : Nat} (hi : (I, P, L, B) ∈ IX) : (L, P) ∈ LX := by have h := ix I P L B hi; simp only [ixQ, Bool.and_eq_true, decide_eq_true_eq, List.all_cons, List.all_nil, and_true] at h; simp [h]
theorem ixBk {I P L B : Nat} (hi : (I, P, L, B) ∈ IX) : B ∈ BX := by have h := ix I P L B hi; simp only [ixQ, Bool.and_eq_true, decide_eq_true_eq, List.all_cons, List.all_nil, and_true] at h; simp [h]
