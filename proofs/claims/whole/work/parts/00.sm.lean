def rw1 {α : Type} (f : Nat → α) (c : Nat) (v : α) : Nat → α := fun c' => if c' = c then v else f c'
theorem rw1_s {α : Type} (f : Nat → α) (c : Nat) (v : α) : rw1 f c v c = v := by simp [rw1]
theorem rw1_n {α : Type} (f : Nat → α) {c k : Nat} (v : α) (h : k ≠ c) : rw1 f c v k = f k := by simp [rw1, h]
def RFL : List (List (Option Nat)) := [[], [], [some 3, some 5, some 12, some 19, some 25, some 31, some 43, some 55, some 165, some 218, some 225, some 233, some 240, some 244, some 246, none, some 247], [some 4], [], [some 6, some 7, some 8, some 9, some 10, some 11], [], [], [], [], [], [], [some 13, some 14, some 15, some 16, some 17, some 18], [], [], [], [], [], [], [none, some 20, some 21, some 22, some 23, some 24], [], [], [], [], [], [none, some 26, some 27, some 28, some 29, some 30], [], [], [], [], [], [some 32, some 33, some 34, some 35, some 36, some 37, some 38, some 39, some 5, none, none, some 40, some 41, some 42], [], [], [], [], [], [], [], [], [], [], [], [some 44, some 45, some 46, some 47, some 48, some 49, some 50, some 51, some 5, none, none, some 52, some 53, some 54], [], [], [], [], [], [], [], [], [], [], [], [some 56], [some 57, some 69, some 81, some 93, some 105, some 117, some 129, some 141, some 153], [some 58, some 59, some 60, some 61, some 62, some 63, some 64, some 65, some 5, none, none, some 66, some 67, some 68], [], [], [], [], [], [], [], [], [], [], [], [some 70, some 71, some 72, some 73, some 74, some 75, some 76, some 77, some 5, none, none, some 78, some 79, some 80], [], [], [], [], [], [], [], [], [], [], [], [some 82, some 83, some 84, some 85, some 86, some 87, some 88, some 89, some 5, none, none, some 90, some 91, some 92], [], [], [], [], [], [], [], [], [], [], [], [some 94, some 95, some 96, some 97, some 98, some 99, some 100, some 101, some 5, none, none, some 102, some 103, some 104], [], [], [], [], [], [], [], [], [], [], [], [some 106, some 107, some 108, some 109, some 110, some 111, some 112, some 113, some 5, none, none, some 114, some 115, some 116], [], [], [], [], [], [], [], [], [], [], [], [some 118, some 119, some 120, some 121, some 122, some 123, some 124, some 125, some 5, none, none, some 126, some 127, some 128], [], [], [], [], [], [], [], [], [], [], [], [some 130, some 131, some 132, some 133, some 134, some 135, some 136, some 137, some 5, none, none, some 138, some 139, some 140], [], [], [], [], [], [], [], [], [], [], [], [some 142, some 143, some 144, some 145, some 146, some 147, some 148, some 149, some 5, none, none, some 150, some 151, some 152], [], [], [], [], [], [], [], [], [], [], [], [some 154, some 155, some 156, some 157, some 158, some 159, some 160, some 161, some 5, none, none, some 162, some 163, some 164], [], [], [], [], [], [], [], [], [], [], [], [some 166, some 192], [none, some 167, some 174, some 186], [some 168, some 169, some 170, some 171, some 172, some 173], [], [], [], [], [], [], [some 175, some 176, some 177, some 178, some 179, some 180, some 181, some 182, some 167, none, none, some 183, some 184, some 185], [], [], [], [], [], [], [], [], [], [], [], [none, some 187, some 188, some 189, some 190, some 191], [], [], [], [], [], [none, some 193, some 200, some 212], [some 194, some 195, some 196, some 197, some 198, some 199], [], [], [], [], [], [], [some 201, some 202, some 203, some 204, some 205, some 206, some 207, some 208, some 193, none, none, some 209, some 210, some 211], [], [], [], [], [], [], [], [], [], [], [], [none, some 213, some 214, some 215, some 216, some 217], [], [], [], [], [], [some 219, none, none, none, none, some 220, some 221, none, some 222, some 223, some 224], [], [], [], [], [], [], [none, none, some 226, some 227, some 228, some 229, some 230, some 231, some 232], [], [], [], [], [], [], [], [some 234, some 235, some 236, some 237, some 238, some 239], [], [], [], [], [], [], [some 241, some 242, some 243], [], [], [], [none, some 245], [], [], [], [none, some 249, none, none, none, none, some 250, some 251, some 252, some 253, some 254, none, none, none, none, none, none, none, none, none, none, none, none, none, some 255, none, some 256, some 257, some 258, none, none, some 259, some 260, some 261, some 262, none, none, some 263, none, some 264, some 265, some 266, some 267, some 268, some 269, none, none, none, some 270, some 271, some 272, some 273, some 274, none, none, some 275, some 276, some 277], [], [], [], [], [], [], [], [], [], [], [], [], [], [], [], [], [], [], [], [], [], [], [], [], [], [], [], [], [], []]
def LX : List (Nat × Nat) := [(31, 5), (43, 5), (57, 5), (69, 5), (81, 5), (93, 5), (105, 5), (117, 5), (129, 5), (141, 5), (153, 5), (174, 167), (200, 193)]
def PX : List Nat := [5, 12, 167, 193]
def BX : List Nat := [19, 25, 186, 212]
def IX : List (Nat × Nat × Nat × Nat) := [(166, 167, 174, 186), (192, 193, 200, 212)]

def RF (a j : Nat) : Option Nat := (RFL.getD a []).getD j none
/-- the memory once all is made: ints, longs, the three references that change, the script -/
abbrev SM : Type := (Nat → Nat → Int32) × (Nat → Nat → Int64) × (Nat → Option Nat) × (Nat × (Nat → Int32))
def gI (s : SM) : Nat → Nat → Int32 := s.1
def gL (s : SM) : Nat → Nat → Int64 := s.2.1
def gD (s : SM) : Nat → Option Nat := s.2.2.1
def cI (s : SM) (c : Nat) (f : Nat → Int32) : SM := (rw1 s.1 c f, s.2)
def cL (s : SM) (c : Nat) (f : Nat → Int64) : SM := (s.1, rw1 s.2.1 c f, s.2.2)
def pI (s : SM) (c i : Nat) (v : Int32) : SM := cI s c (upd (gI s c) i v)
def pL (s : SM) (c i : Nat) (v : Int64) : SM := cL s c (vp_updL (gL s c) i v)
def pD (s : SM) (k v : Nat) : SM := (s.1, s.2.1, va_up s.2.2.1 k (some v), s.2.2.2)
theorem gI_pI (s : SM) (c i : Nat) (v : Int32) (c' i' : Nat) : gI (pI s c i v) c' i' = if c' = c ∧ i' = i then v else gI s c' i' := by
  show rw1 (gI s) c (upd (gI s c) i v) c' i' = _
  unfold rw1 upd
  by_cases h : c' = c
  · subst h
    by_cases h2 : i' = i <;> simp [h2]
  · simp [h]
theorem gI_pL (s : SM) (c i : Nat) (v : Int64) : gI (pL s c i v) = gI s := rfl
theorem gL_pI (s : SM) (c i : Nat) (v : Int32) : gL (pI s c i v) = gL s := rfl
theorem gD_pI (s : SM) (c i : Nat) (v : Int32) : gD (pI s c i v) = gD s := rfl
theorem gD_pL (s : SM) (c i : Nat) (v : Int64) : gD (pL s c i v) = gD s := rfl
theorem gI_pD (s : SM) (k v : Nat) : gI (pD s k v) = gI s := rfl
theorem gL_pD (s : SM) (k v : Nat) : gL (pD s k v) = gL s := rfl
theorem gD_pD (s : SM) (k v k' : Nat) : gD (pD s k v) k' = if k' = k then some v else gD s k' := rfl
theorem gL_pL (s : SM) (c i : Nat) (v : Int64) (c' i' : Nat) : gL (pL s c i v) c' i' = if c' = c ∧ i' = i then v else gL s c' i' := by
  show rw1 (gL s) c (vp_updL (gL s c) i v) c' i' = _
  unfold rw1 vp_updL
  by_cases h : c' = c
  · subst h
    by_cases h2 : i' = i <;> simp [h2]
  · simp [h]
theorem gI_cI (s : SM) (c : Nat) (f : Nat → Int32) (c' : Nat) : gI (cI s c f) c' = if c' = c then f else gI s c' := rfl
theorem gL_cL (s : SM) (c : Nat) (f : Nat → Int64) (c' : Nat) : gL (cL s c f) c' = if c' = c then f else gL s c' := rfl
theorem gI_cL (s : SM) (c : Nat) (f : Nat → Int64) : gI (cL s c f) = gI s := rfl
theorem gL_cI (s : SM) (c : Nat) (f : Nat → Int32) : gL (cI s c f) = gL s := rfl
theorem gD_cI (s : SM) (c : Nat) (f : Nat → Int32) : gD (cI s c f) = gD s := rfl
theorem gD_cL (s : SM) (c : Nat) (f : Nat → Int64) : gD (cL s c f) = gD s := rfl
theorem sc_pI (s : SM) (c i : Nat) (v : Int32) : (pI s c i v).2.2.2 = s.2.2.2 := rfl
theorem sc_pL (s : SM) (c i : Nat) (v : Int64) : (pL s c i v).2.2.2 = s.2.2.2 := rfl
theorem sc_pD (s : SM) (k v : Nat) : (pD s k v).2.2.2 = s.2.2.2 := rfl
theorem sc_cI (s : SM) (c : Nat) (f : Nat → Int32) : (cI s c f).2.2.2 = s.2.2.2 := rfl
theorem sc_cL (s : SM) (c : Nat) (f : Nat → Int64) : (cL s c f).2.2.2 = s.2.2.2 := rfl
def rfx (a j : Nat) : Nat := (RF a j).getD 0
def gDx (s : SM) (k : Nat) : Nat := (gD s k).getD 0
/-- steps enough for every loop -/
theorem FU_ex : ∃ n : Nat, n = 1000000000000000 := ⟨_, rfl⟩
noncomputable def FU : Nat := Classical.choose FU_ex
theorem FU_eq : FU = 1000000000000000 := Classical.choose_spec FU_ex
def WV : Nat → Int64 := fun j => [0x626f6479, 0x6b696e, 0x6b696e64, 0x646f75626c6564, 0x68616c766564, 0x66616c7365, 0x6a6f696e74, 0x6c696e65, 0x646f74, 0x6465616c, 0x737472696b65, 0x73636172, 0x637265646974, 0x64656274, 0x72696e67, 0x64696573, 0x79656172].getD j 0
