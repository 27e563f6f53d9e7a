theorem sc_i1 (c : Prop) [Decidable c] (a b : SM) : (if c then a else b).2.2.2 = if c then a.2.2.2 else b.2.2.2 := by split <;> rfl
theorem sc_i2 (c : Prop) [Decidable c] (a b : Int32 × SM) : (if c then a else b).2 = if c then a.2 else b.2 := by split <;> rfl
theorem sm_X10_add (s : SM) (a1 : Int32) : (mX10_add s a1).2.2.2 = s.2.2.2 := by
  unfold mX10_add
  simp only [sc_pI, sc_pL, sc_pD, sc_cI, sc_cL, sc_i1, sc_i2, ite_self]
theorem sm_X11_end (s : SM) (a1 : Int32) : (mX11_end s a1).2.2.2 = s.2.2.2 := by
  unfold mX11_end
  simp only [sc_pI, sc_pL, sc_pD, sc_cI, sc_cL, sc_i1, sc_i2, ite_self]
theorem sm_X2_forget (s : SM) : (mX2_forget s).2.2.2 = s.2.2.2 := by
  unfold mX2_forget
  simp only [sc_pI, sc_pL, sc_pD, sc_cI, sc_cL, sc_i1, sc_i2, ite_self]
theorem scl_X4_begin : ∀ n : Nat, (∀ (s : SM) (x1 : Nat) (x2 : Nat) (x3 : Int32), ((lX4_begin n) s x1 x2 x3).2.2.2 = s.2.2.2) := by
  intro n
  induction n with
  | zero => exact fun s _ _ _ => rfl
  | succ n ih =>
    have h0 := ih
    intro s x1 x2 x3
    show (tX4_begin_17 (lX4_begin n) s x1 x2 x3).2.2.2 = _
    unfold tX4_begin_17
    simp only [sc_pI, sc_pL, sc_pD, sc_cI, sc_cL, sc_i1, sc_i2, ite_self, h0]
theorem sm_X4_begin (s : SM) (L0 : Nat) (P0 : Nat) : (mX4_begin s L0 P0).2.2.2 = s.2.2.2 := by
  unfold mX4_begin fX4_begin
  simp only [sc_pI, sc_pL, sc_pD, sc_cI, sc_cL, sc_i1, sc_i2, ite_self, (scl_X4_begin FU)]
theorem sm_X4_scratch (s : SM) (L0 : Nat) (P0 : Nat) (a1 : Int32) (a2 : Int32) : (mX4_scratch s L0 P0 a1 a2).2.2.2 = s.2.2.2 := by
  unfold mX4_scratch
  simp only [sc_pI, sc_pL, sc_pD, sc_cI, sc_cL, sc_i1, sc_i2, ite_self]
theorem sm_X4_tryYear (s : SM) (L0 : Nat) (P0 : Nat) : (mX4_tryYear s L0 P0).2.2.2 = s.2.2.2 := by
  unfold mX4_tryYear
  simp only [sc_pI, sc_pL, sc_pD, sc_cI, sc_cL, sc_i1, sc_i2, ite_self]
theorem sm_X6_forget (s : SM) (p0 : Nat) : (mX6_forget s p0).2.2.2 = s.2.2.2 := by
  unfold mX6_forget
  simp only [sc_pI, sc_pL, sc_pD, sc_cI, sc_cL, sc_i1, sc_i2, ite_self]
theorem scl_X9_add : ∀ n : Nat, (∀ (s : SM) (x1 : Int32) (x2 : Int32), ((lX9_add n) s x1 x2).2.2.2 = s.2.2.2) := by
  intro n
  induction n with
  | zero => exact fun s _ _ => rfl
  | succ n ih =>
    have h0 := ih
    intro s x1 x2
    show (tX9_add_3 (lX9_add n) s x1 x2).2.2.2 = _
    unfold tX9_add_3
    simp only [sc_pI, sc_pL, sc_pD, sc_cI, sc_cL, sc_i1, sc_i2, ite_self, h0]
theorem sm_X9_add (s : SM) (a1 : Int32) : (mX9_add s a1).2.2.2 = s.2.2.2 := by
  unfold mX9_add fX9_add
  simp only [sc_pI, sc_pL, sc_pD, sc_cI, sc_cL, sc_i1, sc_i2, ite_self, (scl_X9_add FU)]
theorem sm_X9_begin (s : SM) : (mX9_begin s).2.2.2 = s.2.2.2 := by
  unfold mX9_begin
  simp only [sc_pI, sc_pL, sc_pD, sc_cI, sc_cL, sc_i1, sc_i2, ite_self]
theorem sm_X9_refuse (s : SM) (a1 : Int32) : (mX9_refuse s a1).2.2.2 = s.2.2.2 := by
  unfold mX9_refuse
  simp only [sc_pI, sc_pL, sc_pD, sc_cI, sc_cL, sc_i1, sc_i2, ite_self]
theorem sm_X0_copyFrom (s : SM) (k0 : Nat) (k1 : Nat) : (mX0_copyFrom s k0 k1).2.2.2 = s.2.2.2 := by
  unfold mX0_copyFrom
  simp only [sc_pI, sc_pL, sc_pD, sc_cI, sc_cL, sc_i1, sc_i2, ite_self]
theorem scl_X10_addName : ∀ n : Nat, (∀ (s : SM) (x1 : Int64) (x2 : Int32), ((lX10_addName n) s x1 x2).2.2.2 = s.2.2.2) := by
  intro n
  induction n with
  | zero => exact fun s _ _ => rfl
  | succ n ih =>
    have h0 := ih
    intro s x1 x2
    show (tX10_addName_3 (lX10_addName n) s x1 x2).2.2.2 = _
    unfold tX10_addName_3
    simp only [sc_pI, sc_pL, sc_pD, sc_cI, sc_cL, sc_i1, sc_i2, ite_self, sm_X10_add, h0]
theorem sm_X10_addName (s : SM) (b1 : Int64) : (mX10_addName s b1).2.2.2 = s.2.2.2 := by
  unfold mX10_addName fX10_addName
  simp only [sc_pI, sc_pL, sc_pD, sc_cI, sc_cL, sc_i1, sc_i2, ite_self, (scl_X10_addName FU)]
theorem scl_X10_addNumber : ∀ n : Nat, (∀ (s : SM) (x1 : Int32), ((lX10_addNumber n) s x1).2.2.2 = s.2.2.2) := by
  intro n
  induction n with
  | zero => exact fun s _ => rfl
  | succ n ih =>
    have h0 := ih
    intro s x1
    show (tX10_addNumber_17 (lX10_addNumber n) s x1).2.2.2 = _
    unfold tX10_addNumber_17
    simp only [sc_pI, sc_pL, sc_pD, sc_cI, sc_cL, sc_i1, sc_i2, ite_self, sm_X10_add, h0]
theorem sm_X10_addNumber (s : SM) (a1 : Int32) : (mX10_addNumber s a1).2.2.2 = s.2.2.2 := by
  unfold mX10_addNumber fX10_addNumber
  simp only [sc_pI, sc_pL, sc_pD, sc_cI, sc_cL, sc_i1, sc_i2, ite_self, sm_X10_add, (scl_X10_addNumber FU)]
theorem sm_X11_feed (s : SM) (a1 : Int32) (a2 : Int32) (a3 : Int32) (a4 : Int32) (a5 : Int32) : (mX11_feed s a1 a2 a3 a4 a5).2.2.2 = s.2.2.2 := by
  unfold mX11_feed
  simp only [sc_pI, sc_pL, sc_pD, sc_cI, sc_cL, sc_i1, sc_i2, ite_self, sm_X9_add]
theorem scl_X1_noteWay : ∀ n : Nat, (∀ (s : SM) (x1 : Int32), ((lX1_noteWay n) s x1).2.2.2 = s.2.2.2) := by
  intro n
  induction n with
  | zero => exact fun s _ => rfl
  | succ n ih =>
    have h0 := ih
    intro s x1
    show (tX1_noteWay_2 (lX1_noteWay n) s x1).2.2.2 = _
    unfold tX1_noteWay_2
    simp only [sc_pI, sc_pL, sc_pD, sc_cI, sc_cL, sc_i1, sc_i2, ite_self, h0]
theorem sm_X1_noteWay (s : SM) : (mX1_noteWay s).2.2.2 = s.2.2.2 := by
  unfold mX1_noteWay fX1_noteWay
  simp only [sc_pI, sc_pL, sc_pD, sc_cI, sc_cL, sc_i1, sc_i2, ite_self, (scl_X1_noteWay FU)]
theorem sm_X2_keepNoted (s : SM) : (mX2_keepNoted s).2.2.2 = s.2.2.2 := by
  unfold mX2_keepNoted
  simp only [sc_pI, sc_pL, sc_pD, sc_cI, sc_cL, sc_i1, sc_i2, ite_self]
theorem sm_X4_copyFrom (s : SM) (L0 : Nat) (P0 : Nat) (L1 : Nat) (P1 : Nat) : (mX4_copyFrom s L0 P0 L1 P1).2.2.2 = s.2.2.2 := by
  unfold mX4_copyFrom
  simp only [sc_pI, sc_pL, sc_pD, sc_cI, sc_cL, sc_i1, sc_i2, ite_self]
theorem sm_X5_keepTold (s : SM) : (mX5_keepTold s).2.2.2 = s.2.2.2 := by
  unfold mX5_keepTold
  simp only [sc_pI, sc_pL, sc_pD, sc_cI, sc_cL, sc_i1, sc_i2, ite_self]
theorem sm_X6_copyFrom (s : SM) (p0 : Nat) (p1 : Nat) : (mX6_copyFrom s p0 p1).2.2.2 = s.2.2.2 := by
  unfold mX6_copyFrom
  simp only [sc_pI, sc_pL, sc_pD, sc_cI, sc_cL, sc_i1, sc_i2, ite_self]
theorem sm_X7_offer (s : SM) (a1 : Int32) (a2 : Int32) (a3 : Int32) : (mX7_offer s a1 a2 a3).2.2.2 = s.2.2.2 := by
  unfold mX7_offer
  simp only [sc_pI, sc_pL, sc_pD, sc_cI, sc_cL, sc_i1, sc_i2, ite_self]
theorem sm_X9_isAllRead (s : SM) : (mX9_isAllRead s).2.2.2 = s.2.2.2 := by
  unfold mX9_isAllRead
  simp only [sc_pI, sc_pL, sc_pD, sc_cI, sc_cL, sc_i1, sc_i2, ite_self, sm_X9_refuse]
theorem sm_X9_isStop (s : SM) : (mX9_isStop s).2.2.2 = s.2.2.2 := by
  unfold mX9_isStop
  simp only [sc_pI, sc_pL, sc_pD, sc_cI, sc_cL, sc_i1, sc_i2, ite_self, sm_X9_refuse]
theorem scl_X9_readRun : ∀ n : Nat, (∀ (s : SM) (x1 : Int32) (x2 : Int32), ((lX9_readRun n).1 s x1 x2).2.2.2 = s.2.2.2) ∧ (∀ (s : SM) (x1 : Int32) (x2 : Int32), ((lX9_readRun n).2.1 s x1 x2).2.2.2 = s.2.2.2) ∧ (∀ (s : SM) (x1 : Int32) (x2 : Int32), ((lX9_readRun n).2.2.1 s x1 x2).2.2.2 = s.2.2.2) ∧ (∀ (s : SM) (x1 : Int32) (x2 : Int32), ((lX9_readRun n).2.2.2 s x1 x2).2.2.2 = s.2.2.2) := by
  intro n
  induction n with
  | zero => exact ⟨fun s _ _ => rfl, fun s _ _ => rfl, fun s _ _ => rfl, fun s _ _ => rfl⟩
  | succ n ih =>
    obtain ⟨h0, h1, h2, h3⟩ := ih
    refine ⟨?_, ?_, ?_, ?_⟩
    · intro s x1 x2
      show (tX9_readRun_14 (lX9_readRun n) s x1 x2).2.2.2 = _
      unfold tX9_readRun_14
      simp only [sc_pI, sc_pL, sc_pD, sc_cI, sc_cL, sc_i1, sc_i2, ite_self, h0, h1, h2, h3]
    · intro s x1 x2
      show (tX9_readRun_55 (lX9_readRun n) s x1 x2).2.2.2 = _
      unfold tX9_readRun_55
      simp only [sc_pI, sc_pL, sc_pD, sc_cI, sc_cL, sc_i1, sc_i2, ite_self, h0, h1, h2, h3]
    · intro s x1 x2
      show (tX9_readRun_138 (lX9_readRun n) s x1 x2).2.2.2 = _
      unfold tX9_readRun_138
      simp only [sc_pI, sc_pL, sc_pD, sc_cI, sc_cL, sc_i1, sc_i2, ite_self, h0, h1, h2, h3]
    · intro s x1 x2
      show (tX9_readRun_158 (lX9_readRun n) s x1 x2).2.2.2 = _
      unfold tX9_readRun_158
      simp only [sc_pI, sc_pL, sc_pD, sc_cI, sc_cL, sc_i1, sc_i2, ite_self, h0, h1, h2, h3]
theorem sm_X9_readRun (s : SM) : (mX9_readRun s).2.2.2 = s.2.2.2 := by
  unfold mX9_readRun fX9_readRun
  simp only [sc_pI, sc_pL, sc_pD, sc_cI, sc_cL, sc_i1, sc_i2, ite_self, (scl_X9_readRun FU).1, (scl_X9_readRun FU).2.1, (scl_X9_readRun FU).2.2.1, (scl_X9_readRun FU).2.2.2]
theorem scl_X11_addMark : ∀ n : Nat, (∀ (s : SM) (x1 : Int32) (x2 : Int32) (x3 : Int32), ((lX11_addMark n).1 s x1 x2 x3).2.2.2 = s.2.2.2) ∧ (∀ (s : SM) (x1 : Int32) (x2 : Int32) (x3 : Int32), ((lX11_addMark n).2 s x1 x2 x3).2.2.2 = s.2.2.2) := by
  intro n
  induction n with
  | zero => exact ⟨fun s _ _ _ => rfl, fun s _ _ _ => rfl⟩
  | succ n ih =>
    obtain ⟨h0, h1⟩ := ih
    refine ⟨?_, ?_⟩
    · intro s x1 x2 x3
      show (tX11_addMark_118 (lX11_addMark n) s x1 x2 x3).2.2.2 = _
      unfold tX11_addMark_118
      simp only [sc_pI, sc_pL, sc_pD, sc_cI, sc_cL, sc_i1, sc_i2, ite_self, sm_X10_add, sm_X10_addName, h0, h1]
    · intro s x1 x2 x3
      show (tX11_addMark_173 (lX11_addMark n) s x1 x2 x3).2.2.2 = _
      unfold tX11_addMark_173
      simp only [sc_pI, sc_pL, sc_pD, sc_cI, sc_cL, sc_i1, sc_i2, ite_self, sm_X10_add, h0, h1]
theorem sm_X11_addMark (s : SM) (a1 : Int32) (a2 : Int32) : (mX11_addMark s a1 a2).2.2.2 = s.2.2.2 := by
  unfold mX11_addMark fX11_addMark
  simp only [sc_pI, sc_pL, sc_pD, sc_cI, sc_cL, sc_i1, sc_i2, ite_self, sm_X10_add, sm_X10_addNumber, sm_X10_addName, (scl_X11_addMark FU).1, (scl_X11_addMark FU).2]
theorem sm_X2_note (s : SM) (L1 : Nat) (P1 : Nat) : (mX2_note s L1 P1).2.2.2 = s.2.2.2 := by
  unfold mX2_note
  simp only [sc_pI, sc_pL, sc_pD, sc_cI, sc_cL, sc_i1, sc_i2, ite_self, sm_X4_copyFrom]
theorem sm_X2_takeBack (s : SM) (L1 : Nat) (P1 : Nat) : (mX2_takeBack s L1 P1).2.2.2 = s.2.2.2 := by
  unfold mX2_takeBack
  simp only [sc_pI, sc_pL, sc_pD, sc_cI, sc_cL, sc_i1, sc_i2, ite_self, sm_X4_copyFrom]
theorem sm_X3_bringBack (s : SM) (I0 : Nat) (P0 : Nat) (L0 : Nat) (B0 : Nat) (p1 : Nat) (L2 : Nat) (P2 : Nat) (k3 : Nat) : (mX3_bringBack s I0 P0 L0 B0 p1 L2 P2 k3).2.2.2 = s.2.2.2 := by
  unfold mX3_bringBack
  simp only [sc_pI, sc_pL, sc_pD, sc_cI, sc_cL, sc_i1, sc_i2, ite_self, sm_X0_copyFrom, sm_X4_copyFrom, sm_X6_copyFrom]
theorem sm_X3_keep (s : SM) (I0 : Nat) (P0 : Nat) (L0 : Nat) (B0 : Nat) (p1 : Nat) (L2 : Nat) (P2 : Nat) (k3 : Nat) : (mX3_keep s I0 P0 L0 B0 p1 L2 P2 k3).2.2.2 = s.2.2.2 := by
  unfold mX3_keep
  simp only [sc_pI, sc_pL, sc_pD, sc_cI, sc_cL, sc_i1, sc_i2, ite_self, sm_X0_copyFrom, sm_X4_copyFrom, sm_X6_copyFrom]
theorem sm_X4_debtBearerFor (s : SM) (L0 : Nat) (P0 : Nat) (a1 : Int32) (a2 : Int32) (a3 : Int32) : (mX4_debtBearerFor s L0 P0 a1 a2 a3).2.2.2 = s.2.2.2 := by
  unfold mX4_debtBearerFor
  simp only [sc_pI, sc_pL, sc_pD, sc_cI, sc_cL, sc_i1, sc_i2, ite_self]
theorem sm_X4_takeOff (s : SM) (L0 : Nat) (P0 : Nat) (a1 : Int32) (a2 : Int32) : (mX4_takeOff s L0 P0 a1 a2).2.2.2 = s.2.2.2 := by
  unfold mX4_takeOff
  simp only [sc_pI, sc_pL, sc_pD, sc_cI, sc_cL, sc_i1, sc_i2, ite_self, sm_X4_scratch]
theorem scl_X4_tryBury : ∀ n : Nat, (∀ (s : SM) (x1 : Nat) (x2 : Nat) (x3 : Int32) (x4 : Int32) (x5 : Int32), ((lX4_tryBury n) s x1 x2 x3 x4 x5).2.2.2.2 = s.2.2.2) := by
  intro n
  induction n with
  | zero => exact fun s _ _ _ _ _ => rfl
  | succ n ih =>
    have h0 := ih
    intro s x1 x2 x3 x4 x5
    show (tX4_tryBury_37 (lX4_tryBury n) s x1 x2 x3 x4 x5).2.2.2.2 = _
    unfold tX4_tryBury_37
    simp only [sc_pI, sc_pL, sc_pD, sc_cI, sc_cL, sc_i1, sc_i2, ite_self, h0]
theorem sm_X4_tryBury (s : SM) (L0 : Nat) (P0 : Nat) (a1 : Int32) (a2 : Int32) : (mX4_tryBury s L0 P0 a1 a2).2.2.2 = s.2.2.2 := by
  unfold mX4_tryBury fX4_tryBury
  simp only [sc_pI, sc_pL, sc_pD, sc_cI, sc_cL, sc_i1, sc_i2, ite_self, (scl_X4_tryBury FU)]
theorem scl_X9_nextToken : ∀ n : Nat, (∀ (s : SM), ((lX9_nextToken n).1 s).2.2.2 = s.2.2.2) ∧ (∀ (s : SM), ((lX9_nextToken n).2.1 s).2.2.2 = s.2.2.2) ∧ (∀ (s : SM), ((lX9_nextToken n).2.2 s).2.2.2 = s.2.2.2) := by
  intro n
  induction n with
  | zero => exact ⟨fun s  => rfl, fun s  => rfl, fun s  => rfl⟩
  | succ n ih =>
    obtain ⟨h0, h1, h2⟩ := ih
    refine ⟨?_, ?_, ?_⟩
    · intro s
      show (tX9_nextToken_0 (lX9_nextToken n) s).2.2.2 = _
      unfold tX9_nextToken_0
      simp only [sc_pI, sc_pL, sc_pD, sc_cI, sc_cL, sc_i1, sc_i2, ite_self, h0, h1, h2]
    · intro s
      show (tX9_nextToken_39 (lX9_nextToken n) s).2.2.2 = _
      unfold tX9_nextToken_39
      simp only [sc_pI, sc_pL, sc_pD, sc_cI, sc_cL, sc_i1, sc_i2, ite_self, sm_X9_readRun, h0, h1, h2]
    · intro s
      show (tX9_nextToken_68 (lX9_nextToken n) s).2.2.2 = _
      unfold tX9_nextToken_68
      simp only [sc_pI, sc_pL, sc_pD, sc_cI, sc_cL, sc_i1, sc_i2, ite_self, h0, h1, h2]
theorem sm_X9_nextToken (s : SM) : (mX9_nextToken s).2.2.2 = s.2.2.2 := by
  unfold mX9_nextToken fX9_nextToken
  simp only [sc_pI, sc_pL, sc_pD, sc_cI, sc_cL, sc_i1, sc_i2, ite_self, (scl_X9_nextToken FU).1, (scl_X9_nextToken FU).2.1, (scl_X9_nextToken FU).2.2]
theorem scl_X0_readSide : ∀ n : Nat, (∀ (s : SM) (x1 : Nat), ((lX0_readSide n) s x1).2.2.2.2 = s.2.2.2) := by
  intro n
  induction n with
  | zero => exact fun s _ => rfl
  | succ n ih =>
    have h0 := ih
    intro s x1
    show (tX0_readSide_30 (lX0_readSide n) s x1).2.2.2.2 = _
    unfold tX0_readSide_30
    simp only [sc_pI, sc_pL, sc_pD, sc_cI, sc_cL, sc_i1, sc_i2, ite_self, h0]
theorem sm_X0_readSide (s : SM) (k0 : Nat) : (mX0_readSide s k0).2.2.2 = s.2.2.2 := by
  unfold mX0_readSide fX0_readSide
  simp only [sc_pI, sc_pL, sc_pD, sc_cI, sc_cL, sc_i1, sc_i2, ite_self, sm_X9_nextToken, sm_X9_refuse, (scl_X0_readSide FU)]
theorem sm_X11_dies (s : SM) (a1 : Int32) (a2 : Int32) : (mX11_dies s a1 a2).2.2.2 = s.2.2.2 := by
  unfold mX11_dies
  simp only [sc_pI, sc_pL, sc_pD, sc_cI, sc_cL, sc_i1, sc_i2, ite_self, sm_X2_note, sm_X2_keepNoted, sm_X4_tryBury]
theorem sm_X11_image (s : SM) (a1 : Int32) : (mX11_image s a1).2.2.2 = s.2.2.2 := by
  unfold mX11_image
  simp only [sc_pI, sc_pL, sc_pD, sc_cI, sc_cL, sc_i1, sc_i2, ite_self, sm_X3_keep]
theorem sm_X11_restore (s : SM) (a1 : Int32) : (mX11_restore s a1).2.2.2 = s.2.2.2 := by
  unfold mX11_restore
  simp only [sc_pI, sc_pL, sc_pD, sc_cI, sc_cL, sc_i1, sc_i2, ite_self, sm_X2_forget, sm_X3_bringBack]
theorem scl_X11_skin : ∀ n : Nat, (∀ (s : SM) (x1 : Int32) (x2 : Int32), ((lX11_skin n).1 s x1 x2).2.2.2.2 = s.2.2.2) ∧ (∀ (s : SM) (x1 : Int32) (x2 : Int32) (x3 : Int32), ((lX11_skin n).2 s x1 x2 x3).2.2.2.2 = s.2.2.2) := by
  intro n
  induction n with
  | zero => exact ⟨fun s _ _ => rfl, fun s _ _ _ => rfl⟩
  | succ n ih =>
    obtain ⟨h0, h1⟩ := ih
    refine ⟨?_, ?_⟩
    · intro s x1 x2
      show (tX11_skin_23 (lX11_skin n) s x1 x2).2.2.2.2 = _
      unfold tX11_skin_23
      simp only [sc_pI, sc_pL, sc_pD, sc_cI, sc_cL, sc_i1, sc_i2, ite_self, h0, h1]
    · intro s x1 x2 x3
      show (tX11_skin_36 (lX11_skin n) s x1 x2 x3).2.2.2.2 = _
      unfold tX11_skin_36
      simp only [sc_pI, sc_pL, sc_pD, sc_cI, sc_cL, sc_i1, sc_i2, ite_self, sm_X11_addMark, h0, h1]
theorem sm_X11_skin (s : SM) (a1 : Int32) : (mX11_skin s a1).2.2.2 = s.2.2.2 := by
  unfold mX11_skin fX11_skin
  simp only [sc_pI, sc_pL, sc_pD, sc_cI, sc_cL, sc_i1, sc_i2, ite_self, (scl_X11_skin FU).1, (scl_X11_skin FU).2]
theorem sm_X11_undo (s : SM) : (mX11_undo s).2.2.2 = s.2.2.2 := by
  unfold mX11_undo
  simp only [sc_pI, sc_pL, sc_pD, sc_cI, sc_cL, sc_i1, sc_i2, ite_self, sm_X2_takeBack]
theorem sm_X11_year (s : SM) : (mX11_year s).2.2.2 = s.2.2.2 := by
  unfold mX11_year
  simp only [sc_pI, sc_pL, sc_pD, sc_cI, sc_cL, sc_i1, sc_i2, ite_self, sm_X2_note, sm_X2_keepNoted, sm_X4_tryYear]
theorem scl_X1_findNeeded : ∀ n : Nat, (∀ (s : SM) (x1 : Int32) (x2 : Int32) (x3 : Int32), ((lX1_findNeeded n).1 s x1 x2 x3).2.2.2 = s.2.2.2) ∧ (∀ (s : SM) (x1 : Int32) (x2 : Int32) (x3 : Int32) (x4 : Int32), ((lX1_findNeeded n).2 s x1 x2 x3 x4).2.2.2 = s.2.2.2) := by
  intro n
  induction n with
  | zero => exact ⟨fun s _ _ _ => rfl, fun s _ _ _ _ => rfl⟩
  | succ n ih =>
    obtain ⟨h0, h1⟩ := ih
    refine ⟨?_, ?_⟩
    · intro s x1 x2 x3
      show (tX1_findNeeded_25 (lX1_findNeeded n) s x1 x2 x3).2.2.2 = _
      unfold tX1_findNeeded_25
      simp only [sc_pI, sc_pL, sc_pD, sc_cI, sc_cL, sc_i1, sc_i2, ite_self, h0, h1]
    · intro s x1 x2 x3 x4
      show (tX1_findNeeded_69 (lX1_findNeeded n) s x1 x2 x3 x4).2.2.2 = _
      unfold tX1_findNeeded_69
      simp only [sc_pI, sc_pL, sc_pD, sc_cI, sc_cL, sc_i1, sc_i2, ite_self, h0, h1]
theorem sm_X1_findNeeded (s : SM) (a1 : Int32) (a2 : Int32) : (mX1_findNeeded s a1 a2).2.2.2 = s.2.2.2 := by
  unfold mX1_findNeeded fX1_findNeeded
  simp only [sc_pI, sc_pL, sc_pD, sc_cI, sc_cL, sc_i1, sc_i2, ite_self, (scl_X1_findNeeded FU).1, (scl_X1_findNeeded FU).2]
theorem sm_X4_lessen (s : SM) (L0 : Nat) (P0 : Nat) (a1 : Int32) (a2 : Int32) : (mX4_lessen s L0 P0 a1 a2).2.2.2 = s.2.2.2 := by
  unfold mX4_lessen
  simp only [sc_pI, sc_pL, sc_pD, sc_cI, sc_cL, sc_i1, sc_i2, ite_self, sm_X4_takeOff]
theorem sm_X4_tryScar (s : SM) (L0 : Nat) (P0 : Nat) (a1 : Int32) (a2 : Int32) : (mX4_tryScar s L0 P0 a1 a2).2.2.2 = s.2.2.2 := by
  unfold mX4_tryScar
  simp only [sc_pI, sc_pL, sc_pD, sc_cI, sc_cL, sc_i1, sc_i2, ite_self]
theorem scl_X4_tryStrike : ∀ n : Nat, (∀ (s : SM) (x1 : Nat) (x2 : Nat) (x3 : Int32) (x4 : Int32), ((lX4_tryStrike n) s x1 x2 x3 x4).2.2.2.2 = s.2.2.2) := by
  intro n
  induction n with
  | zero => exact fun s _ _ _ _ => rfl
  | succ n ih =>
    have h0 := ih
    intro s x1 x2 x3 x4
    show (tX4_tryStrike_40 (lX4_tryStrike n) s x1 x2 x3 x4).2.2.2.2 = _
    unfold tX4_tryStrike_40
    simp only [sc_pI, sc_pL, sc_pD, sc_cI, sc_cL, sc_i1, sc_i2, ite_self, sm_X4_scratch, h0]
theorem sm_X4_tryStrike (s : SM) (L0 : Nat) (P0 : Nat) (a1 : Int32) : (mX4_tryStrike s L0 P0 a1).2.2.2 = s.2.2.2 := by
  unfold mX4_tryStrike fX4_tryStrike
  simp only [sc_pI, sc_pL, sc_pD, sc_cI, sc_cL, sc_i1, sc_i2, ite_self, (scl_X4_tryStrike FU)]
theorem sm_X4_wrongToWrite (s : SM) (L0 : Nat) (P0 : Nat) (a1 : Int32) (a2 : Int32) (a3 : Int32) : (mX4_wrongToWrite s L0 P0 a1 a2 a3).2.2.2 = s.2.2.2 := by
  unfold mX4_wrongToWrite
  simp only [sc_pI, sc_pL, sc_pD, sc_cI, sc_cL, sc_i1, sc_i2, ite_self, sm_X4_debtBearerFor]
theorem scl_X5_take : ∀ n : Nat, (∀ (s : SM) (x1 : Nat) (x2 : Int32), ((lX5_take n) s x1 x2).2.2.2.2 = s.2.2.2) := by
  intro n
  induction n with
  | zero => exact fun s _ _ => rfl
  | succ n ih =>
    have h0 := ih
    intro s x1 x2
    show (tX5_take_35 (lX5_take n) s x1 x2).2.2.2.2 = _
    unfold tX5_take_35
    simp only [sc_pI, sc_pL, sc_pD, sc_cI, sc_cL, sc_i1, sc_i2, ite_self, h0]
theorem sm_X5_take (s : SM) (p2 : Nat) : (mX5_take s p2).2.2.2 = s.2.2.2 := by
  unfold mX5_take fX5_take
  simp only [sc_pI, sc_pL, sc_pD, sc_cI, sc_cL, sc_i1, sc_i2, ite_self, (scl_X5_take FU)]
theorem scl_X7_prepare : ∀ n : Nat, (∀ (s : SM) (x1 : Nat) (x2 : Nat) (x3 : Int32) (x4 : Int32), ((lX7_prepare n).1 s x1 x2 x3 x4).2.2.2 = s.2.2.2) ∧ (∀ (s : SM) (x1 : Nat) (x2 : Nat) (x3 : Int32) (x4 : Int32) (x5 : Int32), ((lX7_prepare n).2 s x1 x2 x3 x4 x5).2.2.2 = s.2.2.2) := by
  intro n
  induction n with
  | zero => exact ⟨fun s _ _ _ _ => rfl, fun s _ _ _ _ _ => rfl⟩
  | succ n ih =>
    obtain ⟨h0, h1⟩ := ih
    refine ⟨?_, ?_⟩
    · intro s x1 x2 x3 x4
      show (tX7_prepare_29 (lX7_prepare n) s x1 x2 x3 x4).2.2.2 = _
      unfold tX7_prepare_29
      simp only [sc_pI, sc_pL, sc_pD, sc_cI, sc_cL, sc_i1, sc_i2, ite_self, h0, h1]
    · intro s x1 x2 x3 x4 x5
      show (tX7_prepare_45 (lX7_prepare n) s x1 x2 x3 x4 x5).2.2.2 = _
      unfold tX7_prepare_45
      simp only [sc_pI, sc_pL, sc_pD, sc_cI, sc_cL, sc_i1, sc_i2, ite_self, h0, h1]
theorem sm_X7_prepare (s : SM) (L1 : Nat) (P1 : Nat) : (mX7_prepare s L1 P1).2.2.2 = s.2.2.2 := by
  unfold mX7_prepare fX7_prepare
  simp only [sc_pI, sc_pL, sc_pD, sc_cI, sc_cL, sc_i1, sc_i2, ite_self, (scl_X7_prepare FU).1, (scl_X7_prepare FU).2]
theorem scl_X8_payments : ∀ n : Nat, (∀ (s : SM) (x1 : Nat) (x2 : Nat) (x3 : Int32) (x4 : Int32), ((lX8_payments n).1 s x1 x2 x3 x4).2.2.2.2 = s.2.2.2) ∧ (∀ (s : SM) (x1 : Nat) (x2 : Nat) (x3 : Int32) (x4 : Int32), ((lX8_payments n).2.1 s x1 x2 x3 x4).2.2.2.2 = s.2.2.2) ∧ (∀ (s : SM) (x1 : Nat) (x2 : Nat) (x3 : Int32) (x4 : Int32) (x5 : Int32), ((lX8_payments n).2.2 s x1 x2 x3 x4 x5).2.2.2.2 = s.2.2.2) := by
  intro n
  induction n with
  | zero => exact ⟨fun s _ _ _ _ => rfl, fun s _ _ _ _ => rfl, fun s _ _ _ _ _ => rfl⟩
  | succ n ih =>
    obtain ⟨h0, h1, h2⟩ := ih
    refine ⟨?_, ?_, ?_⟩
    · intro s x1 x2 x3 x4
      show (tX8_payments_4 (lX8_payments n) s x1 x2 x3 x4).2.2.2.2 = _
      unfold tX8_payments_4
      simp only [sc_pI, sc_pL, sc_pD, sc_cI, sc_cL, sc_i1, sc_i2, ite_self, h0, h1, h2]
    · intro s x1 x2 x3 x4
      show (tX8_payments_46 (lX8_payments n) s x1 x2 x3 x4).2.2.2.2 = _
      unfold tX8_payments_46
      simp only [sc_pI, sc_pL, sc_pD, sc_cI, sc_cL, sc_i1, sc_i2, ite_self, h0, h1, h2]
    · intro s x1 x2 x3 x4 x5
      show (tX8_payments_77 (lX8_payments n) s x1 x2 x3 x4 x5).2.2.2.2 = _
      unfold tX8_payments_77
      simp only [sc_pI, sc_pL, sc_pD, sc_cI, sc_cL, sc_i1, sc_i2, ite_self, h0, h1, h2]
theorem sm_X8_payments (s : SM) (L1 : Nat) (P1 : Nat) : (mX8_payments s L1 P1).2.2.2 = s.2.2.2 := by
  unfold mX8_payments fX8_payments
  simp only [sc_pI, sc_pL, sc_pD, sc_cI, sc_cL, sc_i1, sc_i2, ite_self, (scl_X8_payments FU).1, (scl_X8_payments FU).2.1, (scl_X8_payments FU).2.2]
theorem sm_X9_takeBody (s : SM) (p1 : Nat) : (mX9_takeBody s p1).2.2.2 = s.2.2.2 := by
  unfold mX9_takeBody
  simp only [sc_pI, sc_pL, sc_pD, sc_cI, sc_cL, sc_i1, sc_i2, ite_self, sm_X9_nextToken, sm_X9_refuse]
theorem sm_X9_takeKind (s : SM) (p1 : Nat) : (mX9_takeKind s p1).2.2.2 = s.2.2.2 := by
  unfold mX9_takeKind
  simp only [sc_pI, sc_pL, sc_pD, sc_cI, sc_cL, sc_i1, sc_i2, ite_self, sm_X9_nextToken, sm_X9_refuse]
theorem scl_X9_takeNewName : ∀ n : Nat, (∀ (s : SM) (x1 : Nat), ((lX9_takeNewName n) s x1).2.2.2.2 = s.2.2.2) := by
  intro n
  induction n with
  | zero => exact fun s _ => rfl
  | succ n ih =>
    have h0 := ih
    intro s x1
    show (tX9_takeNewName_45 (lX9_takeNewName n) s x1).2.2.2.2 = _
    unfold tX9_takeNewName_45
    simp only [sc_pI, sc_pL, sc_pD, sc_cI, sc_cL, sc_i1, sc_i2, ite_self, sm_X9_refuse, h0]
theorem sm_X9_takeNewName (s : SM) (p1 : Nat) : (mX9_takeNewName s p1).2.2.2 = s.2.2.2 := by
  unfold mX9_takeNewName fX9_takeNewName
  simp only [sc_pI, sc_pL, sc_pD, sc_cI, sc_cL, sc_i1, sc_i2, ite_self, sm_X9_nextToken, sm_X9_refuse, (scl_X9_takeNewName FU)]
theorem scl_X9_takeNumber : ∀ n : Nat, (∀ (s : SM) (x1 : Int32) (x2 : Int32), ((lX9_takeNumber n) s x1 x2).2.2.2.2 = s.2.2.2) := by
  intro n
  induction n with
  | zero => exact fun s _ _ => rfl
  | succ n ih =>
    have h0 := ih
    intro s x1 x2
    show (tX9_takeNumber_34 (lX9_takeNumber n) s x1 x2).2.2.2.2 = _
    unfold tX9_takeNumber_34
    simp only [sc_pI, sc_pL, sc_pD, sc_cI, sc_cL, sc_i1, sc_i2, ite_self, sm_X9_refuse, h0]
theorem sm_X9_takeNumber (s : SM) (a1 : Int32) (a2 : Int32) : (mX9_takeNumber s a1 a2).2.2.2 = s.2.2.2 := by
  unfold mX9_takeNumber fX9_takeNumber
  simp only [sc_pI, sc_pL, sc_pD, sc_cI, sc_cL, sc_i1, sc_i2, ite_self, sm_X9_nextToken, sm_X9_refuse, (scl_X9_takeNumber FU)]
theorem sm_X9_takeStop (s : SM) : (mX9_takeStop s).2.2.2 = s.2.2.2 := by
  unfold mX9_takeStop
  simp only [sc_pI, sc_pL, sc_pD, sc_cI, sc_cL, sc_i1, sc_i2, ite_self, sm_X9_isStop, sm_X9_nextToken]
theorem sm_X0_readDeal (s : SM) (k0 : Nat) : (mX0_readDeal s k0).2.2.2 = s.2.2.2 := by
  unfold mX0_readDeal
  simp only [sc_pI, sc_pL, sc_pD, sc_cI, sc_cL, sc_i1, sc_i2, ite_self, sm_X9_takeNumber]
theorem sm_X0_readSumAndKind (s : SM) (k0 : Nat) (p2 : Nat) : (mX0_readSumAndKind s k0 p2).2.2.2 = s.2.2.2 := by
  unfold mX0_readSumAndKind
  simp only [sc_pI, sc_pL, sc_pD, sc_cI, sc_cL, sc_i1, sc_i2, ite_self, sm_X9_takeNumber, sm_X9_takeKind]
theorem sm_X0_readTwoBodies (s : SM) (k0 : Nat) (p2 : Nat) : (mX0_readTwoBodies s k0 p2).2.2.2 = s.2.2.2 := by
  unfold mX0_readTwoBodies
  simp only [sc_pI, sc_pL, sc_pD, sc_cI, sc_cL, sc_i1, sc_i2, ite_self, sm_X9_takeBody]
theorem scl_X11_can : ∀ n : Nat, (∀ (s : SM) (x1 : Int32) (x2 : Int32) (x3 : Int32) (x4 : Int32), ((lX11_can n) s x1 x2 x3 x4).2.2.2.2 = s.2.2.2) := by
  intro n
  induction n with
  | zero => exact fun s _ _ _ _ => rfl
  | succ n ih =>
    have h0 := ih
    intro s x1 x2 x3 x4
    show (tX11_can_29 (lX11_can n) s x1 x2 x3 x4).2.2.2.2 = _
    unfold tX11_can_29
    simp only [sc_pI, sc_pL, sc_pD, sc_cI, sc_cL, sc_i1, sc_i2, ite_self, sm_X4_wrongToWrite, h0]
theorem sm_X11_can (s : SM) (a1 : Int32) (a2 : Int32) : (mX11_can s a1 a2).2.2.2 = s.2.2.2 := by
  unfold mX11_can fX11_can
  simp only [sc_pI, sc_pL, sc_pD, sc_cI, sc_cL, sc_i1, sc_i2, ite_self, (scl_X11_can FU)]
theorem sm_X11_scar (s : SM) (a1 : Int32) (a2 : Int32) : (mX11_scar s a1 a2).2.2.2 = s.2.2.2 := by
  unfold mX11_scar
  simp only [sc_pI, sc_pL, sc_pD, sc_cI, sc_cL, sc_i1, sc_i2, ite_self, sm_X2_note, sm_X2_keepNoted, sm_X4_tryScar]
theorem sm_X11_settled (s : SM) : (mX11_settled s).2.2.2 = s.2.2.2 := by
  unfold mX11_settled
  simp only [sc_pI, sc_pL, sc_pD, sc_cI, sc_cL, sc_i1, sc_i2, ite_self, sm_X8_payments]
theorem sm_X11_strike (s : SM) (a1 : Int32) : (mX11_strike s a1).2.2.2 = s.2.2.2 := by
  unfold mX11_strike
  simp only [sc_pI, sc_pL, sc_pD, sc_cI, sc_cL, sc_i1, sc_i2, ite_self, sm_X2_note, sm_X2_keepNoted, sm_X4_tryStrike]
theorem tw_8 (s : SM) (L0 P0 : Nat) (a1 a2 a3 a4 : Int32) (s3 s7 s11 s14 s17 s20 s22 s24 : SM) : (((fun (s26 : SM) => s26) (pI (pI s24 (L0 + 11) ((gI s24 L0 9)).toNatClampNeg (0 : Int32)) L0 9 ((gI (pI s24 (L0 + 11) ((gI s24 L0 9)).toNatClampNeg (0 : Int32)) L0 9) + (1 : Int32))))).2.2.2 = s24.2.2.2 := (show ((fun (s26 : SM) => s26) (pI (pI s24 (L0 + 11) ((gI s24 L0 9)).toNatClampNeg (0 : Int32)) L0 9 ((gI (pI s24 (L0 + 11) ((gI s24 L0 9)).toNatClampNeg (0 : Int32)) L0 9) + (1 : Int32)))).2.2.2 = ((pI (pI s24 (L0 + 11) ((gI s24 L0 9)).toNatClampNeg (0 : Int32)) L0 9 ((gI (pI s24 (L0 + 11) ((gI s24 L0 9)).toNatClampNeg (0 : Int32)) L0 9) + (1 : Int32)))).2.2.2 from rfl).trans (by simp only [sc_pI])
theorem tw_7 (s : SM) (L0 P0 : Nat) (a1 a2 a3 a4 : Int32) (s3 s7 s11 s14 s17 s20 s22 : SM) : (((fun (s24 : SM) => ((fun (s26 : SM) => s26) (pI (pI s24 (L0 + 11) ((gI s24 L0 9)).toNatClampNeg (0 : Int32)) L0 9 ((gI (pI s24 (L0 + 11) ((gI s24 L0 9)).toNatClampNeg (0 : Int32)) L0 9) + (1 : Int32))))) (pI s22 (L0 + 10) ((gI s22 L0 9)).toNatClampNeg (vX4_debtBearerFor (mX4_wrongToWrite s L0 P0 a1 a2 a4) L0 P0 a2 (gI (mX4_wrongToWrite s L0 P0 a1 a2 a4) (P0 + 5) (a4).toNatClampNeg) (vX4_bearerFor (mX4_wrongToWrite s L0 P0 a1 a2 a4) L0 P0 a1 (gI (mX4_wrongToWrite s L0 P0 a1 a2 a4) (P0 + 5) (a4).toNatClampNeg)))))).2.2.2 = s22.2.2.2 := (tw_8 s L0 P0 a1 a2 a3 a4 s3 s7 s11 s14 s17 s20 s22 ((pI s22 (L0 + 10) ((gI s22 L0 9)).toNatClampNeg (vX4_debtBearerFor (mX4_wrongToWrite s L0 P0 a1 a2 a4) L0 P0 a2 (gI (mX4_wrongToWrite s L0 P0 a1 a2 a4) (P0 + 5) (a4).toNatClampNeg) (vX4_bearerFor (mX4_wrongToWrite s L0 P0 a1 a2 a4) L0 P0 a1 (gI (mX4_wrongToWrite s L0 P0 a1 a2 a4) (P0 + 5) (a4).toNatClampNeg)))))).trans (by simp only [sc_pI])
theorem tw_6 (s : SM) (L0 P0 : Nat) (a1 a2 a3 a4 : Int32) (s3 s7 s11 s14 s17 s20 : SM) : (((fun (s22 : SM) => ((fun (s24 : SM) => ((fun (s26 : SM) => s26) (pI (pI s24 (L0 + 11) ((gI s24 L0 9)).toNatClampNeg (0 : Int32)) L0 9 ((gI (pI s24 (L0 + 11) ((gI s24 L0 9)).toNatClampNeg (0 : Int32)) L0 9) + (1 : Int32))))) (pI s22 (L0 + 10) ((gI s22 L0 9)).toNatClampNeg (vX4_debtBearerFor (mX4_wrongToWrite s L0 P0 a1 a2 a4) L0 P0 a2 (gI (mX4_wrongToWrite s L0 P0 a1 a2 a4) (P0 + 5) (a4).toNatClampNeg) (vX4_bearerFor (mX4_wrongToWrite s L0 P0 a1 a2 a4) L0 P0 a1 (gI (mX4_wrongToWrite s L0 P0 a1 a2 a4) (P0 + 5) (a4).toNatClampNeg)))))) (pI s20 (L0 + 9) ((gI s20 L0 9)).toNatClampNeg (vX4_bearerFor (mX4_wrongToWrite s L0 P0 a1 a2 a4) L0 P0 a1 (gI (mX4_wrongToWrite s L0 P0 a1 a2 a4) (P0 + 5) (a4).toNatClampNeg))))).2.2.2 = s20.2.2.2 := (tw_7 s L0 P0 a1 a2 a3 a4 s3 s7 s11 s14 s17 s20 ((pI s20 (L0 + 9) ((gI s20 L0 9)).toNatClampNeg (vX4_bearerFor (mX4_wrongToWrite s L0 P0 a1 a2 a4) L0 P0 a1 (gI (mX4_wrongToWrite s L0 P0 a1 a2 a4) (P0 + 5) (a4).toNatClampNeg))))).trans (by simp only [sc_pI])
theorem tw_5 (s : SM) (L0 P0 : Nat) (a1 a2 a3 a4 : Int32) (s3 s7 s11 s14 s17 : SM) : (((fun (s20 : SM) => ((fun (s22 : SM) => ((fun (s24 : SM) => ((fun (s26 : SM) => s26) (pI (pI s24 (L0 + 11) ((gI s24 L0 9)).toNatClampNeg (0 : Int32)) L0 9 ((gI (pI s24 (L0 + 11) ((gI s24 L0 9)).toNatClampNeg (0 : Int32)) L0 9) + (1 : Int32))))) (pI s22 (L0 + 10) ((gI s22 L0 9)).toNatClampNeg (vX4_debtBearerFor (mX4_wrongToWrite s L0 P0 a1 a2 a4) L0 P0 a2 (gI (mX4_wrongToWrite s L0 P0 a1 a2 a4) (P0 + 5) (a4).toNatClampNeg) (vX4_bearerFor (mX4_wrongToWrite s L0 P0 a1 a2 a4) L0 P0 a1 (gI (mX4_wrongToWrite s L0 P0 a1 a2 a4) (P0 + 5) (a4).toNatClampNeg)))))) (pI s20 (L0 + 9) ((gI s20 L0 9)).toNatClampNeg (vX4_bearerFor (mX4_wrongToWrite s L0 P0 a1 a2 a4) L0 P0 a1 (gI (mX4_wrongToWrite s L0 P0 a1 a2 a4) (P0 + 5) (a4).toNatClampNeg))))) (pI (pI s17 (L0 + 5) ((gI s17 L0 9)).toNatClampNeg (gI s17 L0 10)) (L0 + 6) ((gI (pI s17 (L0 + 5) ((gI s17 L0 9)).toNatClampNeg (gI s17 L0 10)) L0 9)).toNatClampNeg (0 : Int32)))).2.2.2 = s17.2.2.2 := (tw_6 s L0 P0 a1 a2 a3 a4 s3 s7 s11 s14 s17 ((pI (pI s17 (L0 + 5) ((gI s17 L0 9)).toNatClampNeg (gI s17 L0 10)) (L0 + 6) ((gI (pI s17 (L0 + 5) ((gI s17 L0 9)).toNatClampNeg (gI s17 L0 10)) L0 9)).toNatClampNeg (0 : Int32)))).trans (by simp only [sc_pI])
theorem tw_4 (s : SM) (L0 P0 : Nat) (a1 a2 a3 a4 : Int32) (s3 s7 s11 s14 : SM) : (((fun (s17 : SM) => ((fun (s20 : SM) => ((fun (s22 : SM) => ((fun (s24 : SM) => ((fun (s26 : SM) => s26) (pI (pI s24 (L0 + 11) ((gI s24 L0 9)).toNatClampNeg (0 : Int32)) L0 9 ((gI (pI s24 (L0 + 11) ((gI s24 L0 9)).toNatClampNeg (0 : Int32)) L0 9) + (1 : Int32))))) (pI s22 (L0 + 10) ((gI s22 L0 9)).toNatClampNeg (vX4_debtBearerFor (mX4_wrongToWrite s L0 P0 a1 a2 a4) L0 P0 a2 (gI (mX4_wrongToWrite s L0 P0 a1 a2 a4) (P0 + 5) (a4).toNatClampNeg) (vX4_bearerFor (mX4_wrongToWrite s L0 P0 a1 a2 a4) L0 P0 a1 (gI (mX4_wrongToWrite s L0 P0 a1 a2 a4) (P0 + 5) (a4).toNatClampNeg)))))) (pI s20 (L0 + 9) ((gI s20 L0 9)).toNatClampNeg (vX4_bearerFor (mX4_wrongToWrite s L0 P0 a1 a2 a4) L0 P0 a1 (gI (mX4_wrongToWrite s L0 P0 a1 a2 a4) (P0 + 5) (a4).toNatClampNeg))))) (pI (pI s17 (L0 + 5) ((gI s17 L0 9)).toNatClampNeg (gI s17 L0 10)) (L0 + 6) ((gI (pI s17 (L0 + 5) ((gI s17 L0 9)).toNatClampNeg (gI s17 L0 10)) L0 9)).toNatClampNeg (0 : Int32)))) (pI (pI s14 (L0 + 3) ((gI s14 L0 9)).toNatClampNeg a3) (L0 + 4) ((gI (pI s14 (L0 + 3) ((gI s14 L0 9)).toNatClampNeg a3) L0 9)).toNatClampNeg a4))).2.2.2 = s14.2.2.2 := (tw_5 s L0 P0 a1 a2 a3 a4 s3 s7 s11 s14 ((pI (pI s14 (L0 + 3) ((gI s14 L0 9)).toNatClampNeg a3) (L0 + 4) ((gI (pI s14 (L0 + 3) ((gI s14 L0 9)).toNatClampNeg a3) L0 9)).toNatClampNeg a4))).trans (by simp only [sc_pI])
theorem tw_3 (s : SM) (L0 P0 : Nat) (a1 a2 a3 a4 : Int32) (s3 s7 s11 : SM) : (((fun (s14 : SM) => ((fun (s17 : SM) => ((fun (s20 : SM) => ((fun (s22 : SM) => ((fun (s24 : SM) => ((fun (s26 : SM) => s26) (pI (pI s24 (L0 + 11) ((gI s24 L0 9)).toNatClampNeg (0 : Int32)) L0 9 ((gI (pI s24 (L0 + 11) ((gI s24 L0 9)).toNatClampNeg (0 : Int32)) L0 9) + (1 : Int32))))) (pI s22 (L0 + 10) ((gI s22 L0 9)).toNatClampNeg (vX4_debtBearerFor (mX4_wrongToWrite s L0 P0 a1 a2 a4) L0 P0 a2 (gI (mX4_wrongToWrite s L0 P0 a1 a2 a4) (P0 + 5) (a4).toNatClampNeg) (vX4_bearerFor (mX4_wrongToWrite s L0 P0 a1 a2 a4) L0 P0 a1 (gI (mX4_wrongToWrite s L0 P0 a1 a2 a4) (P0 + 5) (a4).toNatClampNeg)))))) (pI s20 (L0 + 9) ((gI s20 L0 9)).toNatClampNeg (vX4_bearerFor (mX4_wrongToWrite s L0 P0 a1 a2 a4) L0 P0 a1 (gI (mX4_wrongToWrite s L0 P0 a1 a2 a4) (P0 + 5) (a4).toNatClampNeg))))) (pI (pI s17 (L0 + 5) ((gI s17 L0 9)).toNatClampNeg (gI s17 L0 10)) (L0 + 6) ((gI (pI s17 (L0 + 5) ((gI s17 L0 9)).toNatClampNeg (gI s17 L0 10)) L0 9)).toNatClampNeg (0 : Int32)))) (pI (pI s14 (L0 + 3) ((gI s14 L0 9)).toNatClampNeg a3) (L0 + 4) ((gI (pI s14 (L0 + 3) ((gI s14 L0 9)).toNatClampNeg a3) L0 9)).toNatClampNeg a4))) (pI (pI s11 (L0 + 1) ((gI s11 L0 9)).toNatClampNeg a1) (L0 + 2) ((gI (pI s11 (L0 + 1) ((gI s11 L0 9)).toNatClampNeg a1) L0 9)).toNatClampNeg a2))).2.2.2 = s11.2.2.2 := (tw_4 s L0 P0 a1 a2 a3 a4 s3 s7 s11 ((pI (pI s11 (L0 + 1) ((gI s11 L0 9)).toNatClampNeg a1) (L0 + 2) ((gI (pI s11 (L0 + 1) ((gI s11 L0 9)).toNatClampNeg a1) L0 9)).toNatClampNeg a2))).trans (by simp only [sc_pI])
theorem tw_2 (s : SM) (L0 P0 : Nat) (a1 a2 a3 a4 : Int32) (s3 s7 : SM) : (((fun (s11 : SM) => ((fun (s14 : SM) => ((fun (s17 : SM) => ((fun (s20 : SM) => ((fun (s22 : SM) => ((fun (s24 : SM) => ((fun (s26 : SM) => s26) (pI (pI s24 (L0 + 11) ((gI s24 L0 9)).toNatClampNeg (0 : Int32)) L0 9 ((gI (pI s24 (L0 + 11) ((gI s24 L0 9)).toNatClampNeg (0 : Int32)) L0 9) + (1 : Int32))))) (pI s22 (L0 + 10) ((gI s22 L0 9)).toNatClampNeg (vX4_debtBearerFor (mX4_wrongToWrite s L0 P0 a1 a2 a4) L0 P0 a2 (gI (mX4_wrongToWrite s L0 P0 a1 a2 a4) (P0 + 5) (a4).toNatClampNeg) (vX4_bearerFor (mX4_wrongToWrite s L0 P0 a1 a2 a4) L0 P0 a1 (gI (mX4_wrongToWrite s L0 P0 a1 a2 a4) (P0 + 5) (a4).toNatClampNeg)))))) (pI s20 (L0 + 9) ((gI s20 L0 9)).toNatClampNeg (vX4_bearerFor (mX4_wrongToWrite s L0 P0 a1 a2 a4) L0 P0 a1 (gI (mX4_wrongToWrite s L0 P0 a1 a2 a4) (P0 + 5) (a4).toNatClampNeg))))) (pI (pI s17 (L0 + 5) ((gI s17 L0 9)).toNatClampNeg (gI s17 L0 10)) (L0 + 6) ((gI (pI s17 (L0 + 5) ((gI s17 L0 9)).toNatClampNeg (gI s17 L0 10)) L0 9)).toNatClampNeg (0 : Int32)))) (pI (pI s14 (L0 + 3) ((gI s14 L0 9)).toNatClampNeg a3) (L0 + 4) ((gI (pI s14 (L0 + 3) ((gI s14 L0 9)).toNatClampNeg a3) L0 9)).toNatClampNeg a4))) (pI (pI s11 (L0 + 1) ((gI s11 L0 9)).toNatClampNeg a1) (L0 + 2) ((gI (pI s11 (L0 + 1) ((gI s11 L0 9)).toNatClampNeg a1) L0 9)).toNatClampNeg a2))) (pI s7 (L0 + 7) ((vX4_debtBearerFor (mX4_wrongToWrite s L0 P0 a1 a2 a4) L0 P0 a2 (gI (mX4_wrongToWrite s L0 P0 a1 a2 a4) (P0 + 5) (a4).toNatClampNeg) (vX4_bearerFor (mX4_wrongToWrite s L0 P0 a1 a2 a4) L0 P0 a1 (gI (mX4_wrongToWrite s L0 P0 a1 a2 a4) (P0 + 5) (a4).toNatClampNeg)))).toNatClampNeg ((gI s7 (L0 + 7) ((vX4_debtBearerFor (mX4_wrongToWrite s L0 P0 a1 a2 a4) L0 P0 a2 (gI (mX4_wrongToWrite s L0 P0 a1 a2 a4) (P0 + 5) (a4).toNatClampNeg) (vX4_bearerFor (mX4_wrongToWrite s L0 P0 a1 a2 a4) L0 P0 a1 (gI (mX4_wrongToWrite s L0 P0 a1 a2 a4) (P0 + 5) (a4).toNatClampNeg)))).toNatClampNeg) - (gI s7 (P0 + 5) (a4).toNatClampNeg))))).2.2.2 = s7.2.2.2 := (tw_3 s L0 P0 a1 a2 a3 a4 s3 s7 ((pI s7 (L0 + 7) ((vX4_debtBearerFor (mX4_wrongToWrite s L0 P0 a1 a2 a4) L0 P0 a2 (gI (mX4_wrongToWrite s L0 P0 a1 a2 a4) (P0 + 5) (a4).toNatClampNeg) (vX4_bearerFor (mX4_wrongToWrite s L0 P0 a1 a2 a4) L0 P0 a1 (gI (mX4_wrongToWrite s L0 P0 a1 a2 a4) (P0 + 5) (a4).toNatClampNeg)))).toNatClampNeg ((gI s7 (L0 + 7) ((vX4_debtBearerFor (mX4_wrongToWrite s L0 P0 a1 a2 a4) L0 P0 a2 (gI (mX4_wrongToWrite s L0 P0 a1 a2 a4) (P0 + 5) (a4).toNatClampNeg) (vX4_bearerFor (mX4_wrongToWrite s L0 P0 a1 a2 a4) L0 P0 a1 (gI (mX4_wrongToWrite s L0 P0 a1 a2 a4) (P0 + 5) (a4).toNatClampNeg)))).toNatClampNeg) - (gI s7 (P0 + 5) (a4).toNatClampNeg))))).trans (by simp only [sc_pI])
theorem tw_1 (s : SM) (L0 P0 : Nat) (a1 a2 a3 a4 : Int32) (s3 : SM) : (((fun (s7 : SM) => ((fun (s11 : SM) => ((fun (s14 : SM) => ((fun (s17 : SM) => ((fun (s20 : SM) => ((fun (s22 : SM) => ((fun (s24 : SM) => ((fun (s26 : SM) => s26) (pI (pI s24 (L0 + 11) ((gI s24 L0 9)).toNatClampNeg (0 : Int32)) L0 9 ((gI (pI s24 (L0 + 11) ((gI s24 L0 9)).toNatClampNeg (0 : Int32)) L0 9) + (1 : Int32))))) (pI s22 (L0 + 10) ((gI s22 L0 9)).toNatClampNeg (vX4_debtBearerFor (mX4_wrongToWrite s L0 P0 a1 a2 a4) L0 P0 a2 (gI (mX4_wrongToWrite s L0 P0 a1 a2 a4) (P0 + 5) (a4).toNatClampNeg) (vX4_bearerFor (mX4_wrongToWrite s L0 P0 a1 a2 a4) L0 P0 a1 (gI (mX4_wrongToWrite s L0 P0 a1 a2 a4) (P0 + 5) (a4).toNatClampNeg)))))) (pI s20 (L0 + 9) ((gI s20 L0 9)).toNatClampNeg (vX4_bearerFor (mX4_wrongToWrite s L0 P0 a1 a2 a4) L0 P0 a1 (gI (mX4_wrongToWrite s L0 P0 a1 a2 a4) (P0 + 5) (a4).toNatClampNeg))))) (pI (pI s17 (L0 + 5) ((gI s17 L0 9)).toNatClampNeg (gI s17 L0 10)) (L0 + 6) ((gI (pI s17 (L0 + 5) ((gI s17 L0 9)).toNatClampNeg (gI s17 L0 10)) L0 9)).toNatClampNeg (0 : Int32)))) (pI (pI s14 (L0 + 3) ((gI s14 L0 9)).toNatClampNeg a3) (L0 + 4) ((gI (pI s14 (L0 + 3) ((gI s14 L0 9)).toNatClampNeg a3) L0 9)).toNatClampNeg a4))) (pI (pI s11 (L0 + 1) ((gI s11 L0 9)).toNatClampNeg a1) (L0 + 2) ((gI (pI s11 (L0 + 1) ((gI s11 L0 9)).toNatClampNeg a1) L0 9)).toNatClampNeg a2))) (pI s7 (L0 + 7) ((vX4_debtBearerFor (mX4_wrongToWrite s L0 P0 a1 a2 a4) L0 P0 a2 (gI (mX4_wrongToWrite s L0 P0 a1 a2 a4) (P0 + 5) (a4).toNatClampNeg) (vX4_bearerFor (mX4_wrongToWrite s L0 P0 a1 a2 a4) L0 P0 a1 (gI (mX4_wrongToWrite s L0 P0 a1 a2 a4) (P0 + 5) (a4).toNatClampNeg)))).toNatClampNeg ((gI s7 (L0 + 7) ((vX4_debtBearerFor (mX4_wrongToWrite s L0 P0 a1 a2 a4) L0 P0 a2 (gI (mX4_wrongToWrite s L0 P0 a1 a2 a4) (P0 + 5) (a4).toNatClampNeg) (vX4_bearerFor (mX4_wrongToWrite s L0 P0 a1 a2 a4) L0 P0 a1 (gI (mX4_wrongToWrite s L0 P0 a1 a2 a4) (P0 + 5) (a4).toNatClampNeg)))).toNatClampNeg) - (gI s7 (P0 + 5) (a4).toNatClampNeg))))) (pI s3 (L0 + 7) ((vX4_bearerFor (mX4_wrongToWrite s L0 P0 a1 a2 a4) L0 P0 a1 (gI (mX4_wrongToWrite s L0 P0 a1 a2 a4) (P0 + 5) (a4).toNatClampNeg))).toNatClampNeg ((gI s3 (L0 + 7) ((vX4_bearerFor (mX4_wrongToWrite s L0 P0 a1 a2 a4) L0 P0 a1 (gI (mX4_wrongToWrite s L0 P0 a1 a2 a4) (P0 + 5) (a4).toNatClampNeg))).toNatClampNeg) - (gI s3 (P0 + 5) (a4).toNatClampNeg))))).2.2.2 = s3.2.2.2 := (tw_2 s L0 P0 a1 a2 a3 a4 s3 ((pI s3 (L0 + 7) ((vX4_bearerFor (mX4_wrongToWrite s L0 P0 a1 a2 a4) L0 P0 a1 (gI (mX4_wrongToWrite s L0 P0 a1 a2 a4) (P0 + 5) (a4).toNatClampNeg))).toNatClampNeg ((gI s3 (L0 + 7) ((vX4_bearerFor (mX4_wrongToWrite s L0 P0 a1 a2 a4) L0 P0 a1 (gI (mX4_wrongToWrite s L0 P0 a1 a2 a4) (P0 + 5) (a4).toNatClampNeg))).toNatClampNeg) - (gI s3 (P0 + 5) (a4).toNatClampNeg))))).trans (by simp only [sc_pI])
theorem sm_X4_tryWrite (s : SM) (L0 : Nat) (P0 : Nat) (a1 : Int32) (a2 : Int32) (a3 : Int32) (a4 : Int32) : (mX4_tryWrite s L0 P0 a1 a2 a3 a4).2.2.2 = s.2.2.2 := by
  unfold mX4_tryWrite
  split
  · exact (tw_1 s L0 P0 a1 a2 a3 a4 ((mX4_debtBearerFor (mX4_wrongToWrite s L0 P0 a1 a2 a4) L0 P0 a2 (gI (mX4_wrongToWrite s L0 P0 a1 a2 a4) (P0 + 5) (a4).toNatClampNeg) (vX4_bearerFor (mX4_wrongToWrite s L0 P0 a1 a2 a4) L0 P0 a1 (gI (mX4_wrongToWrite s L0 P0 a1 a2 a4) (P0 + 5) (a4).toNatClampNeg))))).trans (by simp only [sc_pI, sm_X4_wrongToWrite, sm_X4_debtBearerFor])
  · exact sm_X4_wrongToWrite s L0 P0 a1 a2 a4
theorem scl_X6_readBody : ∀ n : Nat, (∀ (s : SM) (x1 : Nat), ((lX6_readBody n) s x1).2.2.2.2 = s.2.2.2) := by
  intro n
  induction n with
  | zero => exact fun s _ => rfl
  | succ n ih =>
    have h0 := ih
    intro s x1
    show (tX6_readBody_114 (lX6_readBody n) s x1).2.2.2.2 = _
    unfold tX6_readBody_114
    simp only [sc_pI, sc_pL, sc_pD, sc_cI, sc_cL, sc_i1, sc_i2, ite_self, sm_X9_isStop, h0]
theorem sm_X6_readBody (s : SM) (p0 : Nat) : (mX6_readBody s p0).2.2.2 = s.2.2.2 := by
  unfold mX6_readBody fX6_readBody
  simp only [sc_pI, sc_pL, sc_pD, sc_cI, sc_cL, sc_i1, sc_i2, ite_self, sm_X9_takeNewName, sm_X9_nextToken, sm_X9_takeBody, sm_X9_takeNumber, sm_X9_refuse, (scl_X6_readBody FU)]
theorem sm_X6_readDotRoom (s : SM) (p0 : Nat) : (mX6_readDotRoom s p0).2.2.2 = s.2.2.2 := by
  unfold mX6_readDotRoom
  simp only [sc_pI, sc_pL, sc_pD, sc_cI, sc_cL, sc_i1, sc_i2, ite_self, sm_X9_takeNumber, sm_X9_takeStop, sm_X9_refuse]
theorem scl_X6_readKind : ∀ n : Nat, (∀ (s : SM) (x1 : Nat), ((lX6_readKind n) s x1).2.2.2.2 = s.2.2.2) := by
  intro n
  induction n with
  | zero => exact fun s _ => rfl
  | succ n ih =>
    have h0 := ih
    intro s x1
    show (tX6_readKind_96 (lX6_readKind n) s x1).2.2.2.2 = _
    unfold tX6_readKind_96
    simp only [sc_pI, sc_pL, sc_pD, sc_cI, sc_cL, sc_i1, sc_i2, ite_self, sm_X9_isStop, h0]
theorem sm_X6_readKind (s : SM) (p0 : Nat) : (mX6_readKind s p0).2.2.2 = s.2.2.2 := by
  unfold mX6_readKind fX6_readKind
  simp only [sc_pI, sc_pL, sc_pD, sc_cI, sc_cL, sc_i1, sc_i2, ite_self, sm_X9_takeNewName, sm_X9_nextToken, sm_X9_takeNumber, sm_X9_refuse, (scl_X6_readKind FU)]
theorem sm_X6_readLineRoom (s : SM) (p0 : Nat) : (mX6_readLineRoom s p0).2.2.2 = s.2.2.2 := by
  unfold mX6_readLineRoom
  simp only [sc_pI, sc_pL, sc_pD, sc_cI, sc_cL, sc_i1, sc_i2, ite_self, sm_X9_takeNumber, sm_X9_takeStop, sm_X9_refuse]
theorem sm_X0_readRest (s : SM) (k0 : Nat) (p2 : Nat) (a3 : Int32) : (mX0_readRest s k0 p2 a3).2.2.2 = s.2.2.2 := by
  unfold mX0_readRest
  simp only [sc_pI, sc_pL, sc_pD, sc_cI, sc_cL, sc_i1, sc_i2, ite_self, sm_X0_readTwoBodies, sm_X0_readSumAndKind, sm_X0_readDeal, sm_X0_readSide]
theorem sm_X11_write (s : SM) (a1 : Int32) (a2 : Int32) (a3 : Int32) (a4 : Int32) : (mX11_write s a1 a2 a3 a4).2.2.2 = s.2.2.2 := by
  unfold mX11_write
  simp only [sc_pI, sc_pL, sc_pD, sc_cI, sc_cL, sc_i1, sc_i2, ite_self, sm_X2_note, sm_X2_keepNoted, sm_X4_tryWrite]
theorem scl_X1_findLost : ∀ n : Nat, (∀ (s : SM) (x1 : Int32), ((lX1_findLost n) s x1).2.2.2.2 = s.2.2.2) := by
  intro n
  induction n with
  | zero => exact fun s _ => rfl
  | succ n ih =>
    have h0 := ih
    intro s x1
    show (tX1_findLost_7 (lX1_findLost n) s x1).2.2.2.2 = _
    unfold tX1_findLost_7
    simp only [sc_pI, sc_pL, sc_pD, sc_cI, sc_cL, sc_i1, sc_i2, ite_self, h0]
theorem sm_X1_findLost (s : SM) : (mX1_findLost s).2.2.2 = s.2.2.2 := by
  unfold mX1_findLost fX1_findLost
  simp only [sc_pI, sc_pL, sc_pD, sc_cI, sc_cL, sc_i1, sc_i2, ite_self, (scl_X1_findLost FU)]
theorem sm_X6_readLine (s : SM) (p0 : Nat) : (mX6_readLine s p0).2.2.2 = s.2.2.2 := by
  unfold mX6_readLine
  simp only [sc_pI, sc_pL, sc_pD, sc_cI, sc_cL, sc_i1, sc_i2, ite_self, sm_X9_refuse, sm_X6_readDotRoom, sm_X6_readLineRoom, sm_X6_readKind, sm_X6_readBody]
theorem scl_X0_readFrom : ∀ n : Nat, (∀ (s : SM) (x1 : Nat) (x2 : Nat) (x3 : Int32), ((lX0_readFrom n) s x1 x2 x3).2.2.2.2 = s.2.2.2) := by
  intro n
  induction n with
  | zero => exact fun s _ _ _ => rfl
  | succ n ih =>
    have h0 := ih
    intro s x1 x2 x3
    show (tX0_readFrom_11 (lX0_readFrom n) s x1 x2 x3).2.2.2.2 = _
    unfold tX0_readFrom_11
    simp only [sc_pI, sc_pL, sc_pD, sc_cI, sc_cL, sc_i1, sc_i2, ite_self, sm_X9_nextToken, sm_X9_refuse, sm_X9_takeStop, sm_X0_readRest, sm_X9_isAllRead, h0]
theorem sm_X0_readFrom (s : SM) (k0 : Nat) (p2 : Nat) : (mX0_readFrom s k0 p2).2.2.2 = s.2.2.2 := by
  unfold mX0_readFrom fX0_readFrom
  simp only [sc_pI, sc_pL, sc_pD, sc_cI, sc_cL, sc_i1, sc_i2, ite_self, sm_X9_begin, (scl_X0_readFrom FU)]
theorem scl_X1_take : ∀ n : Nat, (∀ (s : SM) (x1 : Nat) (x2 : Nat) (x3 : Int32) (x4 : Int32), ((lX1_take n) s x1 x2 x3 x4).2.2.2.2 = s.2.2.2) := by
  intro n
  induction n with
  | zero => exact fun s _ _ _ _ => rfl
  | succ n ih =>
    have h0 := ih
    intro s x1 x2 x3 x4
    show (tX1_take_43 (lX1_take n) s x1 x2 x3 x4).2.2.2.2 = _
    unfold tX1_take_43
    simp only [sc_pI, sc_pL, sc_pD, sc_cI, sc_cL, sc_i1, sc_i2, ite_self, sm_X1_findNeeded, h0]
theorem sm_X1_take (s : SM) (L2 : Nat) (P2 : Nat) : (mX1_take s L2 P2).2.2.2 = s.2.2.2 := by
  unfold mX1_take fX1_take
  simp only [sc_pI, sc_pL, sc_pD, sc_cI, sc_cL, sc_i1, sc_i2, ite_self, sm_X1_findLost, (scl_X1_take FU)]
theorem scl_X6_readFrom : ∀ n : Nat, (∀ (s : SM) (x1 : Nat) (x2 : Int32), ((lX6_readFrom n) s x1 x2).2.2.2.2 = s.2.2.2) := by
  intro n
  induction n with
  | zero => exact fun s _ _ => rfl
  | succ n ih =>
    have h0 := ih
    intro s x1 x2
    show (tX6_readFrom_10 (lX6_readFrom n) s x1 x2).2.2.2.2 = _
    unfold tX6_readFrom_10
    simp only [sc_pI, sc_pL, sc_pD, sc_cI, sc_cL, sc_i1, sc_i2, ite_self, sm_X9_nextToken, sm_X6_readLine, sm_X9_isAllRead, h0]
theorem sm_X6_readFrom (s : SM) (p0 : Nat) : (mX6_readFrom s p0).2.2.2 = s.2.2.2 := by
  unfold mX6_readFrom fX6_readFrom
  simp only [sc_pI, sc_pL, sc_pD, sc_cI, sc_cL, sc_i1, sc_i2, ite_self, sm_X9_begin, sm_X6_forget, (scl_X6_readFrom FU)]
theorem sm_X11_book (s : SM) : (mX11_book s).2.2.2 = s.2.2.2 := by
  unfold mX11_book
  simp only [sc_pI, sc_pL, sc_pD, sc_cI, sc_cL, sc_i1, sc_i2, ite_self, sm_X0_readFrom, sm_X0_copyFrom]
theorem sm_X11_port (s : SM) : (mX11_port s).2.2.2 = s.2.2.2 := by
  unfold mX11_port
  simp only [sc_pI, sc_pL, sc_pD, sc_cI, sc_cL, sc_i1, sc_i2, ite_self, sm_X6_readFrom, sm_X2_forget, sm_X4_begin, sm_X6_copyFrom]
theorem scl_X1_tryFrom : ∀ n : Nat, (∀ (s : SM) (x1 : Int32) (x2 : Int32) (x3 : Int32) (x4 : Int32) (x5 : Int32) (x6 : Int32), ((lX1_tryFrom n).1 s x1 x2 x3 x4 x5 x6).2.2.2 = s.2.2.2) ∧ (∀ (s : SM) (x1 : Int32) (x2 : Int32) (x3 : Int32) (x4 : Int32) (x5 : Int32) (x6 : Int32) (x7 : Int32), ((lX1_tryFrom n).2.1 s x1 x2 x3 x4 x5 x6 x7).2.2.2 = s.2.2.2) ∧ (∀ (s : SM) (x1 : Int32) (x2 : Int32) (x3 : Int32) (x4 : Int32) (x5 : Int32) (x6 : Int32) (x7 : Int32) (x8 : Int32), ((lX1_tryFrom n).2.2.1 s x1 x2 x3 x4 x5 x6 x7 x8).2.2.2 = s.2.2.2) ∧ (∀ (s : SM) (x1 : Int32) (x2 : Int32) (x3 : Int32) (x4 : Int32) (x5 : Int32) (x6 : Int32) (x7 : Int32) (x8 : Int32), ((lX1_tryFrom n).2.2.2.1 s x1 x2 x3 x4 x5 x6 x7 x8).2.2.2 = s.2.2.2) ∧ (∀ (s : SM) (x1 : Int32) (x2 : Int32) (x3 : Int32) (x4 : Int32) (x5 : Int32) (x6 : Int32) (x7 : Int32) (x8 : Int32), ((lX1_tryFrom n).2.2.2.2.1 s x1 x2 x3 x4 x5 x6 x7 x8).2.2.2 = s.2.2.2) ∧ (∀ (s : SM) (x1 : Int32), ((lX1_tryFrom n).2.2.2.2.2 s x1).2.2.2 = s.2.2.2) := by
  intro n
  induction n with
  | zero => exact ⟨fun s _ _ _ _ _ _ => rfl, fun s _ _ _ _ _ _ _ => rfl, fun s _ _ _ _ _ _ _ _ => rfl, fun s _ _ _ _ _ _ _ _ => rfl, fun s _ _ _ _ _ _ _ _ => rfl, fun s _ => rfl⟩
  | succ n ih =>
    obtain ⟨h0, h1, h2, h3, h4, h5⟩ := ih
    refine ⟨?_, ?_, ?_, ?_, ?_, ?_⟩
    · intro s x1 x2 x3 x4 x5 x6
      show (tX1_tryFrom_93 (lX1_tryFrom n) s x1 x2 x3 x4 x5 x6).2.2.2 = _
      unfold tX1_tryFrom_93
      simp only [sc_pI, sc_pL, sc_pD, sc_cI, sc_cL, sc_i1, sc_i2, ite_self, h0, h1, h2, h3, h4, h5]
    · intro s x1 x2 x3 x4 x5 x6 x7
      show (tX1_tryFrom_148 (lX1_tryFrom n) s x1 x2 x3 x4 x5 x6 x7).2.2.2 = _
      unfold tX1_tryFrom_148
      simp only [sc_pI, sc_pL, sc_pD, sc_cI, sc_cL, sc_i1, sc_i2, ite_self, h0, h1, h2, h3, h4, h5]
    · intro s x1 x2 x3 x4 x5 x6 x7 x8
      show (tX1_tryFrom_212 (lX1_tryFrom n) s x1 x2 x3 x4 x5 x6 x7 x8).2.2.2 = _
      unfold tX1_tryFrom_212
      simp only [sc_pI, sc_pL, sc_pD, sc_cI, sc_cL, sc_i1, sc_i2, ite_self, h0, h1, h2, h3, h4, h5]
    · intro s x1 x2 x3 x4 x5 x6 x7 x8
      show (tX1_tryFrom_231 (lX1_tryFrom n) s x1 x2 x3 x4 x5 x6 x7 x8).2.2.2 = _
      unfold tX1_tryFrom_231
      simp only [sc_pI, sc_pL, sc_pD, sc_cI, sc_cL, sc_i1, sc_i2, ite_self, h0, h1, h2, h3, h4, h5]
    · intro s x1 x2 x3 x4 x5 x6 x7 x8
      show (tX1_tryFrom_246 (lX1_tryFrom n) s x1 x2 x3 x4 x5 x6 x7 x8).2.2.2 = _
      unfold tX1_tryFrom_246
      simp only [sc_pI, sc_pL, sc_pD, sc_cI, sc_cL, sc_i1, sc_i2, ite_self, h0, h1, h2, h3, h4, h5]
    · intro s x1
      show (tX1_tryFrom_e (lX1_tryFrom n) s x1).2.2.2 = _
      unfold tX1_tryFrom_e
      simp only [sc_pI, sc_pL, sc_pD, sc_cI, sc_cL, sc_i1, sc_i2, ite_self, sm_X1_noteWay, h0, h1, h2, h3, h4, h5]
theorem sm_X1_tryFrom (s : SM) (a1 : Int32) : (mX1_tryFrom s a1).2.2.2 = s.2.2.2 := (scl_X1_tryFrom 400).2.2.2.2.2 s a1
theorem scl_X5_place : ∀ n : Nat, (∀ (s : SM) (x1 : Int32) (x2 : Int32), ((lX5_place n).1 s x1 x2).2.2.2 = s.2.2.2) ∧ (∀ (s : SM) (x1 : Int32) (x2 : Int32) (x3 : Int32), ((lX5_place n).2.1 s x1 x2 x3).2.2.2 = s.2.2.2) ∧ (∀ (s : SM) (x1 : Int32) (x2 : Int32), ((lX5_place n).2.2.1 s x1 x2).2.2.2 = s.2.2.2) ∧ (∀ (s : SM) (x1 : Int32) (x2 : Int32) (x3 : Int32) (x4 : Int32) (x5 : Int32) (x6 : Int32), ((lX5_place n).2.2.2.1 s x1 x2 x3 x4 x5 x6).2.2.2 = s.2.2.2) ∧ (∀ (s : SM) (x1 : Int32) (x2 : Int32), ((lX5_place n).2.2.2.2.1 s x1 x2).2.2.2 = s.2.2.2) ∧ (∀ (s : SM) (x1 : Int32) (x2 : Int32) (x3 : Int32), ((lX5_place n).2.2.2.2.2 s x1 x2 x3).2.2.2 = s.2.2.2) := by
  intro n
  induction n with
  | zero => exact ⟨fun s _ _ => rfl, fun s _ _ _ => rfl, fun s _ _ => rfl, fun s _ _ _ _ _ _ => rfl, fun s _ _ => rfl, fun s _ _ _ => rfl⟩
  | succ n ih =>
    obtain ⟨h0, h1, h2, h3, h4, h5⟩ := ih
    refine ⟨?_, ?_, ?_, ?_, ?_, ?_⟩
    · intro s x1 x2
      show (tX5_place_30 (lX5_place n) s x1 x2).2.2.2 = _
      unfold tX5_place_30
      simp only [sc_pI, sc_pL, sc_pD, sc_cI, sc_cL, sc_i1, sc_i2, ite_self, h0, h1, h2, h3, h4, h5]
    · intro s x1 x2 x3
      show (tX5_place_100 (lX5_place n) s x1 x2 x3).2.2.2 = _
      unfold tX5_place_100
      simp only [sc_pI, sc_pL, sc_pD, sc_cI, sc_cL, sc_i1, sc_i2, ite_self, h0, h1, h2, h3, h4, h5]
    · intro s x1 x2
      show (tX5_place_118 (lX5_place n) s x1 x2).2.2.2 = _
      unfold tX5_place_118
      simp only [sc_pI, sc_pL, sc_pD, sc_cI, sc_cL, sc_i1, sc_i2, ite_self, h0, h1, h2, h3, h4, h5]
    · intro s x1 x2 x3 x4 x5 x6
      show (tX5_placeBy_185 (lX5_place n) s x1 x2 x3 x4 x5 x6).2.2.2 = _
      unfold tX5_placeBy_185
      simp only [sc_pI, sc_pL, sc_pD, sc_cI, sc_cL, sc_i1, sc_i2, ite_self, h0, h1, h2, h3, h4, h5]
    · intro s x1 x2
      show (tX5_place_e (lX5_place n) s x1 x2).2.2.2 = _
      unfold tX5_place_e
      simp only [sc_pI, sc_pL, sc_pD, sc_cI, sc_cL, sc_i1, sc_i2, ite_self, h0, h1, h2, h3, h4, h5]
    · intro s x1 x2 x3
      show (tX5_placeBy_e (lX5_place n) s x1 x2 x3).2.2.2 = _
      unfold tX5_placeBy_e
      simp only [sc_pI, sc_pL, sc_pD, sc_cI, sc_cL, sc_i1, sc_i2, ite_self, h0, h1, h2, h3, h4, h5]
theorem sm_X5_place (s : SM) (a1 : Int32) (a2 : Int32) : (mX5_place s a1 a2).2.2.2 = s.2.2.2 := (scl_X5_place 200).2.2.2.2.1 s a1 a2
theorem sm_X5_placeBy (s : SM) (a1 : Int32) (a2 : Int32) (a3 : Int32) : (mX5_placeBy s a1 a2 a3).2.2.2 = s.2.2.2 := (scl_X5_place 200).2.2.2.2.2 s a1 a2 a3
theorem sm_X1_search (s : SM) (a1 : Int32) : (mX1_search s a1).2.2.2 = s.2.2.2 := by
  unfold mX1_search
  simp only [sc_pI, sc_pL, sc_pD, sc_cI, sc_cL, sc_i1, sc_i2, ite_self, sm_X1_tryFrom]
theorem scl_X5_search : ∀ n : Nat, (∀ (s : SM) (x1 : Nat) (x2 : Nat) (x3 : Int32) (x4 : Int32), ((lX5_search n) s x1 x2 x3 x4).2.2.2.2 = s.2.2.2) := by
  intro n
  induction n with
  | zero => exact fun s _ _ _ _ => rfl
  | succ n ih =>
    have h0 := ih
    intro s x1 x2 x3 x4
    show (tX5_search_48 (lX5_search n) s x1 x2 x3 x4).2.2.2.2 = _
    unfold tX5_search_48
    simp only [sc_pI, sc_pL, sc_pD, sc_cI, sc_cL, sc_i1, sc_i2, ite_self, sm_X5_place, h0]
theorem sm_X5_search (s : SM) (L1 : Nat) (P1 : Nat) (a2 : Int32) (a3 : Int32) : (mX5_search s L1 P1 a2 a3).2.2.2 = s.2.2.2 := by
  unfold mX5_search fX5_search
  simp only [sc_pI, sc_pL, sc_pD, sc_cI, sc_cL, sc_i1, sc_i2, ite_self, (scl_X5_search FU)]
theorem scl_X11_fits : ∀ n : Nat, (∀ (s : SM) (x1 : Int32), ((lX11_fits n) s x1).2.2.2.2 = s.2.2.2) := by
  intro n
  induction n with
  | zero => exact fun s _ => rfl
  | succ n ih =>
    have h0 := ih
    intro s x1
    show (tX11_fits_33 (lX11_fits n) s x1).2.2.2.2 = _
    unfold tX11_fits_33
    simp only [sc_pI, sc_pL, sc_pD, sc_cI, sc_cL, sc_i1, sc_i2, ite_self, sm_X1_search, h0]
theorem sm_X11_fits (s : SM) (a1 : Int32) : (mX11_fits s a1).2.2.2 = s.2.2.2 := by
  unfold mX11_fits fX11_fits
  simp only [sc_pI, sc_pL, sc_pD, sc_cI, sc_cL, sc_i1, sc_i2, ite_self, sm_X1_take, sm_X1_search, (scl_X11_fits FU)]
theorem sm_X11_pack (s : SM) : (mX11_pack s).2.2.2 = s.2.2.2 := by
  unfold mX11_pack
  simp only [sc_pI, sc_pL, sc_pD, sc_cI, sc_cL, sc_i1, sc_i2, ite_self, sm_X5_take, sm_X5_keepTold, sm_X5_search]
theorem sm_X11_price (s : SM) (a1 : Int32) (a2 : Int32) : (mX11_price s a1 a2).2.2.2 = s.2.2.2 := by
  unfold mX11_price
  simp only [sc_pI, sc_pL, sc_pD, sc_cI, sc_cL, sc_i1, sc_i2, ite_self, sm_X5_search]
theorem scl_X7_extend : ∀ n : Nat, (∀ (s : SM) (x1 : Int32) (x2 : Int32) (x3 : Int32) (x4 : Int32) (x5 : Int32) (x6 : Int32), ((lX7_extend n).1 s x1 x2 x3 x4 x5 x6).2.2.2 = s.2.2.2) ∧ (∀ (s : SM) (x1 : Int32) (x2 : Int32) (x3 : Int32) (x4 : Int32) (x5 : Int32), ((lX7_extend n).2 s x1 x2 x3 x4 x5).2.2.2 = s.2.2.2) := by
  intro n
  induction n with
  | zero => exact ⟨fun s _ _ _ _ _ _ => rfl, fun s _ _ _ _ _ => rfl⟩
  | succ n ih =>
    obtain ⟨h0, h1⟩ := ih
    refine ⟨?_, ?_⟩
    · intro s x1 x2 x3 x4 x5 x6
      show (tX7_extend_35 (lX7_extend n) s x1 x2 x3 x4 x5 x6).2.2.2 = _
      unfold tX7_extend_35
      simp only [sc_pI, sc_pL, sc_pD, sc_cI, sc_cL, sc_i1, sc_i2, ite_self, sm_X7_offer, h0, h1]
    · intro s x1 x2 x3 x4 x5
      show (tX7_extend_e (lX7_extend n) s x1 x2 x3 x4 x5).2.2.2 = _
      unfold tX7_extend_e
      simp only [sc_pI, sc_pL, sc_pD, sc_cI, sc_cL, sc_i1, sc_i2, ite_self, h0, h1]
theorem sm_X7_extend (s : SM) (a1 : Int32) (a2 : Int32) (a3 : Int32) (a4 : Int32) (a5 : Int32) : (mX7_extend s a1 a2 a3 a4 a5).2.2.2 = s.2.2.2 := (scl_X7_extend 400).2 s a1 a2 a3 a4 a5
theorem sm_X7_start (s : SM) (a1 : Int32) : (mX7_start s a1).2.2.2 = s.2.2.2 := by
  unfold mX7_start
  simp only [sc_pI, sc_pL, sc_pD, sc_cI, sc_cL, sc_i1, sc_i2, ite_self, sm_X7_extend]
theorem scl_X7_findBest : ∀ n : Nat, (∀ (s : SM) (x1 : Nat) (x2 : Nat) (x3 : Int32), ((lX7_findBest n) s x1 x2 x3).2.2.2.2 = s.2.2.2) := by
  intro n
  induction n with
  | zero => exact fun s _ _ _ => rfl
  | succ n ih =>
    have h0 := ih
    intro s x1 x2 x3
    show (tX7_findBest_30 (lX7_findBest n) s x1 x2 x3).2.2.2.2 = _
    unfold tX7_findBest_30
    simp only [sc_pI, sc_pL, sc_pD, sc_cI, sc_cL, sc_i1, sc_i2, ite_self, sm_X7_start, h0]
theorem sm_X7_findBest (s : SM) (L1 : Nat) (P1 : Nat) : (mX7_findBest s L1 P1).2.2.2 = s.2.2.2 := by
  unfold mX7_findBest fX7_findBest
  simp only [sc_pI, sc_pL, sc_pD, sc_cI, sc_cL, sc_i1, sc_i2, ite_self, sm_X7_prepare, (scl_X7_findBest FU)]
theorem scl_X7_findBestWith : ∀ n : Nat, (∀ (s : SM) (x1 : Nat) (x2 : Nat) (x3 : Int32), ((lX7_findBestWith n) s x1 x2 x3).2.2.2.2 = s.2.2.2) := by
  intro n
  induction n with
  | zero => exact fun s _ _ _ => rfl
  | succ n ih =>
    have h0 := ih
    intro s x1 x2 x3
    show (tX7_findBestWith_18 (lX7_findBestWith n) s x1 x2 x3).2.2.2.2 = _
    unfold tX7_findBestWith_18
    simp only [sc_pI, sc_pL, sc_pD, sc_cI, sc_cL, sc_i1, sc_i2, ite_self, h0]
theorem sm_X7_findBestWith (s : SM) (L1 : Nat) (P1 : Nat) (a2 : Int32) : (mX7_findBestWith s L1 P1 a2).2.2.2 = s.2.2.2 := by
  unfold mX7_findBestWith fX7_findBestWith
  simp only [sc_pI, sc_pL, sc_pD, sc_cI, sc_cL, sc_i1, sc_i2, ite_self, sm_X7_prepare, sm_X7_start, (scl_X7_findBestWith FU)]
theorem scl_X11_ring : ∀ n : Nat, (∀ (s : SM) (x1 : Int32), ((lX11_ring n) s x1).2.2.2.2 = s.2.2.2) := by
  intro n
  induction n with
  | zero => exact fun s _ => rfl
  | succ n ih =>
    have h0 := ih
    intro s x1
    show (tX11_ring_29 (lX11_ring n) s x1).2.2.2.2 = _
    unfold tX11_ring_29
    simp only [sc_pI, sc_pL, sc_pD, sc_cI, sc_cL, sc_i1, sc_i2, ite_self, h0]
theorem sm_X11_ring (s : SM) : (mX11_ring s).2.2.2 = s.2.2.2 := by
  unfold mX11_ring fX11_ring
  simp only [sc_pI, sc_pL, sc_pD, sc_cI, sc_cL, sc_i1, sc_i2, ite_self, sm_X7_findBest, (scl_X11_ring FU)]
theorem sm_X11_ringOf (s : SM) (a1 : Int32) : (mX11_ringOf s a1).2.2.2 = s.2.2.2 := by
  unfold mX11_ringOf
  simp only [sc_pI, sc_pL, sc_pD, sc_cI, sc_cL, sc_i1, sc_i2, ite_self, sm_X7_findBestWith]
theorem scl_X4_tryCut : ∀ n : Nat, (∀ (s : SM) (x1 : Nat) (x2 : Nat) (x3 : Int32), ((lX4_tryCut n) s x1 x2 x3).2.2.2.2 = s.2.2.2) := by
  intro n
  induction n with
  | zero => exact fun s _ _ _ => rfl
  | succ n ih =>
    have h0 := ih
    intro s x1 x2 x3
    show (tX4_tryCut_13 (lX4_tryCut n) s x1 x2 x3).2.2.2.2 = _
    unfold tX4_tryCut_13
    simp only [sc_pI, sc_pL, sc_pD, sc_cI, sc_cL, sc_i1, sc_i2, ite_self, sm_X4_lessen, h0]
theorem sm_X4_tryCut (s : SM) (L0 : Nat) (P0 : Nat) : (mX4_tryCut s L0 P0).2.2.2 = s.2.2.2 := by
  unfold mX4_tryCut fX4_tryCut
  simp only [sc_pI, sc_pL, sc_pD, sc_cI, sc_cL, sc_i1, sc_i2, ite_self, sm_X7_findBest, (scl_X4_tryCut FU)]
theorem sm_X0_tryLine (s : SM) (k0 : Nat) (a1 : Int32) (L2 : Nat) (P2 : Nat) : (mX0_tryLine s k0 a1 L2 P2).2.2.2 = s.2.2.2 := by
  unfold mX0_tryLine
  simp only [sc_pI, sc_pL, sc_pD, sc_cI, sc_cL, sc_i1, sc_i2, ite_self, sm_X4_tryWrite, sm_X4_tryStrike, sm_X4_tryScar, sm_X4_tryCut, sm_X4_tryBury, sm_X4_tryYear]
theorem sm_X11_cut (s : SM) : (mX11_cut s).2.2.2 = s.2.2.2 := by
  unfold mX11_cut
  simp only [sc_pI, sc_pL, sc_pD, sc_cI, sc_cL, sc_i1, sc_i2, ite_self, sm_X2_note, sm_X2_keepNoted, sm_X4_tryCut]
theorem scl_X11_lasts : ∀ n : Nat, (∀ (s : SM) (x1 : Int32) (x2 : Int32) (x3 : Int32) (x4 : Int32) (x5 : Int32) (x6 : Int32), ((lX11_lasts n).1 s x1 x2 x3 x4 x5 x6).2.2.2.2 = s.2.2.2) ∧ (∀ (s : SM) (x1 : Int32) (x2 : Int32) (x3 : Int32) (x4 : Int32) (x5 : Int32) (x6 : Int32) (x7 : Int32) (x8 : Int32) (x9 : Int32) (x10 : Int32), ((lX11_lasts n).2.1 s x1 x2 x3 x4 x5 x6 x7 x8 x9 x10).2.2.2.2 = s.2.2.2) ∧ (∀ (s : SM) (x1 : Int32) (x2 : Int32) (x3 : Int32) (x4 : Int32) (x5 : Int32) (x6 : Int32) (x7 : Int32) (x8 : Int32) (x9 : Int32) (x10 : Int32) (x11 : Int32), ((lX11_lasts n).2.2 s x1 x2 x3 x4 x5 x6 x7 x8 x9 x10 x11).2.2.2.2 = s.2.2.2) := by
  intro n
  induction n with
  | zero => exact ⟨fun s _ _ _ _ _ _ => rfl, fun s _ _ _ _ _ _ _ _ _ _ => rfl, fun s _ _ _ _ _ _ _ _ _ _ _ => rfl⟩
  | succ n ih =>
    obtain ⟨h0, h1, h2⟩ := ih
    refine ⟨?_, ?_, ?_⟩
    · intro s x1 x2 x3 x4 x5 x6
      show (tX11_lasts_59 (lX11_lasts n) s x1 x2 x3 x4 x5 x6).2.2.2.2 = _
      unfold tX11_lasts_59
      simp only [sc_pI, sc_pL, sc_pD, sc_cI, sc_cL, sc_i1, sc_i2, ite_self, sm_X4_tryStrike, h0, h1, h2]
    · intro s x1 x2 x3 x4 x5 x6 x7 x8 x9 x10
      show (tX11_lasts_176 (lX11_lasts n) s x1 x2 x3 x4 x5 x6 x7 x8 x9 x10).2.2.2.2 = _
      unfold tX11_lasts_176
      simp only [sc_pI, sc_pL, sc_pD, sc_cI, sc_cL, sc_i1, sc_i2, ite_self, sm_X4_tryCut, sm_X4_tryWrite, h0, h1, h2]
    · intro s x1 x2 x3 x4 x5 x6 x7 x8 x9 x10 x11
      show (tX11_lasts_215 (lX11_lasts n) s x1 x2 x3 x4 x5 x6 x7 x8 x9 x10 x11).2.2.2.2 = _
      unfold tX11_lasts_215
      simp only [sc_pI, sc_pL, sc_pD, sc_cI, sc_cL, sc_i1, sc_i2, ite_self, h0, h1, h2]
theorem sm_X11_lasts (s : SM) (a1 : Int32) (a2 : Int32) : (mX11_lasts s a1 a2).2.2.2 = s.2.2.2 := by
  unfold mX11_lasts fX11_lasts
  simp only [sc_pI, sc_pL, sc_pD, sc_cI, sc_cL, sc_i1, sc_i2, ite_self, sm_X4_copyFrom, (scl_X11_lasts FU).1, (scl_X11_lasts FU).2.1, (scl_X11_lasts FU).2.2]
theorem scl_X11_ringsFor : ∀ n : Nat, (∀ (s : SM) (x1 : Int32) (x2 : Int32) (x3 : Int32) (x4 : Int32), ((lX11_ringsFor n) s x1 x2 x3 x4).2.2.2.2 = s.2.2.2) := by
  intro n
  induction n with
  | zero => exact fun s _ _ _ _ => rfl
  | succ n ih =>
    have h0 := ih
    intro s x1 x2 x3 x4
    show (tX11_ringsFor_29 (lX11_ringsFor n) s x1 x2 x3 x4).2.2.2.2 = _
    unfold tX11_ringsFor_29
    simp only [sc_pI, sc_pL, sc_pD, sc_cI, sc_cL, sc_i1, sc_i2, ite_self, sm_X4_wrongToWrite, sm_X4_tryCut, h0]
theorem sm_X11_ringsFor (s : SM) (a1 : Int32) (a2 : Int32) (a3 : Int32) : (mX11_ringsFor s a1 a2 a3).2.2.2 = s.2.2.2 := by
  unfold mX11_ringsFor fX11_ringsFor
  simp only [sc_pI, sc_pL, sc_pD, sc_cI, sc_cL, sc_i1, sc_i2, ite_self, sm_X4_copyFrom, (scl_X11_ringsFor FU)]
theorem scl_X11_judge : ∀ n : Nat, (∀ (s : SM) (x1 : Int32) (x2 : Nat) (x3 : Nat) (x4 : Int32) (x5 : Int32), ((lX11_judge n).1 s x1 x2 x3 x4 x5).2.2.2.2 = s.2.2.2) ∧ (∀ (s : SM) (x1 : Int32) (x2 : Nat) (x3 : Nat) (x4 : Int32) (x5 : Int32), ((lX11_judge n).2.1 s x1 x2 x3 x4 x5).2.2.2.2 = s.2.2.2) ∧ (∀ (s : SM) (x1 : Int32) (x2 : Nat) (x3 : Nat) (x4 : Int32) (x5 : Int32), ((lX11_judge n).2.2 s x1 x2 x3 x4 x5).2.2.2.2 = s.2.2.2) := by
  intro n
  induction n with
  | zero => exact ⟨fun s _ _ _ _ _ => rfl, fun s _ _ _ _ _ => rfl, fun s _ _ _ _ _ => rfl⟩
  | succ n ih =>
    obtain ⟨h0, h1, h2⟩ := ih
    refine ⟨?_, ?_, ?_⟩
    · intro s x1 x2 x3 x4 x5
      show (tX11_judge_64 (lX11_judge n) s x1 x2 x3 x4 x5).2.2.2.2 = _
      unfold tX11_judge_64
      simp only [sc_pI, sc_pL, sc_pD, sc_cI, sc_cL, sc_i1, sc_i2, ite_self, sm_X0_tryLine, h0, h1, h2]
    · intro s x1 x2 x3 x4 x5
      show (tX11_judge_112 (lX11_judge n) s x1 x2 x3 x4 x5).2.2.2.2 = _
      unfold tX11_judge_112
      simp only [sc_pI, sc_pL, sc_pD, sc_cI, sc_cL, sc_i1, sc_i2, ite_self, sm_X2_keepNoted, h0, h1, h2]
    · intro s x1 x2 x3 x4 x5
      show (tX11_judge_129 (lX11_judge n) s x1 x2 x3 x4 x5).2.2.2.2 = _
      unfold tX11_judge_129
      simp only [sc_pI, sc_pL, sc_pD, sc_cI, sc_cL, sc_i1, sc_i2, ite_self, h0, h1, h2]
theorem sm_X11_judge (s : SM) (a1 : Int32) : (mX11_judge s a1).2.2.2 = s.2.2.2 := by
  unfold mX11_judge fX11_judge
  simp only [sc_pI, sc_pL, sc_pD, sc_cI, sc_cL, sc_i1, sc_i2, ite_self, sm_X2_note, sm_X4_copyFrom, (scl_X11_judge FU).1, (scl_X11_judge FU).2.1, (scl_X11_judge FU).2.2]
