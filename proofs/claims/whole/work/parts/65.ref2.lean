/-! ===== the reference's state, first methods ===== -/
/-- lengths of the reference's rows that hold nothing between calls: ids 70 .. 82, 84, 85, 87 -/
def mLn (i : Nat) : Nat := if i = 70 ∨ i = 71 then 27 else if i = 72 ∨ i = 74 then 40 else if i = 73 then 41 else if i = 75 then 6561 else if i = 76 then 144 else if i = 77 ∨ i = 78 then 9 else if i = 87 then 243 else 512
def mIn (i : Nat) : Prop := (70 ≤ i ∧ i ≤ 82) ∨ i = 84 ∨ i = 85 ∨ i = 87
def MrP (h : Hp) : Prop := (∀ i, mIn i → ∃ f, h i = io (mLn i) f) ∧ (∃ f, h 83 = zo 512 f) ∧ ∃ f, h 86 = zo 6561 f
theorem MrP.eq {h h' : Hp} (H : MrP h) (he : ∀ j, 70 ≤ j → j ≤ 87 → h' j = h j) : MrP h' := by
  refine ⟨fun i hi => ?_, ?_, ?_⟩
  · obtain ⟨f, hf⟩ := H.1 i hi
    exact ⟨f, (he i (by unfold mIn at hi; omega) (by unfold mIn at hi; omega)).trans hf⟩
  · obtain ⟨f, hf⟩ := H.2.1
    exact ⟨f, (he 83 (by omega) (by omega)).trans hf⟩
  · obtain ⟨f, hf⟩ := H.2.2
    exact ⟨f, (he 86 (by omega) (by omega)).trans hf⟩
/-- the fields of the reference's object that last -/
def MuP (S : Sc) (sv : Bool) (Z : Sc) (F : Sf) (u : Nat → Int32) : Prop := u 1 = nI S.1 ∧ u 2 = nI S.2.1 ∧ u 6 = nI (if sv then Z.1 else 0) ∧ (sv = true → u 7 = nI Z.2.1) ∧ u 12 = nI F.1 ∧ u 13 = nI F.2.1 ∧ u 14 = F.2.2.1
theorem MuP.t {S : Sc} {sv : Bool} {Z : Sc} {F : Sf} {u : Nat → Int32} (h : MuP S sv Z F u) (x : Int32) : MuP S sv Z F (upd u 0 x) := h
/-- the reference: the same state as the program's; th is what its last call set as thrown -/
def RF (G h : Hp) (th : Nat) (S : Sc) (sv : Bool) (Z : Sc) (F : Sf) : Prop := (∃ u, h 62 = MO u ∧ u 0 = nI th ∧ MuP S sv Z F u) ∧ (∃ f, h 63 = io 27 f ∧ TOK S f S.2.2.1) ∧ (∃ f, h 64 = io 4 f ∧ ∀ i, i < 4 → f i = nI (S.2.2.2.1 i)) ∧ (∃ f, h 65 = io 4 f ∧ ∀ i, i < 4 → f i = nI (S.2.2.2.2 i)) ∧ (∃ f, h 66 = io 27 f ∧ (sv = true → TOK Z f Z.2.2.1)) ∧ (∃ f, h 67 = io 4 f ∧ (sv = true → ∀ i, i < 4 → f i = nI (Z.2.2.2.1 i))) ∧ (∃ f, h 68 = io 4 f ∧ (sv = true → ∀ i, i < 4 → f i = nI (Z.2.2.2.2 i))) ∧ (∃ f, h 69 = io 40 f ∧ ∀ i, i < F.1 → f i = nI (F.2.2.2 i)) ∧ MrP h ∧ ScOK S ∧ ScOK Z ∧ SfOK F ∧ ∀ j, (j < 62 ∨ 87 < j) → h j = G j
theorem RF.o {G h : Hp} {th : Nat} {S Z : Sc} {sv : Bool} {F : Sf} (hR : RF G h th S sv Z F) : ∃ u, h 62 = MO u ∧ u 0 = nI th ∧ MuP S sv Z F u := hR.1
theorem RF.so {G h : Hp} {th : Nat} {S Z : Sc} {sv : Bool} {F : Sf} (hR : RF G h th S sv Z F) : ScOK S := hR.2.2.2.2.2.2.2.2.2.1
theorem RF.tk {G h : Hp} {th : Nat} {S Z : Sc} {sv : Bool} {F : Sf} (hR : RF G h th S sv Z F) : ∃ f, h 63 = io 27 f ∧ TOK S f S.2.2.1 := hR.2.1
/-- the object changed alone, its lasting fields as they were -/
theorem RF.set_o {G h : Hp} {th th' : Nat} {S Z : Sc} {sv : Bool} {F : Sf} {u : Nat → Int32} (hR : RF G h th S sv Z F) (h0 : u 0 = nI th') (hu' : MuP S sv Z F u) : RF G (hu h 62 (MO u)) th' S sv Z F := by
  obtain ⟨p0, ⟨f1, a1, b1⟩, ⟨f2, a2, b2⟩, ⟨f3, a3, b3⟩, ⟨f4, a4, b4⟩, ⟨f5, a5, b5⟩, ⟨f6, a6, b6⟩, ⟨f7, a7, b7⟩, p8, z1, z2, z3, z4⟩ := hR
  exact ⟨⟨u, hu_s _ _ _, h0, hu'⟩, ⟨f1, (hu_n _ _ (by decide)).trans a1, b1⟩, ⟨f2, (hu_n _ _ (by decide)).trans a2, b2⟩, ⟨f3, (hu_n _ _ (by decide)).trans a3, b3⟩, ⟨f4, (hu_n _ _ (by decide)).trans a4, b4⟩, ⟨f5, (hu_n _ _ (by decide)).trans a5, b5⟩, ⟨f6, (hu_n _ _ (by decide)).trans a6, b6⟩, ⟨f7, (hu_n _ _ (by decide)).trans a7, b7⟩, p8.eq (fun j _ _ => hu_n _ _ (by omega)), z1, z2, z3, fun j hj => (hu_n _ _ (by omega)).trans (z4 j hj)⟩
theorem inD {x : Int32} {n : Nat} (hn : 0 < n) (hn2 : n < 2 ^ 31) : (¬ x < nI 0 ∧ ¬ nI (n - 1) < x) ↔ InB x n := by
  unfold InB
  have e0 : (0 : Int32).toInt = 0 := by decide
  have e1 : (nI 0) = 0 := rfl
  rw [e1, Int32.lt_iff_toInt_lt, Int32.lt_iff_toInt_lt, Int32.lt_iff_toInt_lt, nI_toInt hn2, nI_toInt (by omega), e0]
  omega
