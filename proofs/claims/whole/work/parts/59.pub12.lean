/-! ===== the program's methods: likeness, the least number, numbers that are none ===== -/
theorem PA.set_d {G h : Hp} {S : Sc} {sv : Bool} {Z : Sc} {F : Sf} (hP : PA G h S sv Z F) {d : Nat} {g : Nat → Int32} (hd : d = 60 ∨ d = 61) : PA G (hu h d (io 27 g)) S sv Z F := by
  rcases hd with rfl | rfl
  · exact hP.set_dr (fun j hj => hu_n _ _ (by omega)) ⟨_, hu_s _ _ _⟩
  · exact hP.set_mi (fun j hj => hu_n _ _ (by omega)) ⟨_, hu_s _ _ _⟩
theorem PA.get_d {G h : Hp} {S : Sc} {sv : Bool} {Z : Sc} {F : Sf} (hP : PA G h S sv Z F) {d : Nat} (hd : d = 60 ∨ d = 61) : ∃ g, h d = io 27 g := by
  rcases hd with rfl | rfl
  · exact hP.dr
  · exact hP.mi
def cmT (S : Sc) (T0 : Nat → Nat) : Nat → Nat := fun i => S.1 - 1 - T0 (S.1 ^ S.2.1 - 1 - i)
def mrT (S : Sc) (T0 : Nat → Nat) : Nat → Nat := fun i => T0 (rvw S.1 i S.2.1)
def TOK (S : Sc) (f : Nat → Int32) (T0 : Nat → Nat) : Prop := ∀ i, i < S.1 ^ S.2.1 → f i = nI (T0 i) ∧ T0 i < S.1
theorem com_to {w : Wt} {G h : Hp} {S Z : Sc} {sv : Bool} {F : Sf} {q d : Nat} {f : Nat → Int32} {T0 : Nat → Nat} (hP : PA G h S sv Z F) (hq : h q = io 27 f) (hT : TOK S f T0) (hd : d = 60 ∨ d = 61) (hqd : q ≠ d) : ∃ g, ConN mX6_complementTable 0 (0, 0) w [.ref 1, .ref q, .ref d] h (.inl none) (fun h' => h' = hu h d (io 27 g)) ∧ TOK S g (cmT S T0) ∧ PA G (hu h d (io 27 g)) S sv Z F := by
  have hk := hP.sz.k
  obtain ⟨g, hg⟩ := hP.get_d hd
  exact ⟨_, k_complementTable (T := T0) hP.ru.ro (by omega) (by omega) hP.sz.m hq hg hqd (by omega) hT, fun i hi => ⟨mix_lt hi, by unfold cmT; omega⟩, hP.set_d hd⟩
theorem mir_to {w : Wt} {G h : Hp} {S Z : Sc} {sv : Bool} {F : Sf} {d : Nat} {f : Nat → Int32} (hP : PA G h S sv Z F) (hq : h 2 = io 27 f) (hT : TOK S f S.2.2.1) (hd : d = 60 ∨ d = 61) : ∃ g, ConN mX6_mirrorTable 2 (0, 0) w [.ref 1, .ref 2, .ref d] h (.inl none) (fun h' => ∃ e', h' = hu (hu h 5 (io 4 e')) d (io 27 g)) ∧ TOK S g (mrT S S.2.2.1) ∧ ∀ e', PA G (hu (hu h 5 (io 4 e')) d (io 27 g)) S sv Z F := by
  have hk := hP.sz.k
  have hw := hP.sz.w
  obtain ⟨g, hg⟩ := hP.get_d hd
  obtain ⟨f', gg, e, v, t, a0, a1, a2, a3, a4, a5, a6, a7, a8⟩ := id hP.ru
  refine ⟨_, k_mirrorTable a0 hk (by omega) rfl hP.sz.m hq hg a7 (by omega) (by omega) (by omega) (by decide), fun i hi => ?_, fun e' => ?_⟩
  · rw [mix_lt hi]
    exact hT _ (rvw_lt (by omega) _ _)
  · have h5 : PA G (hu h 5 (io 4 e')) S sv Z F := hP.set_ru (S' := S) hP.so ⟨rfl, rfl⟩ (fun j hj => hu_n _ _ (by omega)) ⟨f', gg, e, e', t, (hu_n _ _ (by omega)).trans a0, (hu_n _ _ (by omega)).trans a1, a2, (hu_n _ _ (by omega)).trans a3, a4, (hu_n _ _ (by omega)).trans a5, a6, hu_s _ _ _, (hu_n _ _ (by omega)).trans a8⟩
    exact h5.set_d hd
theorem num_of {w : Wt} {G h : Hp} {S Z : Sc} {sv : Bool} {F : Sf} {q : Nat} {f : Nat → Int32} {T0 : Nat → Nat} (hP : PA G h S sv Z F) (hq : h q = io 27 f) (hT : TOK S f T0) : ConN mX6_numberOf 0 (0, 0) w [.ref 1, .ref q] h (.inl (some (.long (lN (hor S.1 T0 0 (S.1 ^ S.2.1)))))) (fun h' => h' = h) := by
  have hk := hP.sz.k
  exact k_numberOf hP.ru.ro (by omega) hP.sz.m hq (fun i hi => ⟨(hT i hi).1, by have := (hT i hi).2; omega⟩)
theorem hor_lt {k : Nat} {T : Nat → Nat} (hk : 0 < k) : ∀ d a, (∀ i, a ≤ i → i < a + d → T i < k) → hor k T a d < k ^ d := by
  intro d
  induction d with
  | zero => intro a _; show hor k T a 0 < 1; simp [hor]
  | succ d ih =>
    intro a h
    have h1 := ih (a + 1) (fun i h1 h2 => h i (by omega) (by omega))
    have h2 := h a (Nat.le_refl _) (by omega)
    have h3 : (hor k T (a + 1) d + 1) * k ≤ k ^ d * k := Nat.mul_le_mul_right k h1
    rw [Nat.add_mul, Nat.one_mul] at h3
    rw [Nat.pow_succ]
    show hor k T a (d + 1) < _
    rw [hor]
    omega
