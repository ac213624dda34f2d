/-! ===== the subset automaton ===== -/
/-- the search in breadth: how many sets, which, from where, by which state -/
abbrev Bt : Type := Nat × (Nat → Nat) × (Nat → Nat) × (Nat → Nat)
def hasB (Q : Nat → Nat) (N S : Nat) : Bool := !(allB (fun j => decide (Q j ≠ S)) N)
theorem hasB_t {Q : Nat → Nat} {N S : Nat} : hasB Q N S = true ↔ ∃ j, j < N ∧ Q j = S := by
  unfold hasB
  rw [Bool.not_eq_true', ← Bool.not_eq_true, allB_iff]
  constructor
  · intro h
    apply Classical.byContradiction
    intro hn
    exact h (fun i hi => by simp; exact fun e => hn ⟨i, hi, e⟩)
  · rintro ⟨j, hj, e⟩ h
    have := h j hj
    simp at this
    exact this e
def bfs (k n : Nat) (T : Nat → Nat) : Nat → Bt
  | 0 => (1, fun _ => 2 ^ n - 1, fun _ => 0, fun _ => 0)
  | t + 1 => if hasB (bfs k n T t).2.1 (bfs k n T t).1 (suc k n T ((bfs k n T t).2.1 (t / k)) (t % k)) then bfs k n T t else ((bfs k n T t).1 + 1, updN (bfs k n T t).2.1 (bfs k n T t).1 (suc k n T ((bfs k n T t).2.1 (t / k)) (t % k)), updN (bfs k n T t).2.2.1 (bfs k n T t).1 (t / k), updN (bfs k n T t).2.2.2 (bfs k n T t).1 (t % k))
theorem bfs_in {k n : Nat} {T : Nat → Nat} (hn : 0 < n) : ∀ t, 1 ≤ (bfs k n T t).1 ∧ (∀ j, j < (bfs k n T t).1 → (bfs k n T t).2.1 j < 2 ^ n) ∧ ∀ a b, a < b → b < (bfs k n T t).1 → (bfs k n T t).2.1 a ≠ (bfs k n T t).2.1 b
  | 0 => ⟨Nat.le_refl _, fun j _ => by
      show 2 ^ n - 1 < 2 ^ n
      have : 0 < 2 ^ n := Nat.pow_pos (by decide)
      omega, fun a b h1 h2 => by
      have h2 : b < 1 := h2
      omega⟩
  | t + 1 => by
    obtain ⟨h1, h2, h3⟩ := bfs_in (k := k) (T := T) hn t
    rw [bfs]
    split
    · exact ⟨h1, h2, h3⟩
    · rename_i hb
      have hb : ∀ j, j < (bfs k n T t).1 → (bfs k n T t).2.1 j ≠ suc k n T ((bfs k n T t).2.1 (t / k)) (t % k) := fun j hj e => hb (hasB_t.mpr ⟨j, hj, e⟩)
      refine ⟨by show 1 ≤ _ + 1; omega, fun j hj => ?_, fun a b hab hb2 => ?_⟩
      · have hj : j < (bfs k n T t).1 + 1 := hj
        show updN _ _ _ j < _
        unfold updN
        split
        · exact suc_lt hn
        · exact h2 j (by omega)
      · have hb2 : b < (bfs k n T t).1 + 1 := hb2
        show updN _ _ _ a ≠ updN _ _ _ b
        unfold updN
        rw [if_neg (by omega)]
        split
        · exact hb a (by omega)
        · exact h3 a b hab (by omega)
theorem bfs_le {k n : Nat} {T : Nat → Nat} (hn : 0 < n) (hn9 : n ≤ 9) (t : Nat) : (bfs k n T t).1 ≤ 512 := by
  obtain ⟨h1, h2, h3⟩ := bfs_in (k := k) (T := T) hn t
  have := php (2 ^ n) _ _ h2 h3
  have h9 := pow_le9 hn9
  omega
/-- what has been found stays -/
theorem bfs_mono {k n : Nat} {T : Nat → Nat} (t : Nat) : ∀ d, (bfs k n T t).1 ≤ (bfs k n T (t + d)).1 ∧ ∀ j, j < (bfs k n T t).1 → (bfs k n T (t + d)).2.1 j = (bfs k n T t).2.1 j ∧ (bfs k n T (t + d)).2.2.1 j = (bfs k n T t).2.2.1 j ∧ (bfs k n T (t + d)).2.2.2 j = (bfs k n T t).2.2.2 j
  | 0 => ⟨Nat.le_refl _, fun _ _ => ⟨rfl, rfl, rfl⟩⟩
  | d + 1 => by
    obtain ⟨h1, h2⟩ := bfs_mono (k := k) (n := n) (T := T) t d
    rw [← Nat.add_assoc, bfs]
    split
    · exact ⟨h1, h2⟩
    · refine ⟨Nat.le_succ_of_le h1, fun j hj => ?_⟩
      obtain ⟨a1, a2, a3⟩ := h2 j hj
      refine ⟨?_, ?_, ?_⟩
      · show updN _ _ _ j = _
        unfold updN; rw [if_neg (by omega)]; exact a1
      · show updN _ _ _ j = _
        unfold updN; rw [if_neg (by omega)]; exact a2
      · show updN _ _ _ j = _
        unfold updN; rw [if_neg (by omega)]; exact a3
/-- a set comes from an earlier one -/
theorem bfs_from {k n : Nat} {T : Nat → Nat} (hk : 0 < k) : ∀ i c, c ≤ k → (∀ i', i' < i → i' < (bfs k n T (i' * k)).1) → (c = 0 ∨ i < (bfs k n T (i * k)).1) → ∀ j, 0 < j → j < (bfs k n T (i * k + c)).1 → (bfs k n T (i * k + c)).2.2.1 j < j ∧ (bfs k n T (i * k + c)).2.2.2 j < k := by
  intro i
  induction i with
  | zero =>
    intro c
    induction c with
    | zero => intro _ _ _ j h1 h2; simp [bfs] at h2; omega
    | succ c ih =>
      intro hck hi0 _ j h1 h2
      have ih := ih (by omega) hi0 (Or.inr (by simp [bfs])) j h1
      rw [← Nat.add_assoc, bfs] at h2 ⊢
      split at h2
      · rename_i hb; rw [if_pos hb]; exact ih h2
      · rename_i hb
        rw [if_neg hb]
        have h2 : j < (bfs k n T (0 * k + c)).1 + 1 := h2
        show updN _ _ _ j < j ∧ updN _ _ _ j < k
        unfold updN
        by_cases e : j = (bfs k n T (0 * k + c)).1
        · rw [if_pos e, if_pos e]
          refine ⟨?_, Nat.mod_lt _ hk⟩
          rw [vk_div (by omega)]; omega
        · rw [if_neg e, if_neg e]; exact ih (by omega)
  | succ i ihi =>
    intro c
    induction c with
    | zero =>
      intro _ hi0 _ j h1 h2
      have e : (i + 1) * k + 0 = i * k + k := by rw [Nat.add_mul, Nat.one_mul, Nat.add_zero]
      rw [e] at h2 ⊢
      exact ihi k (Nat.le_refl _) (fun i' h => hi0 i' (by omega)) (Or.inr (hi0 i (by omega))) j h1 h2
    | succ c ih =>
      intro hck hi0 hic j h1 h2
      have hic : i + 1 < (bfs k n T ((i + 1) * k)).1 := by
        rcases hic with h | h
        · omega
        · exact h
      have ih := ih (by omega) hi0 (Or.inr hic) j h1
      have hm := (bfs_mono (k := k) (n := n) (T := T) ((i + 1) * k) c).1
      rw [← Nat.add_assoc, bfs] at h2 ⊢
      split at h2
      · rename_i hb; rw [if_pos hb]; exact ih h2
      · rename_i hb
        rw [if_neg hb]
        have h2 : j < (bfs k n T ((i + 1) * k + c)).1 + 1 := h2
        show updN _ _ _ j < j ∧ updN _ _ _ j < k
        unfold updN
        by_cases e : j = (bfs k n T ((i + 1) * k + c)).1
        · rw [if_pos e, if_pos e]
          refine ⟨?_, Nat.mod_lt _ hk⟩
          rw [vk_div (by omega)]; omega
        · rw [if_neg e, if_neg e]; exact ih (by omega)
/-- where the search ends -/
def Bend (k n : Nat) (T : Nat → Nat) (e : Nat) : Prop := (bfs k n T (e * k)).1 = e ∧ ∀ i, i < e → i < (bfs k n T (i * k)).1
theorem bend_ex {k n : Nat} {T : Nat → Nat} (hn : 0 < n) (hn9 : n ≤ 9) : ∃ e, e ≤ 512 ∧ Bend k n T e := by
  have hx : ∃ e, (bfs k n T (e * k)).1 ≤ e := ⟨512, bfs_le hn hn9 _⟩
  obtain ⟨e, he, hm⟩ := pk_least _ hx
  have h1 : ∀ i, i < e → i < (bfs k n T (i * k)).1 := fun i hi => Nat.not_le.mp (hm i hi)
  have h2 : e ≤ (bfs k n T (e * k)).1 := by
    rcases Nat.eq_zero_or_pos e with h0 | h0
    · omega
    · have a1 := h1 (e - 1) (by omega)
      have a2 := (bfs_mono (k := k) (n := n) (T := T) ((e - 1) * k) k).1
      rw [show (e - 1) * k + k = e * k by rw [← Nat.succ_mul]; congr 1; omega] at a2
      omega
  have h3 := bfs_le (k := k) (T := T) hn hn9 (e * k)
  exact ⟨e, by omega, by omega, h1⟩
/-- depth and word of a place: by fuel that exceeds the place -/
def dpF (fr : Nat → Nat) : Nat → Nat → Nat
  | 0, _ => 0
  | f + 1, j => if j = 0 then 0 else dpF fr f (fr j) + 1
def wdF (k : Nat) (fr by' : Nat → Nat) : Nat → Nat → Nat
  | 0, _ => 0
  | f + 1, j => if j = 0 then 0 else wdF k fr by' f (fr j) * k + by' j
