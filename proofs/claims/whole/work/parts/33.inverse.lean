/-! ===== InverseSearch, second half: the positions that words of one image share; run; stateFor ===== -/
theorem orN_bit {f : Nat → Nat} {j : Nat} : ∀ n, ((orN f n).testBit j = true ↔ ∃ i, i < n ∧ (f i).testBit j = true)
  | 0 => by simp [orN]
  | n + 1 => by
    rw [orN, Nat.testBit_or, Bool.or_eq_true, orN_bit n]
    refine ⟨fun a => ?_, fun ⟨i, hi, hb⟩ => ?_⟩
    · rcases a with ⟨i, hi, hb⟩ | hb
      · exact ⟨i, by omega, hb⟩
      · exact ⟨n, by omega, hb⟩
    · by_cases e : i = n
      · subst e; exact Or.inr hb
      · exact Or.inl ⟨i, by omega, hb⟩
theorem cnt_le (p : Nat → Bool) : ∀ n, cnt p n ≤ n
  | 0 => Nat.le_refl _
  | n + 1 => by
    have := cnt_le p n
    rw [cnt]
    split <;> omega
theorem cnt_full {p : Nat → Bool} : ∀ n, (cnt p n = n ↔ ∀ i, i < n → p i = true)
  | 0 => by simp [cnt]
  | n + 1 => by
    have h1 := cnt_le p n
    have h2 := cnt_full (p := p) n
    rw [cnt]
    refine ⟨fun a i hi => ?_, fun a => ?_⟩
    · by_cases hp : p n = true
      · rw [if_pos hp] at a
        by_cases e : i = n
        · subst e; exact hp
        · exact h2.mp (by omega) i (by omega)
      · rw [if_neg hp] at a; omega
    · rw [if_pos (a n (by omega)), h2.mpr (fun i hi => a i (by omega))]
theorem cnt_congr {p q : Nat → Bool} : ∀ n, (∀ i, i < n → p i = q i) → cnt p n = cnt q n
  | 0, _ => rfl
  | n + 1, h => by rw [cnt, cnt, cnt_congr n (fun i hi => h i (by omega)), h n (by omega)]
theorem cnt_set {p q : Nat → Bool} {y : Nat} (hq : ∀ i, i ≠ y → q i = p i) (h0 : p y = false) (h1 : q y = true) : ∀ n, y < n → cnt q n = cnt p n + 1
  | 0, h => by omega
  | n + 1, h => by
    rw [cnt, cnt]
    by_cases e : y = n
    · subst e
      rw [h0, h1, cnt_congr y (fun i hi => hq i (by omega))]
      rfl
    · rw [cnt_set hq h0 h1 n (by omega), hq n (fun e2 => e e2.symm)]
      omega
/-- words of one image agree in the cell j; every word is an image -/
def AgP (k wd : Nat) (T : Nat → Nat) (m i j : Nat) : Prop := ∀ x y, x < i → y < i → gIm k wd T m x = gIm k wd T m y → cel k (m + wd - 1) x j = cel k (m + wd - 1) y j
def MeP (k wd : Nat) (T : Nat → Nat) (m : Nat) : Prop := ∀ y, y < k ^ m → ∃ x, x < k ^ (m + wd - 1) ∧ gIm k wd T m x = y
def agB (k wd : Nat) (T : Nat → Nat) (m j : Nat) : Bool := allB (fun x => allB (fun y => decide (gIm k wd T m x ≠ gIm k wd T m y) || decide (cel k (m + wd - 1) x j = cel k (m + wd - 1) y j)) (k ^ (m + wd - 1))) (k ^ (m + wd - 1))
def meB (k wd : Nat) (T : Nat → Nat) (m : Nat) : Bool := allB (fun y => !(allB (fun x => decide (gIm k wd T m x ≠ y)) (k ^ (m + wd - 1)))) (k ^ m)
def inB (k wd : Nat) (T : Nat → Nat) (m j : Nat) : Bool := meB k wd T m && agB k wd T m j
theorem agB_iff {k wd : Nat} {T : Nat → Nat} {m j : Nat} : agB k wd T m j = true ↔ AgP k wd T m (k ^ (m + wd - 1)) j := by
  unfold agB AgP
  rw [allB_iff]
  refine ⟨fun a x y hx hy e => ?_, fun a x hx => ?_⟩
  · have := (allB_iff _).mp (a x hx) y hy
    rw [Bool.or_eq_true] at this
    rcases this with b | b
    · exact absurd e (of_decide_eq_true b)
    · exact of_decide_eq_true b
  · rw [allB_iff]
    intro y hy
    rw [Bool.or_eq_true]
    by_cases e : gIm k wd T m x = gIm k wd T m y
    · exact Or.inr (decide_eq_true (a x y hx hy e))
    · exact Or.inl (decide_eq_true e)
theorem notAll {p : Nat → Bool} : ∀ n, (!(allB p n)) = true ↔ ∃ i, i < n ∧ p i = false
  | 0 => by simp [allB]
  | n + 1 => by
    rw [allB, Bool.not_and, Bool.or_eq_true, notAll n]
    refine ⟨fun a => ?_, fun ⟨i, hi, hb⟩ => ?_⟩
    · rcases a with ⟨i, hi, hb⟩ | hb
      · exact ⟨i, by omega, hb⟩
      · exact ⟨n, by omega, by simpa using hb⟩
    · by_cases e : i = n
      · subst e; exact Or.inr (by rw [hb]; rfl)
      · exact Or.inl ⟨i, by omega, hb⟩
theorem meB_iff {k wd : Nat} {T : Nat → Nat} {m : Nat} : meB k wd T m = true ↔ MeP k wd T m := by
  unfold meB MeP
  rw [allB_iff]
  refine ⟨fun a y hy => ?_, fun a y hy => ?_⟩
  · obtain ⟨x, hx, hb⟩ := (notAll _).mp (a y hy)
    exact ⟨x, hx, Decidable.of_not_not (of_decide_eq_false hb)⟩
  · obtain ⟨x, hx, hb⟩ := a y hy
    exact (notAll _).mpr ⟨x, hx, decide_eq_false (fun e => e hb)⟩
theorem inB_iff {k wd : Nat} {T : Nat → Nat} {m j : Nat} : inB k wd T m j = true ↔ MeP k wd T m ∧ AgP k wd T m (k ^ (m + wd - 1)) j := by
  unfold inB
  rw [Bool.and_eq_true, meB_iff, agB_iff]
def psN (k wd : Nat) (T : Nat → Nat) (m : Nat) : Nat := orN (fun j => if inB k wd T m j then 2 ^ j else 0) (m + wd - 1)
theorem psN_bit {k wd : Nat} {T : Nat → Nat} {m j : Nat} : (psN k wd T m).testBit j = true ↔ j < m + wd - 1 ∧ inB k wd T m j = true := by
  unfold psN
  rw [orN_bit]
  refine ⟨fun ⟨i, hi, hb⟩ => ?_, fun ⟨a, b⟩ => ⟨j, a, by rw [if_pos b, Nat.testBit_two_pow_self]⟩⟩
  by_cases e : inB k wd T m i = true
  · rw [if_pos e, Nat.testBit_two_pow] at hb
    obtain rfl := of_decide_eq_true hb
    exact ⟨hi, e⟩
  · rw [if_neg e, Nat.zero_testBit] at hb
    cases hb
theorem psN_lt {k wd : Nat} {T : Nat → Nat} {m : Nat} : psN k wd T m < 2 ^ (m + wd - 1) := orN_lt _ (fun i hi => by
  split
  · exact Nat.pow_lt_pow_right (by decide) hi
  · exact Nat.pow_pos (by decide))
/-- what the search knows when it has looked at i words -/
def CmI (k wd : Nat) (T : Nat → Nat) (m i P met : Nat) (F : Nat → Int32) : Prop := P < 2 ^ (m + wd - 1) ∧ (∀ j, P.testBit j = true ↔ j < m + wd - 1 ∧ AgP k wd T m i j) ∧ (∀ y, y < k ^ m → (F y = -1 ∧ ∀ x, x < i → gIm k wd T m x ≠ y) ∨ ∃ x, x < i ∧ F y = nI x ∧ gIm k wd T m x = y) ∧ met = cnt (fun y => decide (F y ≠ -1)) (k ^ m)
theorem nI_ne1 {x : Nat} (hx : x < 2 ^ 31) : nI x ≠ -1 := fun e => by
  have h1 := nI_toInt hx
  rw [e] at h1
  have h2 : (-1 : Int32).toInt = -1 := by decide
  omega
theorem CmI.end0 {k wd : Nat} {T : Nat → Nat} {m i P met : Nat} {F : Nat → Int32} (hI : CmI k wd T m i P met F) (hi : i ≤ k ^ (m + wd - 1)) (hP : P = 0) : psN k wd T m = 0 := by
  apply Nat.eq_of_testBit_eq
  intro j
  rw [Nat.zero_testBit]
  cases hb : (psN k wd T m).testBit j
  · rfl
  · obtain ⟨h1, h2⟩ := psN_bit.mp hb
    have h3 := (hI.2.1 j).mpr ⟨h1, fun x y hx hy => (inB_iff.mp h2).2 x y (by omega) (by omega)⟩
    rw [hP, Nat.zero_testBit] at h3
    cases h3
theorem CmI.met {k wd : Nat} {T : Nat → Nat} {m P met : Nat} {F : Nat → Int32} (hN : k ^ (m + wd - 1) < 2 ^ 31) (hI : CmI k wd T m (k ^ (m + wd - 1)) P met F) : met = k ^ m ↔ MeP k wd T m := by
  rw [hI.2.2.2, cnt_full]
  refine ⟨fun a y hy => ?_, fun a y hy => ?_⟩
  · have h1 := of_decide_eq_true (a y hy)
    rcases hI.2.2.1 y hy with ⟨h2, _⟩ | ⟨x, h2, _, h3⟩
    · exact absurd h2 h1
    · exact ⟨x, h2, h3⟩
  · obtain ⟨x, hx, e⟩ := a y hy
    apply decide_eq_true
    rcases hI.2.2.1 y hy with ⟨_, h2⟩ | ⟨x', h2, h3, _⟩
    · exact absurd e (h2 x hx)
    · rw [h3]; exact nI_ne1 (by omega)
theorem CmI.all {k wd : Nat} {T : Nat → Nat} {m P met : Nat} {F : Nat → Int32} (hN : k ^ (m + wd - 1) < 2 ^ 31) (hI : CmI k wd T m (k ^ (m + wd - 1)) P met F) : psN k wd T m = if met = k ^ m then P else 0 := by
  apply Nat.eq_of_testBit_eq
  intro j
  rw [Bool.eq_iff_iff, psN_bit, inB_iff]
  by_cases e : met = k ^ m
  · rw [if_pos e, hI.2.1]
    have := (hI.met hN).mp e
    exact ⟨fun a => ⟨a.1, a.2.2⟩, fun a => ⟨a.1, this, a.2⟩⟩
  · rw [if_neg e, Nat.zero_testBit]
    refine ⟨fun a => absurd ((hI.met hN).mpr a.2.1) e, fun a => by cases a⟩
theorem CmI.new {k wd : Nat} {T : Nat → Nat} {m i P met : Nat} {F : Nat → Int32} (hI : CmI k wd T m i P met F) (hi : i < 2 ^ 31) (hy : gIm k wd T m i < k ^ m) (hF : ∀ x, x < i → gIm k wd T m x ≠ gIm k wd T m i) (hF1 : F (gIm k wd T m i) = -1) : CmI k wd T m (i + 1) P (met + 1) (upd F (gIm k wd T m i) (nI i)) := by
  refine ⟨hI.1, fun j => ?_, fun y hy2 => ?_, ?_⟩
  · rw [hI.2.1]
    refine ⟨fun ⟨a, b⟩ => ⟨a, fun x y hx hy e => ?_⟩, fun ⟨a, b⟩ => ⟨a, fun x y hx hy e => b x y (by omega) (by omega) e⟩⟩
    by_cases e1 : x = i
    · by_cases e2 : y = i
      · rw [e1, e2]
      · rw [e1] at e; exact absurd e.symm (hF y (by omega))
    · by_cases e2 : y = i
      · rw [e2] at e; exact absurd e (hF x (by omega))
      · exact b x y (by omega) (by omega) e
  · by_cases e : y = gIm k wd T m i
    · exact Or.inr ⟨i, by omega, by rw [e, pk_us], e.symm⟩
    · rcases hI.2.2.1 y hy2 with ⟨a, b⟩ | ⟨x, a, b, c⟩
      · refine Or.inl ⟨by rw [pk_un e]; exact a, fun x hx => ?_⟩
        by_cases e1 : x = i
        · rw [e1]; exact fun e2 => e e2.symm
        · exact b x (by omega)
      · exact Or.inr ⟨x, by omega, by rw [pk_un e]; exact b, c⟩
  · rw [hI.2.2.2]
    refine (cnt_set (y := gIm k wd T m i) (fun y hy3 => ?_) ?_ ?_ _ hy).symm
    · show decide _ = decide _
      rw [pk_un hy3]
    · show decide _ = false
      rw [hF1]; rfl
    · show decide _ = true
      rw [pk_us]; exact decide_eq_true (nI_ne1 hi)
theorem CmI.old {k wd : Nat} {T : Nat → Nat} {m i P met x0 : Nat} {F : Nat → Int32} (hI : CmI k wd T m i P met F) (hw : m + wd - 1 ≤ 8) (h0 : x0 < i) (he : gIm k wd T m x0 = gIm k wd T m i) : CmI k wd T m (i + 1) (eqN k x0 i P (m + wd - 1) (m + wd - 1)) met F := by
  refine ⟨Nat.lt_of_le_of_lt (eqN_le _) hI.1, fun j => ?_, fun y hy2 => ?_, hI.2.2.2⟩
  · rw [eqN_bit hI.1 hw j _ (Nat.le_refl _), hI.2.1]
    have key : j < m + wd - 1 → ((∀ e, e < m + wd - 1 → j = m + wd - 1 - 1 - e → x0 / k ^ e % k = i / k ^ e % k) ↔ cel k (m + wd - 1) x0 j = cel k (m + wd - 1) i j) := by
      intro hj
      refine ⟨fun a => a (m + wd - 1 - 1 - j) (by omega) (by omega), fun a e he2 hj2 => ?_⟩
      have e1 : e = m + wd - 1 - 1 - j := by omega
      rw [e1]
      exact a
    refine ⟨fun ⟨⟨a, b⟩, c⟩ => ⟨a, fun x y hx hy e => ?_⟩, fun ⟨a, b⟩ => ⟨⟨a, fun x y hx hy e => b x y (by omega) (by omega) e⟩, (key a).mpr (b x0 i (by omega) (by omega) he)⟩⟩
    have c := (key a).mp c
    by_cases e1 : x = i
    · by_cases e2 : y = i
      · rw [e1, e2]
      · rw [e1, ← c]
        exact b x0 y h0 (by omega) (by rw [he, ← e, e1])
    · by_cases e2 : y = i
      · rw [e2, ← c]
        exact b x x0 (by omega) h0 (by rw [he, e, e2])
      · exact b x y (by omega) (by omega) e
  · rcases hI.2.2.1 y hy2 with ⟨a, b⟩ | ⟨x, a, b, c⟩
    · refine Or.inl ⟨a, fun x hx => ?_⟩
      by_cases e1 : x = i
      · rw [e1, ← he]; exact b x0 h0
      · exact b x (by omega)
    · exact Or.inr ⟨x, by omega, b, c⟩
