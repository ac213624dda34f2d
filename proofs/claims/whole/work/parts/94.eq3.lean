/-! ===== words that go round ===== -/
theorem hw_inj {k : Nat} (hk : 0 < k) {c c' : Nat → Nat} {i i' : Nat} : ∀ d, (∀ j, j < d → c (i + j) < k ∧ c' (i' + j) < k) → (hw k c i d = hw k c' i' d ↔ ∀ j, j < d → c (i + j) = c' (i' + j))
  | 0, _ => ⟨fun _ j hj => absurd hj (by omega), fun _ => rfl⟩
  | d + 1, h => by
    have ih := hw_inj hk (c := c) (c' := c') (i := i) (i' := i') d (fun j hj => h j (by omega))
    obtain ⟨h1, h2⟩ := h d (by omega)
    rw [hw, hw]
    constructor
    · intro e
      have e1 : c (i + d) = c' (i' + d) := by
        have : (hw k c i d * k + c (i + d)) % k = (hw k c' i' d * k + c' (i' + d)) % k := by rw [e]
        rw [Nat.mul_comm, Nat.mul_add_mod, Nat.mod_eq_of_lt h1, Nat.mul_comm, Nat.mul_add_mod, Nat.mod_eq_of_lt h2] at this
        exact this
      rw [e1] at e
      have e2 := ih.mp (Nat.eq_of_mul_eq_mul_right hk (Nat.add_right_cancel e))
      intro j hj
      by_cases q : j = d
      · rw [q]; exact e1
      · exact e2 j (by omega)
    · intro e
      rw [ih.mpr (fun j hj => e j (by omega)), e d (by omega)]
/-- the cells of a word that goes round -/
def cw (k L x : Nat) : Nat → Nat := fun i => cel k L x (i % L)
def ez (k L wd x : Nat) : Nat := hw k (cw k L x) 0 (L + wd - 1)
theorem cw_lt {k L x i : Nat} (hk : 0 < k) : cw k L x i < k := cel_lt hk
theorem ez_lt {k L wd x : Nat} (hk : 0 < k) : ez k L wd x < k ^ (L + wd - 1) := hw_lt 0 _ (fun _ _ => cw_lt hk)
theorem cw_0 {k L x : Nat} (hx : x < k ^ L) : hw k (cw k L x) 0 L = x := by
  rw [hw_congr (c' := cel k L x) (i' := 0) L (fun j hj => by unfold cw; rw [Nat.zero_add, Nat.mod_eq_of_lt hj]), hw_cel0 hx]
theorem ez_eq {k L wd x : Nat} (hw1 : 1 ≤ wd) (hx : x < k ^ L) : ez k L wd x = x * k ^ (wd - 1) + hw k (cw k L x) L (wd - 1) := by
  unfold ez
  rw [show L + wd - 1 = L + (wd - 1) by omega, hw_app, cw_0 hx, Nat.zero_add]
theorem ez_r {k L wd x : Nat} (hk : 0 < k) : hw k (cw k L x) L (wd - 1) < k ^ (wd - 1) := hw_lt L _ (fun _ _ => cw_lt hk)
theorem ez_div {k L wd x : Nat} (hk : 0 < k) (hw1 : 1 ≤ wd) (hx : x < k ^ L) : ez k L wd x / k ^ (wd - 1) = x := by
  rw [ez_eq hw1 hx, Nat.mul_comm, Nat.mul_add_div (Nat.pow_pos hk), Nat.div_eq_of_lt (ez_r hk), Nat.add_zero]
theorem ez_cel {k L wd x i : Nat} (hk : 0 < k) (hi : i < L + wd - 1) : cel k (L + wd - 1) (ez k L wd x) i = cw k L x i := cel_hw hi (fun _ _ => cw_lt hk)
theorem z_first {k L wd z : Nat} (hw1 : 1 ≤ wd) (hz : z < k ^ (L + wd - 1)) : z / k ^ L = hw k (cel k (L + wd - 1) z) 0 (wd - 1) := by
  rw [hw_cel k (L + wd - 1) z 0 (wd - 1) (by omega), show L + wd - 1 - (wd - 1) - 0 = L by omega, Nat.mod_eq_of_lt]
  rcases Nat.eq_zero_or_pos k with q | q
  · subst q
    rcases Nat.eq_zero_or_pos L with q2 | q2
    · rw [q2, Nat.pow_zero, Nat.div_one]
      rw [q2, Nat.zero_add] at hz
      exact hz
    · rw [Nat.zero_pow (by omega)] at hz; omega
  · rw [Nat.div_lt_iff_lt_mul (Nat.pow_pos q), ← Nat.pow_add, show wd - 1 + L = L + wd - 1 by omega]
    exact hz
theorem z_last {k L wd z : Nat} (hw1 : 1 ≤ wd) : z % k ^ (wd - 1) = hw k (cel k (L + wd - 1) z) L (wd - 1) := by
  rw [hw_cel k (L + wd - 1) z L (wd - 1) (by omega), show L + wd - 1 - (wd - 1) - L = 0 by omega, Nat.pow_zero, Nat.div_one]
theorem ez_iff {k L wd z : Nat} (hk : 0 < k) (hL : 1 ≤ L) (hw1 : 1 ≤ wd) (hz : z < k ^ (L + wd - 1)) : z / k ^ L = z % k ^ (wd - 1) ↔ z = ez k L wd (z / k ^ (wd - 1)) := by
  have hx : z / k ^ (wd - 1) < k ^ L := by
    rw [Nat.div_lt_iff_lt_mul (Nat.pow_pos hk), ← Nat.pow_add, show L + (wd - 1) = L + wd - 1 by omega]
    exact hz
  have hfl : z / k ^ L = z % k ^ (wd - 1) ↔ ∀ j, j < wd - 1 → cel k (L + wd - 1) z (0 + j) = cel k (L + wd - 1) z (L + j) := by
    rw [z_first hw1 hz, z_last (L := L) hw1]
    exact hw_inj hk _ (fun j _ => ⟨cel_lt hk, cel_lt hk⟩)
  rw [hfl]
  have hxc : ∀ i, i < L → cel k L (z / k ^ (wd - 1)) i = cel k (L + wd - 1) z i := by
    intro i hi
    unfold cel
    rw [Nat.div_div_eq_div_mul, ← Nat.pow_add, show wd - 1 + (L - 1 - i) = L + wd - 1 - 1 - i by omega]
  constructor
  · intro h
    have per : ∀ n i, i < n → i < L + wd - 1 → cel k (L + wd - 1) z i = cel k (L + wd - 1) z (i % L) := by
      intro n
      induction n with
      | zero => intro i hi; omega
      | succ n ih =>
        intro i hi hi2
        rcases Nat.lt_or_ge i L with q | q
        · rw [Nat.mod_eq_of_lt q]
        · have h1 := h (i - L) (by omega)
          rw [Nat.zero_add, show L + (i - L) = i by omega] at h1
          rw [← h1, ih (i - L) (by omega) (by omega), Nat.mod_eq_sub_mod q]
    have hz2 : z = hw k (cel k (L + wd - 1) z) 0 (L + wd - 1) := (hw_cel0 hz).symm
    rw [hz2] at *
    unfold ez
    have e0 : hw k (cel k (L + wd - 1) z) 0 (L + wd - 1) = z := hw_cel0 hz
    rw [e0]
    conv => lhs; rw [← e0]
    refine hw_congr (L + wd - 1) (fun j hj => ?_)
    rw [Nat.zero_add]
    show _ = cel k L _ (j % L)
    rw [hxc _ (Nat.mod_lt _ (by omega))]
    exact per (j + 1) j (by omega) hj
  · intro h j hj
    have h1 := ez_cel (k := k) (L := L) (wd := wd) (x := z / k ^ (wd - 1)) (i := 0 + j) hk (by omega)
    have h2 := ez_cel (k := k) (L := L) (wd := wd) (x := z / k ^ (wd - 1)) (i := L + j) hk (by omega)
    rw [← h] at h1 h2
    rw [h1, h2]
    unfold cw
    rw [Nat.zero_add, Nat.add_mod_left]
theorem img_hw {k wd : Nat} {T c : Nat → Nat} : ∀ n, img k wd T c n = hw k (fun i => T (hw k c i wd)) 0 n
  | 0 => rfl
  | n + 1 => by rw [img, hw, img_hw n, Nat.zero_add]
/-- the image that goes round, cell by cell -/
theorem cimg_iff {k wd : Nat} {T : Nat → Nat} {L x y : Nat} (hk : 0 < k) (hT : ∀ i, i < k ^ wd → T i < k) (hy : y < k ^ L) : cimg k wd T L x = y ↔ ∀ i, i < L → T (hw k (cw k L x) i wd) = cel k L y i := by
  have e : cimg k wd T L x = hw k (fun i => T (hw k (cw k L x) i wd)) 0 L := img_hw L
  rw [e]
  conv => lhs; rhs; rw [← hw_cel0 hy]
  rw [hw_inj hk (c := fun i => T (hw k (cw k L x) i wd)) (c' := cel k L y) (i := 0) (i' := 0) L (fun j _ => ⟨hT _ (hw_lt _ _ (fun _ _ => cw_lt hk)), cel_lt hk⟩)]
  constructor
  · intro h i hi; have := h i hi; rw [Nat.zero_add] at this; exact this
  · intro h i hi; have := h i hi; rw [Nat.zero_add]; exact this
/-- sums of what is 1 or 0 -/
def ind (p : Prop) [Decidable p] : Nat := if p then 1 else 0
theorem cnt_sumN (p : Nat → Bool) : ∀ n, cnt p n = sumN (fun i => if p i then 1 else 0) n
  | 0 => rfl
  | n + 1 => by rw [cnt, sumN, cnt_sumN p n]
/-- over all words of L + wd - 1 cells, those that go round: one for each word of L cells -/
theorem sum_round {k L wd : Nat} (hk : 0 < k) (hw1 : 1 ≤ wd) {g : Nat → Nat} (Y : Nat) (hY : Y ≤ k ^ L) : sumN (fun z => if z = ez k L wd (z / k ^ (wd - 1)) then g z else 0) (Y * k ^ (wd - 1)) = sumN (fun x => g (ez k L wd x)) Y := by
  rw [sumN_rows]
  refine sumN_congr Y (fun x hx => ?_)
  have hn : 0 < k ^ (wd - 1) := Nat.pow_pos hk
  have hr := ez_r (k := k) (L := L) (wd := wd) (x := x) hk
  have e : sumN (fun s => if x * k ^ (wd - 1) + s = ez k L wd ((x * k ^ (wd - 1) + s) / k ^ (wd - 1)) then g (x * k ^ (wd - 1) + s) else 0) (k ^ (wd - 1)) = sumN (fun s => if hw k (cw k L x) L (wd - 1) = s then g (ez k L wd x) else 0) (k ^ (wd - 1)) := by
    refine sumN_congr _ (fun s hs => ?_)
    rw [vk_div hs, ez_eq hw1 (by omega)]
    by_cases q : hw k (cw k L x) L (wd - 1) = s
    · rw [if_pos q, q, if_pos rfl]
    · rw [if_neg q, if_neg (fun z => q (Nat.add_left_cancel z).symm)]
  rw [e, sumN_delta _ _ _ hr]
