/-! ===== fixed words ===== -/
def okF (k wd : Nat) (T : Nat → Nat) : Nat → Nat → Bool
  | 0, _ => true
  | L + 1, z => okF k wd T L (z / k) && decide (T (z % k ^ wd) = z % k ^ wd / k ^ (wd - 1))
theorem okF_iff {k wd : Nat} {T : Nat → Nat} (hk : 0 < k) (hw1 : 1 ≤ wd) : ∀ L z, okF k wd T L z = true ↔ ∀ i, i < L → T (hw k (cel k (L + wd - 1) z) i wd) = cel k (L + wd - 1) z i
  | 0, z => ⟨fun _ i hi => absurd hi (by omega), fun _ => rfl⟩
  | L + 1, z => by
    rw [okF, Bool.and_eq_true, okF_iff hk hw1 L (z / k), decide_eq_true_eq]
    have hM : L + 1 + wd - 1 = L + wd - 1 + 1 := by omega
    have hc : ∀ i, i < L + wd - 1 → cel k (L + 1 + wd - 1) z i = cel k (L + wd - 1) (z / k) i := fun i hi => by rw [hM]; exact cel_s hi
    have hlast : hw k (cel k (L + 1 + wd - 1) z) L wd = z % k ^ wd := by
      rw [hw_cel k (L + 1 + wd - 1) z L wd (by omega), show L + 1 + wd - 1 - wd - L = 0 by omega, Nat.pow_zero, Nat.div_one]
    have hfst : cel k (L + 1 + wd - 1) z L = z % k ^ wd / k ^ (wd - 1) := by
      rw [← hlast]
      obtain ⟨w1, rfl⟩ : ∃ w1, wd = w1 + 1 := ⟨wd - 1, by omega⟩
      rw [hw_s, Nat.add_sub_cancel, Nat.mul_comm, Nat.mul_add_div (Nat.pow_pos hk), Nat.div_eq_of_lt (hw_lt _ _ (fun _ _ => cel_lt hk))]
      exact (Nat.add_zero _).symm
    have hn : ∀ i, i < L → hw k (cel k (L + 1 + wd - 1) z) i wd = hw k (cel k (L + wd - 1) (z / k)) i wd := fun i hi => hw_congr wd (fun j hj => hc _ (by omega))
    constructor
    · rintro ⟨h1, h2⟩ i hi
      by_cases q : i = L
      · rw [q, hlast, hfst]; exact h2
      · rw [hn i (by omega), hc i (by omega)]; exact h1 i (by omega)
    · intro h
      refine ⟨fun i hi => ?_, ?_⟩
      · rw [← hn i hi, ← hc i (by omega)]; exact h i (by omega)
      · have := h L (by omega)
        rw [hlast, hfst] at this
        exact this
theorem ac_sumN (n k : Nat) (p : Nat → Bool) (F : Nat → Nat) (u : Nat) : ∀ t, ac n k p F t u = sumN (fun t => if p t && decide (t % n = u) then F (t / k) else 0) t
  | 0 => rfl
  | t + 1 => by rw [ac, sumN, ac_sumN n k p F u t]
/-- a sum over words by their last node -/
theorem sum_by (n : Nat) (hn : 0 < n) (f : Nat → Nat → Nat) : ∀ M, sumN (fun z => f (z % n) z) M = sumN (fun v => sumN (fun z => if z % n = v then f v z else 0) M) n
  | 0 => (sumN_zero n (fun _ _ => rfl)).symm
  | M + 1 => by
    have e : sumN (fun v => sumN (fun z => if z % n = v then f v z else 0) (M + 1)) n = sumN (fun v => sumN (fun z => if z % n = v then f v z else 0) M + (if M % n = v then f (M % n) M else 0)) n := sumN_congr n (fun v _ => by
      rw [sumN]
      congr 1
      by_cases q : M % n = v
      · rw [if_pos q, if_pos q, q]
      · rw [if_neg q, if_neg q])
    rw [sumN, e, sumN_add, sum_by n hn f M, sumN_delta _ _ _ (Nat.mod_lt _ hn)]
theorem sumN_mul (c : Nat) (f : Nat → Nat) : ∀ n, sumN (fun i => c * f i) n = c * sumN f n
  | 0 => by rw [sumN, sumN, Nat.mul_zero]
  | n + 1 => by rw [sumN, sumN, sumN_mul c f n, Nat.mul_add]
theorem sumN_mulR (c : Nat) (f : Nat → Nat) : ∀ n, sumN (fun i => f i * c) n = sumN f n * c
  | 0 => by rw [sumN, sumN, Nat.zero_mul]
  | n + 1 => by rw [sumN, sumN, sumN_mulR c f n, Nat.add_mul]
theorem fx_count {k wd : Nat} {T : Nat → Nat} (hk : 0 < k) (hw1 : 1 ≤ wd) {v0 : Nat} (hv0 : v0 < k ^ (wd - 1)) : ∀ L u, u < k ^ (wd - 1) → fxW (k ^ (wd - 1)) k T v0 L u = sumN (fun z => if z % k ^ (wd - 1) = u then (if z / k ^ L = v0 ∧ okF k wd T L z = true then 1 else 0) else 0) (k ^ (L + wd - 1))
  | 0, u, hu => by
    rw [show 0 + wd - 1 = wd - 1 by omega]
    show baT v0 u = _
    unfold baT
    have e : sumN (fun z => if z % k ^ (wd - 1) = u then (if z / k ^ 0 = v0 ∧ okF k wd T 0 z = true then 1 else 0) else 0) (k ^ (wd - 1)) = sumN (fun z => if u = z then (if u = v0 then 1 else 0) else 0) (k ^ (wd - 1)) := sumN_congr _ (fun z hz => by
      rw [Nat.mod_eq_of_lt hz, Nat.pow_zero, Nat.div_one]
      by_cases q : z = u
      · subst q
        rw [if_pos rfl, if_pos rfl]
        by_cases q2 : z = v0
        · rw [if_pos ⟨q2, rfl⟩, if_pos q2]
        · rw [if_neg (fun z => q2 z.1), if_neg q2]
      · rw [if_neg q, if_neg (Ne.symm q)])
    rw [e, sumN_delta _ _ _ hu]
  | L + 1, u, hu => by
    have hn : 0 < k ^ (wd - 1) := Nat.pow_pos hk
    have ih := fun v (hv : v < k ^ (wd - 1)) => fx_count (T := T) hk hw1 hv0 L v hv
    -- the program's sum, by edges
    have e1 : fxW (k ^ (wd - 1)) k T v0 (L + 1) u = sumN (fun v => sumN (fun s => if T (v * k + s) = (v * k + s) / k ^ (wd - 1) ∧ (v * k + s) % k ^ (wd - 1) = u then 1 else 0) k * fxW (k ^ (wd - 1)) k T v0 L v) (k ^ (wd - 1)) := by
      show ac _ _ _ _ _ _ = _
      rw [ac_sumN, sumN_rows]
      refine sumN_congr _ (fun v _ => ?_)
      rw [← sumN_mulR]
      refine sumN_congr _ (fun s hs => ?_)
      rw [vk_div hs]
      by_cases q : T (v * k + s) = (v * k + s) / k ^ (wd - 1) ∧ (v * k + s) % k ^ (wd - 1) = u
      · rw [if_pos q, if_pos (by rw [decide_eq_true q.1, decide_eq_true q.2]; rfl), Nat.one_mul]
      · rw [if_neg q, Nat.zero_mul, if_neg (fun z => q (by rw [Bool.and_eq_true, decide_eq_true_eq, decide_eq_true_eq] at z; exact z))]
    -- the words' sum
    have hkw : k ^ (wd - 1) * k = k ^ wd := by rw [← Nat.pow_succ]; congr 1; omega
    have e2 : sumN (fun z => if z % k ^ (wd - 1) = u then (if z / k ^ (L + 1) = v0 ∧ okF k wd T (L + 1) z = true then 1 else 0) else 0) (k ^ (L + 1 + wd - 1)) = sumN (fun z => sumN (fun s => if T (z % k ^ (wd - 1) * k + s) = (z % k ^ (wd - 1) * k + s) / k ^ (wd - 1) ∧ (z % k ^ (wd - 1) * k + s) % k ^ (wd - 1) = u then 1 else 0) k * (if z / k ^ L = v0 ∧ okF k wd T L z = true then 1 else 0)) (k ^ (L + wd - 1)) := by
      rw [show k ^ (L + 1 + wd - 1) = k ^ (L + wd - 1) * k by rw [← Nat.pow_succ]; congr 1; omega, sumN_rows]
      refine sumN_congr _ (fun z hz => ?_)
      rw [← sumN_mulR]
      refine sumN_congr _ (fun s hs => ?_)
      have m1 : (z * k + s) % k ^ wd = z % k ^ (wd - 1) * k + s := by
        obtain ⟨w1, rfl⟩ : ∃ w1, wd = w1 + 1 := ⟨wd - 1, by omega⟩
        rw [mod_mul_s, vk_div hs, vk_mod hs, Nat.add_sub_cancel]
      have m2 : (z * k + s) % k ^ (wd - 1) = (z % k ^ (wd - 1) * k + s) % k ^ (wd - 1) := by
        rw [← m1, Nat.mod_mod_of_dvd _ (Nat.pow_dvd_pow k (by omega))]
      have m3 : (z * k + s) / k ^ (L + 1) = z / k ^ L := by
        rw [Nat.pow_succ, Nat.mul_comm (k ^ L), ← Nat.div_div_eq_div_mul, vk_div hs]
      rw [m2, m3, okF, vk_div hs, m1]
      by_cases q1 : (z % k ^ (wd - 1) * k + s) % k ^ (wd - 1) = u
      · rw [if_pos q1]
        by_cases q2 : T (z % k ^ (wd - 1) * k + s) = (z % k ^ (wd - 1) * k + s) / k ^ (wd - 1)
        · rw [if_pos (show T (z % k ^ (wd - 1) * k + s) = (z % k ^ (wd - 1) * k + s) / k ^ (wd - 1) ∧ (z % k ^ (wd - 1) * k + s) % k ^ (wd - 1) = u from ⟨q2, q1⟩), Nat.one_mul, decide_eq_true q2, Bool.and_true]
        · rw [if_neg (show ¬ (T (z % k ^ (wd - 1) * k + s) = (z % k ^ (wd - 1) * k + s) / k ^ (wd - 1) ∧ (z % k ^ (wd - 1) * k + s) % k ^ (wd - 1) = u) from fun y => q2 y.1), Nat.zero_mul, decide_eq_false q2, Bool.and_false, if_neg (fun y => by cases y.2)]
      · rw [if_neg q1, if_neg (show ¬ (T (z % k ^ (wd - 1) * k + s) = (z % k ^ (wd - 1) * k + s) / k ^ (wd - 1) ∧ (z % k ^ (wd - 1) * k + s) % k ^ (wd - 1) = u) from fun y => q1 y.2), Nat.zero_mul]
    rw [e1, e2, sum_by (k ^ (wd - 1)) hn (fun v z => sumN (fun s => if T (v * k + s) = (v * k + s) / k ^ (wd - 1) ∧ (v * k + s) % k ^ (wd - 1) = u then 1 else 0) k * (if z / k ^ L = v0 ∧ okF k wd T L z = true then 1 else 0))]
    refine sumN_congr _ (fun v hv => ?_)
    rw [ih v hv, ← sumN_mul]
    refine sumN_congr _ (fun z _ => ?_)
    by_cases q : z % k ^ (wd - 1) = v
    · rw [if_pos q, if_pos q]
    · rw [if_neg q, if_neg q, Nat.mul_zero]
theorem fixed_eq {k wd : Nat} {T : Nat → Nat} (hk : 0 < k) (hw1 : 1 ≤ wd) (hT : ∀ i, i < k ^ wd → T i < k) {L : Nat} (hL : 1 ≤ L) : sumN (fun v => fxW (k ^ (wd - 1)) k T v L v) (k ^ (wd - 1)) = cnt (fun z => decide (cimg k wd T L z = z)) (k ^ L) := by
  have hn : 0 < k ^ (wd - 1) := Nat.pow_pos hk
  have e1 : sumN (fun v => fxW (k ^ (wd - 1)) k T v L v) (k ^ (wd - 1)) = sumN (fun v => sumN (fun z => if z % k ^ (wd - 1) = v then (if z / k ^ L = v ∧ okF k wd T L z = true then 1 else 0) else 0) (k ^ (L + wd - 1))) (k ^ (wd - 1)) := sumN_congr _ (fun v hv => fx_count hk hw1 hv L v hv)
  rw [e1, ← sum_by (k ^ (wd - 1)) hn (fun v z => if z / k ^ L = v ∧ okF k wd T L z = true then 1 else 0), cnt_sumN]
  have e2 : sumN (fun z => if z / k ^ L = z % k ^ (wd - 1) ∧ okF k wd T L z = true then 1 else 0) (k ^ (L + wd - 1)) = sumN (fun z => if z = ez k L wd (z / k ^ (wd - 1)) then (if okF k wd T L z = true then 1 else 0) else 0) (k ^ L * k ^ (wd - 1)) := by
    rw [← Nat.pow_add, show L + (wd - 1) = L + wd - 1 by omega]
    refine sumN_congr _ (fun z hz => ?_)
    have hi := ez_iff hk hL hw1 hz
    by_cases q : z = ez k L wd (z / k ^ (wd - 1))
    · rw [if_pos q]
      by_cases q2 : okF k wd T L z = true
      · rw [if_pos q2, if_pos ⟨hi.mpr q, q2⟩]
      · rw [if_neg q2, if_neg (fun y => q2 y.2)]
    · rw [if_neg q, if_neg (fun y => q (hi.mp y.1))]
  rw [e2, sum_round hk hw1 (k ^ L) (Nat.le_refl _)]
  refine sumN_congr _ (fun x hx => ?_)
  have hok : okF k wd T L (ez k L wd x) = true ↔ cimg k wd T L x = x := by
    rw [okF_iff hk hw1, cimg_iff hk hT hx]
    have hc : ∀ i, i < L → hw k (cel k (L + wd - 1) (ez k L wd x)) i wd = hw k (cw k L x) i wd := fun i hi => hw_congr wd (fun j hj => ez_cel hk (by omega))
    constructor
    · intro h i hi
      have := h i hi
      rw [hc i hi, ez_cel hk (by omega)] at this
      rw [this]
      unfold cw
      rw [Nat.mod_eq_of_lt hi]
    · intro h i hi
      rw [hc i hi, ez_cel hk (by omega), h i hi]
      unfold cw
      rw [Nat.mod_eq_of_lt hi]
  by_cases q : cimg k wd T L x = x
  · rw [if_pos (hok.mpr q), if_pos (decide_eq_true q)]
  · rw [if_neg (fun y => q (hok.mp y)), if_neg (by simp [q])]
