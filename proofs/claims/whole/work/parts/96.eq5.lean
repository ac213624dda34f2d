/-! ===== the closed path with a number is the word with that number ===== -/
def vld (k n : Nat) (T lb : Nat → Nat) (len : Nat) (B : Nat → Nat) : Nat → Nat → Nat → Bool
  | 0, v, _ => decide (B v = 1)
  | j + 1, v, e => decide (T (v * k + e / k ^ j) = lb (len - 1 - j)) && vld k n T lb len B j ((v * k + e / k ^ j) % n) (e % k ^ j)
theorem vld_row {k n : Nat} {T lb : Nat → Nat} {len : Nat} {B : Nat → Nat} {j v s i : Nat} (hi : i < k ^ j) : vld k n T lb len B (j + 1) v (s * k ^ j + i) = (decide (T (v * k + s) = lb (len - 1 - j)) && vld k n T lb len B j ((v * k + s) % n) i) := by
  rw [vld, vk_div hi, vk_mod hi]
theorem wB_cnt {k n : Nat} {T lb : Nat → Nat} {len : Nat} {B : Nat → Nat} (hB : ∀ v, B v ≤ 1) : ∀ j v, wB k n T lb len B j v = sumN (fun e => if vld k n T lb len B j v e then 1 else 0) (k ^ j)
  | 0, v => by
    rw [wB, Nat.pow_zero]
    show B v = 0 + (if decide (B v = 1) = true then 1 else 0)
    have := hB v
    by_cases q : B v = 1
    · rw [q]; rfl
    · rw [decide_eq_false q]
      show B v = 0 + 0
      omega
  | j + 1, v => by
    rw [wB, Nat.pow_succ, Nat.mul_comm (k ^ j) k, sumN_rows]
    refine sumN_congr k (fun s hs => ?_)
    have e : sumN (fun i => if vld k n T lb len B (j + 1) v (s * k ^ j + i) then 1 else 0) (k ^ j) = sumN (fun i => if (decide (T (v * k + s) = lb (len - 1 - j)) && vld k n T lb len B j ((v * k + s) % n) i) then 1 else 0) (k ^ j) := sumN_congr _ (fun i hi => by rw [vld_row hi])
    rw [e]
    by_cases q : T (v * k + s) = lb (len - 1 - j)
    · rw [if_pos q, wB_cnt hB j]
      exact sumN_congr _ (fun i _ => by rw [decide_eq_true q, Bool.true_and])
    · rw [if_neg q]
      exact (sumN_zero _ (fun i _ => by rw [decide_eq_false q, Bool.false_and]; rfl)).symm
def pk0 (k n : Nat) (T lb : Nat → Nat) (len : Nat) (B : Nat → Nat) : Nat → Nat → Nat → Nat
  | 0, _, _ => 0
  | j + 1, v, x => selS (wf1 k n T lb len B j v) x (k - 1) * k ^ j + pk0 k n T lb len B j ((v * k + selS (wf1 k n T lb len B j v) x (k - 1)) % n) (x - sumN (wf1 k n T lb len B j v) (selS (wf1 k n T lb len B j v) x (k - 1)))
theorem wkW_pk {k n : Nat} {T lb : Nat → Nat} {len : Nat} {B : Nat → Nat} : ∀ j v word x, wkW k n T lb len B j v word x = word * k ^ j + pk0 k n T lb len B j v x
  | 0, v, word, x => by rw [wkW, pk0, Nat.pow_zero, Nat.mul_one, Nat.add_zero]
  | j + 1, v, word, x => by
    rw [wkW, pk0, wkW_pk j, Nat.add_mul, Nat.mul_assoc, Nat.pow_succ, Nat.mul_comm k (k ^ j), Nat.add_assoc]
theorem sel_ex {f : Nat → Nat} {x : Nat} : ∀ b, x < sumN f (b + 1) → sumN f (selS f x b) ≤ x ∧ x < sumN f (selS f x b + 1)
  | 0, h => ⟨Nat.zero_le _, h⟩
  | b + 1, h => by
    rw [selS]
    split
    · next q => exact ⟨q, h⟩
    · next q => exact sel_ex b (by omega)
theorem pk0_ok {k n : Nat} {T lb : Nat → Nat} {len : Nat} {B : Nat → Nat} (hk : 0 < k) (hB : ∀ v, B v ≤ 1) : ∀ j v x, x < wB k n T lb len B j v → pk0 k n T lb len B j v x < k ^ j ∧ vld k n T lb len B j v (pk0 k n T lb len B j v x) = true ∧ sumN (fun e => if vld k n T lb len B j v e then 1 else 0) (pk0 k n T lb len B j v x) = x
  | 0, v, x, h => by
    rw [wB] at h
    have := hB v
    refine ⟨by rw [pk0, Nat.pow_zero]; decide, decide_eq_true (by omega), ?_⟩
    rw [pk0]
    show 0 = x
    omega
  | j + 1, v, x, h => by
    have h : x < sumN (wf1 k n T lb len B j v) (k - 1 + 1) := by rw [show k - 1 + 1 = k by omega]; exact h
    obtain ⟨h1, h2⟩ := sel_ex (k - 1) h
    have hs := selS_le (wf1 k n T lb len B j v) x (k - 1)
    rw [pk0]
    generalize selS (wf1 k n T lb len B j v) x (k - 1) = s at *
    rw [sumN] at h2
    have hw : x - sumN (wf1 k n T lb len B j v) s < wf1 k n T lb len B j v s := by omega
    have hT : T (v * k + s) = lb (len - 1 - j) := by
      apply Decidable.byContradiction
      intro q
      unfold wf1 at hw
      rw [if_neg q] at hw
      omega
    have hw2 : x - sumN (wf1 k n T lb len B j v) s < wB k n T lb len B j ((v * k + s) % n) := by
      have e : wf1 k n T lb len B j v s = wB k n T lb len B j ((v * k + s) % n) := by
        unfold wf1
        rw [if_pos hT]
      rw [← e]; exact hw
    obtain ⟨i1, i2, i3⟩ := pk0_ok hk hB j _ _ hw2
    generalize pk0 k n T lb len B j ((v * k + s) % n) (x - sumN (wf1 k n T lb len B j v) s) = p at *
    refine ⟨?_, ?_, ?_⟩
    · have h3 : (s + 1) * k ^ j ≤ k * k ^ j := Nat.mul_le_mul_right _ (by omega)
      rw [Nat.add_mul, Nat.one_mul] at h3
      rw [Nat.pow_succ, Nat.mul_comm (k ^ j) k]
      omega
    · rw [vld_row i1, decide_eq_true hT, i2]; rfl
    · rw [sumN_plus, sumN_rows]
      have e1 : sumN (fun s' => sumN (fun i => if vld k n T lb len B (j + 1) v (s' * k ^ j + i) then 1 else 0) (k ^ j)) s = sumN (wf1 k n T lb len B j v) s := by
        refine sumN_congr s (fun s' _ => ?_)
        unfold wf1
        have e : sumN (fun i => if vld k n T lb len B (j + 1) v (s' * k ^ j + i) then 1 else 0) (k ^ j) = sumN (fun i => if (decide (T (v * k + s') = lb (len - 1 - j)) && vld k n T lb len B j ((v * k + s') % n) i) then 1 else 0) (k ^ j) := sumN_congr _ (fun i hi => by rw [vld_row hi])
        rw [e]
        by_cases q : T (v * k + s') = lb (len - 1 - j)
        · rw [if_pos q, wB_cnt hB j]
          exact sumN_congr _ (fun i _ => by rw [decide_eq_true q, Bool.true_and])
        · rw [if_neg q]
          exact sumN_zero _ (fun i _ => by rw [decide_eq_false q, Bool.false_and]; rfl)
      have e2 : sumN (fun i => if vld k n T lb len B (j + 1) v (s * k ^ j + i) then 1 else 0) p = sumN (fun e => if vld k n T lb len B j ((v * k + s) % n) e then 1 else 0) p := sumN_congr p (fun i hi => by rw [vld_row (by omega), decide_eq_true hT, Bool.true_and])
      rw [e1, e2, i3]
      omega
theorem vld_iff {k wd : Nat} {T lb c : Nat → Nat} {B : Nat → Nat} (hk : 0 < k) (hw1 : 1 ≤ wd) (hc : ∀ i, c i < k) : ∀ j i, vld k (k ^ (wd - 1)) T lb (i + j) B j (hw k c i (wd - 1)) (hw k c (i + (wd - 1)) j) = true ↔ (∀ m, i ≤ m → m < i + j → T (hw k c m wd) = lb m) ∧ B (hw k c (i + j) (wd - 1)) = 1
  | 0, i => by
    show decide _ = true ↔ _
    rw [decide_eq_true_eq]
    exact ⟨fun h => ⟨fun m h1 h2 => absurd h2 (by omega), h⟩, fun h => h.2⟩
  | j + 1, i => by
    have hs1 : hw k c (i + (wd - 1)) (j + 1) / k ^ j = c (i + (wd - 1)) := by
      rw [hw_s, Nat.mul_comm, Nat.mul_add_div (Nat.pow_pos hk), Nat.div_eq_of_lt (hw_lt _ _ (fun _ _ => hc _)), Nat.add_zero]
    have hs2 : hw k c (i + (wd - 1)) (j + 1) % k ^ j = hw k c (i + 1 + (wd - 1)) j := by
      rw [hw_drop (fun _ _ => hc _), show i + (wd - 1) + 1 = i + 1 + (wd - 1) by omega]
    have hn : hw k c i (wd - 1) * k + c (i + (wd - 1)) = hw k c i wd := by
      obtain ⟨w1, rfl⟩ : ∃ w1, wd = w1 + 1 := ⟨wd - 1, by omega⟩
      rw [Nat.add_sub_cancel, hw]
    have hg : hw k c i wd % k ^ (wd - 1) = hw k c (i + 1) (wd - 1) := by
      obtain ⟨w1, rfl⟩ : ∃ w1, wd = w1 + 1 := ⟨wd - 1, by omega⟩
      rw [Nat.add_sub_cancel]
      exact hw_drop (fun _ _ => hc _)
    have ih := vld_iff (T := T) (lb := lb) (B := B) hk hw1 hc j (i + 1)
    rw [vld, hs1, hs2, hn, hg, show i + (j + 1) - 1 - j = i by omega, Bool.and_eq_true, decide_eq_true_eq, show i + (j + 1) = i + 1 + j by omega, ih]
    constructor
    · rintro ⟨h1, h2, h3⟩
      refine ⟨fun m m1 m2 => ?_, h3⟩
      by_cases q : m = i
      · rw [q]; exact h1
      · exact h2 m (by omega) (by omega)
    · rintro ⟨h1, h2⟩
      exact ⟨h1 i (by omega) (by omega), fun m m1 m2 => h1 m (by omega) (by omega), h2⟩
/-- the closed path that is a word -/
def zv (k wd : Nat) (T lb : Nat → Nat) (L z : Nat) : Bool := vld k (k ^ (wd - 1)) T lb L (baT (z / k ^ L)) L (z / k ^ L) (z % k ^ L)
theorem zv_iff {k wd : Nat} {T : Nat → Nat} (hk : 0 < k) (hw1 : 1 ≤ wd) (hT : ∀ i, i < k ^ wd → T i < k) {L y z : Nat} (hL : 1 ≤ L) (hy : y < k ^ L) (hz : z < k ^ (L + wd - 1)) : zv k wd T (cel k L y) L z = true ↔ z = ez k L wd (z / k ^ (wd - 1)) ∧ cimg k wd T L (z / k ^ (wd - 1)) = y := by
  have hlo : z % k ^ L = hw k (cel k (L + wd - 1) z) (0 + (wd - 1)) L := by
    rw [hw_cel k (L + wd - 1) z (0 + (wd - 1)) L (by omega), show L + wd - 1 - L - (0 + (wd - 1)) = 0 by omega, Nat.pow_zero, Nat.div_one]
  have hv := vld_iff (T := T) (lb := cel k L y) (c := cel k (L + wd - 1) z) (B := baT (z / k ^ L)) hk hw1 (fun i => cel_lt hk) L 0
  rw [← hlo, ← z_first hw1 hz, Nat.zero_add, ← z_last (L := L) hw1] at hv
  unfold zv
  rw [hv]
  have hB : baT (z / k ^ L) (z % k ^ (wd - 1)) = 1 ↔ z = ez k L wd (z / k ^ (wd - 1)) := by
    rw [← ez_iff hk hL hw1 hz]
    unfold baT
    by_cases q : z % k ^ (wd - 1) = z / k ^ L
    · rw [if_pos q]; exact ⟨fun _ => q.symm, fun _ => rfl⟩
    · rw [if_neg q]; exact ⟨fun h => absurd h (by decide), fun h => absurd h.symm q⟩
  rw [hB]
  have hcc : z = ez k L wd (z / k ^ (wd - 1)) → ((∀ m, 0 ≤ m → m < L → T (hw k (cel k (L + wd - 1) z) m wd) = cel k L y m) ↔ cimg k wd T L (z / k ^ (wd - 1)) = y) := by
    intro h
    rw [cimg_iff hk hT hy]
    have hc : ∀ m, m < L → hw k (cel k (L + wd - 1) z) m wd = hw k (cw k L (z / k ^ (wd - 1))) m wd := by
      intro m hm
      refine hw_congr wd (fun j hj => ?_)
      have := ez_cel (k := k) (L := L) (wd := wd) (x := z / k ^ (wd - 1)) (i := m + j) hk (by omega)
      rw [← h] at this
      exact this
    exact ⟨fun q m hm => by rw [← hc m hm]; exact q m (Nat.zero_le _) hm, fun q m _ hm => by rw [hc m hm]; exact q m hm⟩
  constructor
  · rintro ⟨h1, h2⟩; exact ⟨h2, (hcc h2).mp h1⟩
  · rintro ⟨h1, h2⟩; exact ⟨(hcc h1).mpr h2, h1⟩
theorem short_ok {S : Sc} (hS : ScOK S) (hT : ∀ i, i < S.1 ^ S.2.1 → S.2.2.1 i < S.1) {x n : Nat} (hx : x < 4) (hB : preB S x true n = true) : cimg S.1 S.2.1 S.2.2.1 (S.2.2.2.1 x) (preI S x true n) = S.2.2.2.2 x ∧ cnt (fun z => decide (cimg S.1 S.2.1 S.2.2.1 (S.2.2.2.1 x) z = S.2.2.2.2 x)) (preI S x true n) = n := by
  have hk := hS.1.k
  have hwd := hS.1.w
  have hn0 := hS.1.n0
  obtain ⟨b1, b2⟩ := hS.2 x hx
  have hB : n < if true then pClo S x else pAll S x := of_decide_eq_true hB
  rw [if_pos rfl] at hB
  unfold pClo at hB
  by_cases h0 : S.2.2.2.1 x = 0
  · rw [if_pos h0] at hB; omega
  rw [if_neg h0] at hB
  have hB : n < sumN (clW S.1 (S.1 ^ (S.2.1 - 1)) S.2.2.1 (rlb S x) (S.2.2.2.1 x)) (S.1 ^ (S.2.1 - 1) - 1 + 1) := by rw [show S.1 ^ (S.2.1 - 1) - 1 + 1 = S.1 ^ (S.2.1 - 1) by omega]; exact hB
  obtain ⟨h1, h2⟩ := sel_ex (S.1 ^ (S.2.1 - 1) - 1) hB
  have hv0 := selS_le (clW S.1 (S.1 ^ (S.2.1 - 1)) S.2.2.1 (rlb S x) (S.2.2.2.1 x)) n (S.1 ^ (S.2.1 - 1) - 1)
  have e0 : preI S x true n = (selS (clW S.1 (S.1 ^ (S.2.1 - 1)) S.2.2.1 (rlb S x) (S.2.2.2.1 x)) n (S.1 ^ (S.2.1 - 1) - 1) * S.1 ^ S.2.2.2.1 x + pk0 S.1 (S.1 ^ (S.2.1 - 1)) S.2.2.1 (rlb S x) (S.2.2.2.1 x) (baT (selS (clW S.1 (S.1 ^ (S.2.1 - 1)) S.2.2.1 (rlb S x) (S.2.2.2.1 x)) n (S.1 ^ (S.2.1 - 1) - 1))) (S.2.2.2.1 x) (selS (clW S.1 (S.1 ^ (S.2.1 - 1)) S.2.2.1 (rlb S x) (S.2.2.2.1 x)) n (S.1 ^ (S.2.1 - 1) - 1)) (n - sumN (clW S.1 (S.1 ^ (S.2.1 - 1)) S.2.2.1 (rlb S x) (S.2.2.2.1 x)) (selS (clW S.1 (S.1 ^ (S.2.1 - 1)) S.2.2.1 (rlb S x) (S.2.2.2.1 x)) n (S.1 ^ (S.2.1 - 1) - 1)))) / S.1 ^ (S.2.1 - 1) := by
    unfold preI
    rw [if_pos rfl]
    unfold clN
    rw [wkW_pk]
  rw [e0]
  generalize selS (clW S.1 (S.1 ^ (S.2.1 - 1)) S.2.2.1 (rlb S x) (S.2.2.2.1 x)) n (S.1 ^ (S.2.1 - 1) - 1) = v0 at *
  rw [sumN] at h2
  have hx0 : n - sumN (clW S.1 (S.1 ^ (S.2.1 - 1)) S.2.2.1 (rlb S x) (S.2.2.2.1 x)) v0 < wB S.1 (S.1 ^ (S.2.1 - 1)) S.2.2.1 (rlb S x) (S.2.2.2.1 x) (baT v0) (S.2.2.2.1 x) v0 := by
    have : clW S.1 (S.1 ^ (S.2.1 - 1)) S.2.2.1 (rlb S x) (S.2.2.2.1 x) v0 = wB S.1 (S.1 ^ (S.2.1 - 1)) S.2.2.1 (rlb S x) (S.2.2.2.1 x) (baT v0) (S.2.2.2.1 x) v0 := rfl
    omega
  obtain ⟨p1, p2, p3⟩ := pk0_ok (by omega) (baT_le v0) _ _ _ hx0
  generalize pk0 S.1 (S.1 ^ (S.2.1 - 1)) S.2.2.1 (rlb S x) (S.2.2.2.1 x) (baT v0) (S.2.2.2.1 x) v0 (n - sumN (clW S.1 (S.1 ^ (S.2.1 - 1)) S.2.2.1 (rlb S x) (S.2.2.2.1 x)) v0) = p at *
  have hlb : rlb S x = cel S.1 (S.2.2.2.1 x) (S.2.2.2.2 x) := rfl
  rw [hlb] at h1 h2 hx0 p2 p3
  generalize S.2.2.2.2 x = y at *
  generalize S.2.2.2.1 x = L at *
  generalize S.2.2.1 = T at *
  generalize S.2.1 = wd at *
  generalize S.1 = k at *
  have hk0 : 0 < k := by omega
  have hM : k ^ (L + wd - 1) = k ^ (wd - 1) * k ^ L := by rw [← Nat.pow_add]; congr 1; omega
  have hzl : v0 * k ^ L + p < k ^ (L + wd - 1) := by
    have h3 : (v0 + 1) * k ^ L ≤ k ^ (wd - 1) * k ^ L := Nat.mul_le_mul_right _ (by omega)
    rw [Nat.add_mul, Nat.one_mul] at h3
    omega
  -- it is a word that goes round
  have hzv : zv k wd T (cel k L y) L (v0 * k ^ L + p) = true := by
    unfold zv
    rw [vk_div p1, vk_mod p1]
    exact p2
  obtain ⟨q1, q2⟩ := (zv_iff hk0 (by omega) hT (by omega) b2 hzl).mp hzv
  refine ⟨q2, ?_⟩
  -- its number
  have hcnt : sumN (fun z => if zv k wd T (cel k L y) L z then 1 else 0) (v0 * k ^ L + p) = n := by
    rw [sumN_plus, sumN_rows]
    have e1 : sumN (fun v => sumN (fun s => if zv k wd T (cel k L y) L (v * k ^ L + s) then 1 else 0) (k ^ L)) v0 = sumN (clW k (k ^ (wd - 1)) T (cel k L y) L) v0 := by
      refine sumN_congr v0 (fun v _ => ?_)
      show _ = wB k (k ^ (wd - 1)) T (cel k L y) L (baT v) L v
      rw [wB_cnt (baT_le v)]
      refine sumN_congr _ (fun s hs => ?_)
      unfold zv
      rw [vk_div hs, vk_mod hs]
    have e2 : sumN (fun i => if zv k wd T (cel k L y) L (v0 * k ^ L + i) then 1 else 0) p = sumN (fun e => if vld k (k ^ (wd - 1)) T (cel k L y) L (baT v0) L v0 e then 1 else 0) p := by
      refine sumN_congr p (fun i hi => ?_)
      unfold zv
      rw [vk_div (by omega), vk_mod (by omega)]
    rw [e1, e2, p3]
    omega
  generalize v0 * k ^ L + p = z at *
  have hyl : z / k ^ (wd - 1) < k ^ L := by
    rw [Nat.div_lt_iff_lt_mul hn0, Nat.mul_comm, ← hM]
    exact hzl
  generalize hY : z / k ^ (wd - 1) = Y at *
  rw [q1, ez_eq (by omega) hyl, sumN_plus] at hcnt
  have hr := ez_r (k := k) (L := L) (wd := wd) (x := Y) hk0
  have hYn : (Y + 1) * k ^ (wd - 1) ≤ k ^ L * k ^ (wd - 1) := Nat.mul_le_mul_right _ hyl
  rw [Nat.add_mul, Nat.one_mul, Nat.mul_comm (k ^ L), ← hM] at hYn
  have e1 : sumN (fun z => if zv k wd T (cel k L y) L z then 1 else 0) (Y * k ^ (wd - 1)) = sumN (fun z => if z = ez k L wd (z / k ^ (wd - 1)) then (if cimg k wd T L (z / k ^ (wd - 1)) = y then 1 else 0) else 0) (Y * k ^ (wd - 1)) := by
    refine sumN_congr _ (fun z' hz' => ?_)
    have hi := zv_iff hk0 (show 1 ≤ wd by omega) hT (show 1 ≤ L by omega) b2 (z := z') (by omega)
    by_cases a1 : z' = ez k L wd (z' / k ^ (wd - 1))
    · rw [if_pos a1]
      by_cases a2 : cimg k wd T L (z' / k ^ (wd - 1)) = y
      · rw [if_pos a2, if_pos (hi.mpr ⟨a1, a2⟩)]
      · rw [if_neg a2, if_neg (fun q => a2 (hi.mp q).2)]
    · rw [if_neg a1, if_neg (fun q => a1 (hi.mp q).1)]
  have e2 : sumN (fun i => if zv k wd T (cel k L y) L (Y * k ^ (wd - 1) + i) then 1 else 0) (hw k (cw k L Y) L (wd - 1)) = 0 := by
    refine sumN_zero _ (fun i hi => ?_)
    have hz := zv_iff hk0 (show 1 ≤ wd by omega) hT (show 1 ≤ L by omega) b2 (z := Y * k ^ (wd - 1) + i) (by omega)
    refine if_neg (fun q => ?_)
    have := (hz.mp q).1
    rw [vk_div (by omega), ez_eq (by omega) hyl] at this
    omega
  rw [e1, e2, Nat.add_zero, sum_round hk0 (by omega) Y (by omega)] at hcnt
  rw [cnt_sumN, ← hcnt]
  refine sumN_congr Y (fun x' hx' => ?_)
  rw [ez_div hk0 (by omega) (by omega)]
  by_cases a2 : cimg k wd T L x' = y
  · rw [if_pos a2, if_pos (decide_eq_true a2)]
  · rw [if_neg a2, if_neg (by simp [a2])]
