/-! ===== program and reference count the same: numbers, permutive rules, pairs ===== -/
theorem hor_inj {k : Nat} (hk : 0 < k) {T T' : Nat → Nat} : ∀ (n a : Nat), (∀ i, a ≤ i → i < a + n → T i < k ∧ T' i < k) → (hor k T a n = hor k T' a n ↔ ∀ i, a ≤ i → i < a + n → T i = T' i)
  | 0, a, _ => by
    refine ⟨fun _ i h1 h2 => absurd h2 (by omega), fun _ => rfl⟩
  | n + 1, a, h => by
    have ih := hor_inj hk n (a + 1) (fun i h1 h2 => h i (by omega) (by omega))
    obtain ⟨h1, h2⟩ := h a (by omega) (by omega)
    rw [hor, hor]
    constructor
    · intro e
      have e1 : T a = T' a := by
        have : (hor k T (a + 1) n * k + T a) % k = (hor k T' (a + 1) n * k + T' a) % k := by rw [e]
        rw [Nat.mul_comm, Nat.mul_add_mod, Nat.mod_eq_of_lt h1, Nat.mul_comm, Nat.mul_add_mod, Nat.mod_eq_of_lt h2] at this
        exact this
      rw [e1] at e
      have e2 : hor k T (a + 1) n = hor k T' (a + 1) n := Nat.eq_of_mul_eq_mul_right hk (Nat.add_right_cancel e)
      intro i i1 i2
      by_cases q : i = a
      · rw [q]; exact e1
      · exact ih.mp e2 i (by omega) (by omega)
    · intro e
      rw [ih.mpr (fun i i1 i2 => e i (by omega) (by omega)), e a (by omega) (by omega)]
theorem made_eq {S : Sc} {T' : Nat → Nat} (hk : 0 < S.1) (h : ∀ i, i < S.1 ^ S.2.1 → S.2.2.1 i < S.1 ∧ T' i < S.1) : allB (fun i => decide (S.2.2.1 i = T' i)) (S.1 ^ S.2.1) = decide (hN S T' = hN S S.2.2.1) := by
  have hi := hor_inj (T := T') (T' := S.2.2.1) hk (S.1 ^ S.2.1) 0 (fun i _ h2 => ⟨(h i (by omega)).2, (h i (by omega)).1⟩)
  have e : allB (fun i => decide (S.2.2.1 i = T' i)) (S.1 ^ S.2.1) = true ↔ hN S T' = hN S S.2.2.1 := by
    rw [allB_iff]
    unfold hN
    rw [hi]
    constructor
    · intro q i _ h2; exact (of_decide_eq_true (q i (by omega))).symm
    · intro q i h2; exact decide_eq_true (q i (by omega) (by omega)).symm
  by_cases q : hN S T' = hN S S.2.2.1
  · rw [decide_eq_true q]; exact e.mpr q
  · rw [decide_eq_false q]
    rw [← Bool.not_eq_true]
    exact fun z => q (e.mp z)
theorem pm_left {S : Sc} (hs : SZ S.1 S.2.1) : pmP S (S.1 ^ (S.2.1 - 1)) = lfP S := by
  have hn0 := hs.n0
  have hnk := hs.nk
  have hk := hs.k
  have e : pmP S (S.1 ^ (S.2.1 - 1)) = true ↔ lfP S = true := by
    unfold pmP lfP
    rw [allB_iff, allB_iff]
    constructor
    · intro q i hi
      have hle : S.1 ^ (S.2.1 - 1) * 1 ≤ S.1 ^ (S.2.1 - 1) * S.1 := Nat.mul_le_mul_left _ (by omega)
      have := q i (by omega)
      rw [Nat.div_eq_of_lt hi, Nat.zero_mod, Bool.or_eq_true] at this
      rcases this with z | z
      · exact absurd rfl (of_decide_eq_true z)
      · exact z
    · intro q i hi
      rw [Bool.or_eq_true]
      by_cases z : i / S.1 ^ (S.2.1 - 1) % S.1 = 0
      · right
        have h1 : i / S.1 ^ (S.2.1 - 1) < S.1 := (Nat.div_lt_iff_lt_mul hn0).mpr (by rw [Nat.mul_comm, hnk]; exact hi)
        rw [Nat.mod_eq_of_lt h1] at z
        have h2 : i < S.1 ^ (S.2.1 - 1) := by
          rcases Nat.lt_or_ge i (S.1 ^ (S.2.1 - 1)) with q | q
          · exact q
          · exact absurd (Nat.div_pos q hn0) (by omega)
        exact q i h2
      · exact Or.inl (decide_eq_true z)
  cases h1 : lfP S with
  | true => exact e.mpr h1
  | false =>
    rw [← Bool.not_eq_true]
    exact fun z => by rw [e.mp z] at h1; cases h1
theorem pm_right {S : Sc} (hs : SZ S.1 S.2.1) : pmP S 1 = rtP S := by
  have hn0 := hs.n0
  have hnk := hs.nk
  have hk := hs.k
  have e : pmP S 1 = true ↔ rtP S = true := by
    unfold pmP rtP
    rw [allB_iff, allB_iff]
    constructor
    · intro q i hi
      have := q (i * S.1) (by have := vs_lt hs hi (s := 0) (by omega); omega)
      rw [Nat.div_one, Nat.mul_mod_left, Bool.or_eq_true] at this
      rcases this with z | z
      · exact absurd rfl (of_decide_eq_true z)
      · exact z
    · intro q i hi
      rw [Bool.or_eq_true, Nat.div_one]
      by_cases z : i % S.1 = 0
      · right
        have h1 : i = i / S.1 * S.1 := by have := Nat.div_add_mod i S.1; rw [z, Nat.mul_comm] at this; omega
        have h2 : i / S.1 < S.1 ^ (S.2.1 - 1) := (Nat.div_lt_iff_lt_mul (by omega)).mpr (by rw [hnk]; exact hi)
        have := q (i / S.1) h2
        rw [← h1] at this
        exact this
      · exact Or.inl (decide_eq_true z)
  cases h1 : rtP S with
  | true => exact e.mpr h1
  | false =>
    rw [← Bool.not_eq_true]
    exact fun z => by rw [e.mp z] at h1; cases h1
theorem wR_iff (E : Nat → Nat → Bool) (b a c : Nat) : wR E (b + 1) a c = true ↔ wR E b a c = true ∨ (wR E b a b = true ∧ wR E b b c = true) := by
  rw [wR, Bool.or_eq_true, Bool.and_eq_true]
theorem wR_sub {E : Nat → Nat → Bool} {a c : Nat} (h : E a c = true) : ∀ N, wR E N a c = true
  | 0 => h
  | N + 1 => (wR_iff E N a c).mpr (Or.inl (wR_sub h N))
theorem wR_tr (E : Nat → Nat → Bool) : ∀ (N v a c : Nat), v < N → wR E N a v = true → wR E N v c = true → wR E N a c = true
  | 0, v, a, c, h, _, _ => absurd h (by omega)
  | N + 1, v, a, c, h, h1, h2 => by
    have ih := wR_tr E N
    rw [wR_iff] at h1 h2 ⊢
    by_cases e : v = N
    · subst e
      right
      constructor
      · rcases h1 with q | q
        · exact q
        · exact q.1
      · rcases h2 with q | q
        · exact q
        · exact q.2
    · have hv : v < N := by omega
      rcases h1 with q1 | q1
      · rcases h2 with q2 | q2
        · exact Or.inl (ih v a c hv q1 q2)
        · exact Or.inr ⟨ih v a N hv q1 q2.1, q2.2⟩
      · rcases h2 with q2 | q2
        · exact Or.inr ⟨q1.1, ih v N c hv q1.2 q2⟩
        · exact Or.inr ⟨q1.1, q2.2⟩
theorem wR_min {E : Nat → Nat → Bool} {X : Nat → Nat → Prop} (hE : ∀ a c, E a c = true → X a c) (hX : ∀ a b c, X a b → X b c → X a c) : ∀ N a c, wR E N a c = true → X a c
  | 0, a, c, h => hE a c h
  | N + 1, a, c, h => by
    rw [wR_iff] at h
    rcases h with q | q
    · exact wR_min hE hX N a c q
    · exact hX a N c (wR_min hE hX N a N q.1) (wR_min hE hX N N c q.2)
theorem wsh_bit (R : Nat → Nat) : ∀ m i j, (wsh R m i).testBit j = wR (fun a c => (R a).testBit c) m i j
  | 0, _, _ => rfl
  | m + 1, i, j => by
    rw [wsh_s, wR, ← wsh_bit R m i j, ← wsh_bit R m i m, ← wsh_bit R m m j]
    cases h : (wsh R m i).testBit m with
    | true => rw [if_pos rfl, Nat.testBit_or, Bool.true_and]
    | false => rw [if_neg (by decide), Bool.false_and, Bool.or_false]
theorem pr0_bit {k n : Nat} {T : Nat → Nat} {i j : Nat} : (pr0 k n T i).testBit j = true ↔ ∃ s t, s < k ∧ t < k ∧ T (hiP i * k + s) = T (loP i * k + t) ∧ plc ((hiP i * k + s) % n) ((loP i * k + t) % n) = j := by
  unfold pr0 stps
  rw [orN_bit]
  constructor
  · rintro ⟨s, hs, h⟩
    rw [orN_bit] at h
    obtain ⟨t, ht, h⟩ := h
    unfold stp at h
    split at h
    · next e =>
      rw [Nat.testBit_two_pow] at h
      exact ⟨s, t, hs, ht, e, of_decide_eq_true h⟩
    · rw [Nat.zero_testBit] at h; cases h
  · rintro ⟨s, t, hs, ht, e, rfl⟩
    refine ⟨s, hs, ?_⟩
    rw [orN_bit]
    refine ⟨t, ht, ?_⟩
    unfold stp
    rw [if_pos e, Nat.testBit_two_pow_self]
/-- a pair's place has its two nodes -/
theorem plc_hl {p q : Nat} (hp : p < 9) (hq : q < 9) : (q ≤ p ∧ hiP (plc p q) = p ∧ loP (plc p q) = q) ∨ (p < q ∧ hiP (plc p q) = q ∧ loP (plc p q) = p) := by
  rcases Nat.lt_or_ge p q with h | h
  · right
    rw [plc_ge (Nat.le_of_lt h)]
    exact ⟨h, hl_p q hq p (by omega)⟩
  · left
    rw [plc_le h]
    exact ⟨h, hl_p p hp q (by omega)⟩
theorem plc_tri {n p q : Nat} (hn9 : n ≤ 9) (hp : p < n) (hq : q < n) : plc p q < tri n := plc_in n hn9 p hp q hq
theorem pair_of {k n : Nat} {T : Nat → Nat} (hn : 0 < n) (hn9 : n ≤ 9) {p q : Nat} (hp : p < n) (hq : q < n) : wR (eB k n T) 81 (9 * p + q) (9 * p + q) = true ↔ (clo2 k n T (plc p q)).testBit (plc p q) = true := by
  have hU : ∀ i j, (clo2 k n T i).testBit j = wR (fun a c => (pr0 k n T a).testBit c) (tri n) i j := fun i j => wsh_bit _ _ _ _
  rw [hU]
  constructor
  · -- ordered to unordered
    intro h
    have key := wR_min (E := eB k n T) (X := fun a c => a / 9 < n → a % 9 < n → (c / 9 < n ∧ c % 9 < n ∧ wR (fun a c => (pr0 k n T a).testBit c) (tri n) (plc (a / 9) (a % 9)) (plc (c / 9) (c % 9)) = true)) (fun a c hac h1 h2 => ?_) (fun a b c hab hbc h1 h2 => ?_) 81 _ _ h
    · have e1 : (9 * p + q) / 9 = p := by omega
      have e2 : (9 * p + q) % 9 = q := by omega
      rw [e1, e2] at key
      exact (key hp hq).2.2
    · obtain ⟨s, t, hs, ht, -, -, hT, hc⟩ := eB_iff.mp hac
      have g1 : (a / 9 * k + s) % n < n := Nat.mod_lt _ hn
      have g2 : (a % 9 * k + t) % n < n := Nat.mod_lt _ hn
      have c1 : c / 9 = (a / 9 * k + s) % n := by omega
      have c2 : c % 9 = (a % 9 * k + t) % n := by omega
      refine ⟨by omega, by omega, wR_sub ?_ _⟩
      rw [c1, c2, pr0_bit]
      rcases plc_hl (p := a / 9) (q := a % 9) (by omega) (by omega) with ⟨-, l1, l2⟩ | ⟨-, l1, l2⟩
      · exact ⟨s, t, hs, ht, by rw [l1, l2]; exact hT, by rw [l1, l2]⟩
      · exact ⟨t, s, ht, hs, by rw [l1, l2]; exact hT.symm, by rw [l1, l2]; exact plc_cm _ _⟩
    · obtain ⟨b1, b2, b3⟩ := hab h1 h2
      obtain ⟨d1, d2, d3⟩ := hbc b1 b2
      exact ⟨d1, d2, wR_tr _ _ _ _ _ (plc_tri hn9 b1 b2) b3 d3⟩
  · intro h
    have key := wR_min (E := fun a c => (pr0 k n T a).testBit c) (X := fun i j => ∀ p q, p < n → q < n → plc p q = i → ∃ p' q', p' < n ∧ q' < n ∧ plc p' q' = j ∧ wR (eB k n T) 81 (9 * p + q) (9 * p' + q') = true) (fun i j hij p q hp hq hpl => ?_) (fun i j l hij hjl p q hp hq hpl => ?_) (tri n) _ _ h p q hp hq rfl
    · obtain ⟨p', q', hp', hq', hpl, hr⟩ := key
      -- the pair itself, or turned round
      have hcs : (p' = p ∧ q' = q) ∨ (p' = q ∧ q' = p) := by
        rcases plc_hl (p := p') (q := q') (by omega) (by omega) with ⟨-, l1, l2⟩ | ⟨-, l1, l2⟩ <;> rcases plc_hl (p := p) (q := q) (by omega) (by omega) with ⟨-, m1, m2⟩ | ⟨-, m1, m2⟩ <;> rw [hpl] at l1 l2 <;> omega
      rcases hcs with ⟨rfl, rfl⟩ | ⟨rfl, rfl⟩
      · exact hr
      · have sw := wR_min (E := eB k n T) (X := fun a c => c < 81 ∧ wR (eB k n T) 81 (9 * (a % 9) + a / 9) (9 * (c % 9) + c / 9) = true) (fun a c hac => ?_) (fun a b c hab hbc => ?_) 81 _ _ hr
        · have e1 : (9 * q' + p') / 9 = q' := by omega
          have e2 : (9 * q' + p') % 9 = p' := by omega
          have e3 : (9 * p' + q') / 9 = p' := by omega
          have e4 : (9 * p' + q') % 9 = q' := by omega
          rw [e1, e2, e3, e4] at sw
          exact wR_tr _ _ _ _ _ (by omega) hr sw.2
        · obtain ⟨s, t, hs, ht, h1, h2, hT, hc⟩ := eB_iff.mp hac
          have g1 : (a / 9 * k + s) % n < n := Nat.mod_lt _ hn
          have g2 : (a % 9 * k + t) % n < n := Nat.mod_lt _ hn
          refine ⟨by omega, wR_sub (eB_iff.mpr ⟨t, s, ht, hs, ?_⟩) _⟩
          have e1 : (9 * (a % 9) + a / 9) / 9 = a % 9 := by omega
          have e2 : (9 * (a % 9) + a / 9) % 9 = a / 9 := by omega
          rw [e1, e2]
          refine ⟨h2, h1, hT.symm, by omega⟩
        · refine ⟨hbc.1, wR_tr _ _ _ _ _ ?_ hab.2 hbc.2⟩
          have := hab.1
          omega
    · obtain ⟨s, t, hs, ht, hT, hj⟩ := pr0_bit.mp hij
      rw [← hpl] at hT hj
      rcases plc_hl (p := p) (q := q) (by omega) (by omega) with ⟨-, l1, l2⟩ | ⟨-, l1, l2⟩
      · rw [l1, l2] at hT hj
        refine ⟨(p * k + s) % n, (q * k + t) % n, Nat.mod_lt _ hn, Nat.mod_lt _ hn, hj, wR_sub (eB_iff.mpr ⟨s, t, hs, ht, ?_⟩) _⟩
        have e1 : (9 * p + q) / 9 = p := by omega
        have e2 : (9 * p + q) % 9 = q := by omega
        rw [e1, e2]
        exact ⟨hp, hq, hT, rfl⟩
      · rw [l1, l2] at hT hj
        refine ⟨(p * k + t) % n, (q * k + s) % n, Nat.mod_lt _ hn, Nat.mod_lt _ hn, by rw [plc_cm]; exact hj, wR_sub (eB_iff.mpr ⟨t, s, ht, hs, ?_⟩) _⟩
        have e1 : (9 * p + q) / 9 = p := by omega
        have e2 : (9 * p + q) % 9 = q := by omega
        rw [e1, e2]
        exact ⟨hp, hq, hT.symm, rfl⟩
    · obtain ⟨p', q', h1, h2, h3, h4⟩ := hij p q hp hq hpl
      obtain ⟨p2, q2, g1, g2, g3, g4⟩ := hjl p' q' h1 h2 h3
      exact ⟨p2, q2, g1, g2, g3, wR_tr _ _ _ _ _ (by omega) h4 g4⟩
theorem sum_sym {f : Nat → Nat → Nat} (hs : ∀ p q, f p q = f q p) (h0 : ∀ p, f p p = 0) : ∀ n, sumN (fun p => sumN (f p) n) n = sumN (fun a => sumN (fun b => 2 * f a b) a) n
  | 0 => rfl
  | n + 1 => by
    have e1 : sumN (fun p => sumN (f p) (n + 1)) (n + 1) = sumN (fun p => sumN (f p) n + f p n) n + (sumN (f n) n + f n n) := rfl
    have e2 : sumN (fun p => f p n) n = sumN (f n) n := sumN_congr n (fun i _ => hs i n)
    have e3 : sumN (fun b => 2 * f n b) n = sumN (f n) n + sumN (f n) n := by
      rw [← sumN_add]
      exact sumN_congr n (fun i _ => by omega)
    rw [e1, sumN_add, sum_sym hs h0 n, e2, h0, sumN, e3]
    omega
theorem prC_eq {k n : Nat} {T : Nat → Nat} (hn : 0 < n) (hn9 : n ≤ 9) : prC k n T = cycN k n T := by
  have hf : ∀ p q, p < n → q < n → ((p ≠ q ∧ wR (eB k n T) 81 (9 * p + q) (9 * p + q) = true) ↔ (p ≠ q ∧ (clo2 k n T (plc p q)).testBit (plc p q) = true)) := fun p q hp hq => by rw [pair_of hn hn9 hp hq]
  unfold prC cycN
  have e1 : sumN (fun p => sumN (fun q => if p ≠ q ∧ wR (eB k n T) 81 (9 * p + q) (9 * p + q) = true then 1 else 0) n) n = sumN (fun p => sumN (fun q => if p ≠ q ∧ (clo2 k n T (plc p q)).testBit (plc p q) = true then 1 else 0) n) n := by
    refine sumN_congr n (fun p hp => sumN_congr n (fun q hq => ?_))
    by_cases z : p ≠ q ∧ wR (eB k n T) 81 (9 * p + q) (9 * p + q) = true
    · rw [if_pos z, if_pos ((hf p q hp hq).mp z)]
    · rw [if_neg z, if_neg (fun y => z ((hf p q hp hq).mpr y))]
  rw [e1, sum_sym (f := fun p q => if p ≠ q ∧ (clo2 k n T (plc p q)).testBit (plc p q) = true then 1 else 0) (fun p q => ?_) (fun p => if_neg (fun z => z.1 rfl))]
  · refine sumN_congr n (fun a ha => sumN_congr a (fun b hb => ?_))
    unfold cy1
    rw [← plc_le (Nat.le_of_lt hb)]
    by_cases z : (clo2 k n T (plc a b)).testBit (plc a b) = true
    · rw [if_pos ⟨by omega, z⟩, if_pos z]
    · rw [if_neg (fun y => z y.2), if_neg z]
  · rw [plc_cm p q]
    by_cases z : p = q
    · rw [z]
    · by_cases y : (clo2 k n T (plc q p)).testBit (plc q p) = true
      · rw [if_pos ⟨z, y⟩, if_pos ⟨Ne.symm z, y⟩]
      · rw [if_neg (fun x => y x.2), if_neg (fun x => y x.2)]
