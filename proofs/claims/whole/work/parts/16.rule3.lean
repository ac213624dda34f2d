/-! ===== Rule: numbers, properties, sizes; Registers ===== -/
section VZ
variable {X : CT} {μ : Mi} {tab : List ExceptionTableEntry} {d : Nat} {zR : Nat × Nat} {o : Oc} {P : Wt → Hp → Prop} {z : Nat × Nat} {w : Wt} {h : Hp} {pc : Nat} {L : List (Option Value)} {st : List Value}
theorem v_zret1 (C : Cx X μ tab d zR o P) (hd : decode μ.2.1 pc = .ok (.ireturn, 1)) (hr : μ.2.2.2.1 = some .boolean) (ho : o = .inl (some (.int (bI true)))) (hz : z.1 ≤ zR.1 ∧ z.2 ≤ zR.2) (hP : P w h) : V X z w h pc L [.int (nI 1)] := v_zret (b := true) C hd hr ho hz hP
theorem v_zret0 (C : Cx X μ tab d zR o P) (hd : decode μ.2.1 pc = .ok (.ireturn, 1)) (hr : μ.2.2.2.1 = some .boolean) (ho : o = .inl (some (.int (bI false)))) (hz : z.1 ≤ zR.1 ∧ z.2 ≤ zR.2) (hP : P w h) : V X z w h pc L [.int (nI 0)] := v_zret (b := false) C hd hr ho hz hP
end VZ
def allB (p : Nat → Bool) : Nat → Bool
  | 0 => true
  | n + 1 => allB p n && p n
theorem allB_f {p : Nat → Bool} {i : Nat} (hp : p i = false) : ∀ n, i < n → allB p n = false
  | 0, h => by omega
  | n + 1, h => by
    by_cases e : i = n
    · subst e; simp [allB, hp]
    · simp [allB, allB_f hp n (by omega)]
theorem allB_iff {p : Nat → Bool} : ∀ n, allB p n = true ↔ ∀ i, i < n → p i = true
  | 0 => by simp [allB]
  | n + 1 => by
    rw [allB, Bool.and_eq_true, allB_iff n]
    refine ⟨fun ⟨h1, h2⟩ i hi => ?_, fun h1 => ⟨fun i hi => h1 i (by omega), h1 n (by omega)⟩⟩
    by_cases e : i = n
    · subst e; exact h2
    · exact h1 i (by omega)
theorem k_countOfRules {w : Wt} {h : Hp} {r k wd n m : Nat} (hr : h r = RO r k wd n m) (hk : k ≤ 3) (hm : m ≤ 27) : ConN mX6_countOfRules 0 (0, 0) w [.ref r] h (.inl (some (.long (lN (k ^ m))))) (fun h' => h' = h) := by
  refine conI (by decide +kernel) ⟨fun _ => rfl, rfl, by simp⟩ (fun X C => ?_)
  change V X (0, 0) w h 0 [some (.ref r), none, none, none] []
  refine v_lconst C (oX6_countOfRules.at 0 rfl) (v := lN 1) rfl ?_
  refine v_lstore_n C (oX6_countOfRules.at 1 rfl) rfl ?_
  refine v_iconst C (oX6_countOfRules.at 2 rfl) (v := nI 0) rfl ?_
  refine v_istore_n C (oX6_countOfRules.at 3 rfl) rfl ?_
  dsimp only [sto1, sto2, killL]
  suffices H : ∀ j i, i + j = m → V X (0, 0) w h 4 [some (.ref r), some (.long (lN (k ^ i))), none, some (.int (nI i))] [] from H m 0 (by omega)
  intro j
  induction j with
  | zero =>
    intro i hi
    refine v_iload_n C (oX6_countOfRules.at 4 rfl) rfl ?_
    refine v_aload_n C (oX6_countOfRules.at 5 rfl) rfl ?_
    refine v_getf C (oX6_countOfRules.at 6 rfl) fX6_43 hr rfl ?_
    refine v_icmp_geN C (oX6_countOfRules.at 7 rfl) (tgt := 26) (by decide) (by omega) (by omega) (fun hc => ?_) (fun hc => ?_)
    · have e : i = m := by omega
      subst e
      refine v_lload_n C (oX6_countOfRules.at 16 rfl) rfl ?_
      exact v_lret C (oX6_countOfRules.at 17 rfl) rfl rfl ⟨Nat.le_refl _, Nat.le_refl _⟩ ⟨rfl, rfl⟩
    · exact absurd hc (by omega)
  | succ j ih =>
    intro i hi
    refine v_iload_n C (oX6_countOfRules.at 4 rfl) rfl ?_
    refine v_aload_n C (oX6_countOfRules.at 5 rfl) rfl ?_
    refine v_getf C (oX6_countOfRules.at 6 rfl) fX6_43 hr rfl ?_
    refine v_icmp_geN C (oX6_countOfRules.at 7 rfl) (tgt := 26) (by decide) (by omega) (by omega) (fun hc => ?_) (fun hc => ?_)
    · exact absurd hc (by omega)
    · refine v_lload_n C (oX6_countOfRules.at 8 rfl) rfl ?_
      refine v_aload_n C (oX6_countOfRules.at 9 rfl) rfl ?_
      refine v_getf C (oX6_countOfRules.at 10 rfl) fX6_29 hr rfl ?_
      refine v_i2lN C (oX6_countOfRules.at 11 rfl) (by omega) ?_
      refine v_lmulN C (oX6_countOfRules.at 12 rfl) ?_
      refine v_lstore_n C (oX6_countOfRules.at 13 rfl) rfl ?_
      refine v_iincN C (oX6_countOfRules.at 14 rfl) rfl ?_
      refine v_goto C (oX6_countOfRules.at 15 rfl) (tgt := 4) (by decide) ?_
      dsimp only [sto1, sto2, killL]
      rw [← Nat.pow_succ]
      exact ih (i + 1) (by omega)
theorem k_spreadNumber {w : Wt} {h : Hp} {r k wd n m q a : Nat} {g : Nat → Int32} (hr : h r = RO r k wd n m) (hk : k = 2 ∨ k = 3) (hm : m ≤ 27) (ha : a < 2 ^ 63) (hq : h q = io 27 g) (hqr : q ≠ r) : ConN mX6_spreadNumber 0 (0, 0) w [.ref r, .long (lN a), .ref q] h (.inl none) (fun h' => h' = hu h q (io 27 (mix g (fun i => nI (a / k ^ i % k)) m))) := by
  refine conI (by decide +kernel) ⟨fun _ => rfl, rfl, by simp⟩ (fun X C => ?_)
  change V X (0, 0) w h 0 [some (.ref r), some (.long (lN a)), none, some (.ref q), none, none, none] []
  refine v_lload_n C (oX6_spreadNumber.at 0 rfl) rfl ?_
  refine v_lstore C (oX6_spreadNumber.at 1 rfl) rfl ?_
  refine v_iconst C (oX6_spreadNumber.at 2 rfl) (v := nI 0) rfl ?_
  refine v_istore C (oX6_spreadNumber.at 3 rfl) rfl ?_
  dsimp only [sto1, sto2, killL]
  suffices H : ∀ j i, i + j = m → V X (0, 0) w (hu h q (io 27 (mix g (fun i => nI (a / k ^ i % k)) i))) 6 [some (.ref r), some (.long (lN a)), none, some (.ref q), some (.long (lN (a / k ^ i))), none, some (.int (nI i))] [] by
    have := H m 0 (by omega)
    rw [mix_0, hu_id h hq, Nat.pow_zero, Nat.div_one] at this
    exact this
  intro j
  induction j with
  | zero =>
    intro i hi
    refine v_iload C (oX6_spreadNumber.at 4 rfl) rfl ?_
    refine v_aload_n C (oX6_spreadNumber.at 5 rfl) rfl ?_
    refine v_getf C (oX6_spreadNumber.at 6 rfl) fX6_43 ((hu_n _ _ (Ne.symm hqr)).trans hr) rfl ?_
    refine v_icmp_geN C (oX6_spreadNumber.at 7 rfl) (tgt := 74) (by decide) (by omega) (by omega) (fun hc => ?_) (fun hc => ?_)
    · have e : i = m := by omega
      subst e
      exact v_vret C (oX6_spreadNumber.at 37 rfl) rfl rfl ⟨Nat.le_refl _, Nat.le_refl _⟩ ⟨rfl, rfl⟩
    · exact absurd hc (by omega)
  | succ j ih =>
    intro i hi
    have hai : a / k ^ i < 2 ^ 63 := ndiv_lt ha
    refine v_iload C (oX6_spreadNumber.at 4 rfl) rfl ?_
    refine v_aload_n C (oX6_spreadNumber.at 5 rfl) rfl ?_
    refine v_getf C (oX6_spreadNumber.at 6 rfl) fX6_43 ((hu_n _ _ (Ne.symm hqr)).trans hr) rfl ?_
    refine v_icmp_geN C (oX6_spreadNumber.at 7 rfl) (tgt := 74) (by decide) (by omega) (by omega) (fun hc => ?_) (fun hc => ?_)
    · exact absurd hc (by omega)
    · rcases hk with rfl | rfl
      · refine v_aload_n C (oX6_spreadNumber.at 8 rfl) rfl ?_
        refine v_iload C (oX6_spreadNumber.at 9 rfl) rfl ?_
        refine v_aload_n C (oX6_spreadNumber.at 10 rfl) rfl ?_
        refine v_getf C (oX6_spreadNumber.at 11 rfl) fX6_29 ((hu_n _ _ (Ne.symm hqr)).trans hr) rfl ?_
        refine v_iconst C (oX6_spreadNumber.at 12 rfl) (v := nI 2) rfl ?_
        refine v_icmp_neN C (oX6_spreadNumber.at 13 rfl) (tgt := 35) (by decide) (by omega) (by omega) (fun hc => ?_) (fun hc => ?_)
        · exact absurd rfl hc
        · refine v_lload C (oX6_spreadNumber.at 14 rfl) rfl ?_
          refine v_ldc2 C (v := lN 2) (tj3 121 (by rfl) rfl) (oX6_spreadNumber.at 15 rfl) ?_
          refine v_lremN C (oX6_spreadNumber.at 16 rfl) (by omega) (by omega) (by omega) ?_
          refine v_goto C (oX6_spreadNumber.at 17 rfl) (tgt := 41) (by decide) ?_
          refine v_l2iN C (oX6_spreadNumber.at 21 rfl) ?_
          refine v_iast C (oX6_spreadNumber.at 22 rfl) (hu_s _ _ _) (by decide) rfl (by omega) ?_
          rw [hu_hu, mix_s _ _ _ _ rfl]
          refine v_aload_n C (oX6_spreadNumber.at 23 rfl) rfl ?_
          refine v_getf C (oX6_spreadNumber.at 24 rfl) fX6_29 ((hu_n _ _ (Ne.symm hqr)).trans hr) rfl ?_
          refine v_iconst C (oX6_spreadNumber.at 25 rfl) (v := nI 2) rfl ?_
          refine v_icmp_neN C (oX6_spreadNumber.at 26 rfl) (tgt := 60) (by decide) (by omega) (by omega) (fun hc => ?_) (fun hc => ?_)
          · exact absurd rfl hc
          · refine v_lload C (oX6_spreadNumber.at 27 rfl) rfl ?_
            refine v_ldc2 C (v := lN 2) (tj3 121 (by rfl) rfl) (oX6_spreadNumber.at 28 rfl) ?_
            refine v_ldivN C (oX6_spreadNumber.at 29 rfl) (by omega) (by omega) (by omega) ?_
            refine v_goto C (oX6_spreadNumber.at 30 rfl) (tgt := 66) (by decide) ?_
            refine v_lstore C (oX6_spreadNumber.at 34 rfl) rfl ?_
            refine v_iincN C (oX6_spreadNumber.at 35 rfl) rfl ?_
            refine v_goto C (oX6_spreadNumber.at 36 rfl) (tgt := 6) (by decide) ?_
            dsimp only [sto1, sto2, killL]
            rw [ndiv_s]
            exact ih (i + 1) (by omega)
      · refine v_aload_n C (oX6_spreadNumber.at 8 rfl) rfl ?_
        refine v_iload C (oX6_spreadNumber.at 9 rfl) rfl ?_
        refine v_aload_n C (oX6_spreadNumber.at 10 rfl) rfl ?_
        refine v_getf C (oX6_spreadNumber.at 11 rfl) fX6_29 ((hu_n _ _ (Ne.symm hqr)).trans hr) rfl ?_
        refine v_iconst C (oX6_spreadNumber.at 12 rfl) (v := nI 2) rfl ?_
        refine v_icmp_neN C (oX6_spreadNumber.at 13 rfl) (tgt := 35) (by decide) (by omega) (by omega) (fun hc => ?_) (fun hc => ?_)
        · refine v_lload C (oX6_spreadNumber.at 18 rfl) rfl ?_
          refine v_ldc2 C (v := lN 3) (tj3 122 (by rfl) rfl) (oX6_spreadNumber.at 19 rfl) ?_
          refine v_lremN C (oX6_spreadNumber.at 20 rfl) (by omega) (by omega) (by omega) ?_
          refine v_l2iN C (oX6_spreadNumber.at 21 rfl) ?_
          refine v_iast C (oX6_spreadNumber.at 22 rfl) (hu_s _ _ _) (by decide) rfl (by omega) ?_
          rw [hu_hu, mix_s _ _ _ _ rfl]
          refine v_aload_n C (oX6_spreadNumber.at 23 rfl) rfl ?_
          refine v_getf C (oX6_spreadNumber.at 24 rfl) fX6_29 ((hu_n _ _ (Ne.symm hqr)).trans hr) rfl ?_
          refine v_iconst C (oX6_spreadNumber.at 25 rfl) (v := nI 2) rfl ?_
          refine v_icmp_neN C (oX6_spreadNumber.at 26 rfl) (tgt := 60) (by decide) (by omega) (by omega) (fun hc => ?_) (fun hc => ?_)
          · refine v_lload C (oX6_spreadNumber.at 31 rfl) rfl ?_
            refine v_ldc2 C (v := lN 3) (tj3 122 (by rfl) rfl) (oX6_spreadNumber.at 32 rfl) ?_
            refine v_ldivN C (oX6_spreadNumber.at 33 rfl) (by omega) (by omega) (by omega) ?_
            refine v_lstore C (oX6_spreadNumber.at 34 rfl) rfl ?_
            refine v_iincN C (oX6_spreadNumber.at 35 rfl) rfl ?_
            refine v_goto C (oX6_spreadNumber.at 36 rfl) (tgt := 6) (by decide) ?_
            dsimp only [sto1, sto2, killL]
            rw [ndiv_s]
            exact ih (i + 1) (by omega)
          · cases hc
        · cases hc
/-- the outputs at a, a + st .. as bits -/
def snB (f : Nat → Int32) (a st : Nat) : Nat → Int32
  | 0 => nI 0
  | s + 1 => snB f a st s ||| (nI 1 <<< (f (a + s * st) &&& 31))
def dfB (f : Nat → Int32) (k a st : Nat) : Bool := decide (snB f a st k = (nI 1 <<< (nI k &&& 31)) - nI 1)
theorem k_areDifferent {w : Wt} {h : Hp} {r k wd n m a st : Nat} {f : Nat → Int32} (hr : h r = RO r k wd n m) (hk : k ≤ 3) (ht : h (r + 1) = io 27 f) (hb : ∀ s, s < k → a + s * st < 27) : ConN mX6_areDifferent 0 (0, 0) w [.ref r, .int (nI a), .int (nI st)] h (.inl (some (.int (bI (dfB f k a st))))) (fun h' => h' = h) := by
  refine conI (by decide +kernel) ⟨fun _ => rfl, rfl, by simp⟩ (fun X C => ?_)
  change V X (0, 0) w h 0 [some (.ref r), some (.int (nI a)), some (.int (nI st)), none, none] []
  refine v_iconst C (oX6_areDifferent.at 0 rfl) (v := nI 0) rfl ?_
  refine v_istore_n C (oX6_areDifferent.at 1 rfl) rfl ?_
  refine v_iconst C (oX6_areDifferent.at 2 rfl) (v := nI 0) rfl ?_
  refine v_istore C (oX6_areDifferent.at 3 rfl) rfl ?_
  dsimp only [sto1, sto2, killL]
  suffices H : ∀ j i, i + j = k → V X (0, 0) w h 5 [some (.ref r), some (.int (nI a)), some (.int (nI st)), some (.int (snB f a st i)), some (.int (nI i))] [] from H k 0 (by omega)
  intro j
  induction j with
  | zero =>
    intro i hi
    refine v_iload C (oX6_areDifferent.at 4 rfl) rfl ?_
    refine v_aload_n C (oX6_areDifferent.at 5 rfl) rfl ?_
    refine v_getf C (oX6_areDifferent.at 6 rfl) fX6_29 hr rfl ?_
    refine v_icmp_geN C (oX6_areDifferent.at 7 rfl) (tgt := 36) (by decide) (by omega) (by omega) (fun hc => ?_) (fun hc => ?_)
    · have e : i = k := by omega
      subst e
      refine v_iload_n C (oX6_areDifferent.at 23 rfl) rfl ?_
      refine v_iconst C (oX6_areDifferent.at 24 rfl) (v := nI 1) rfl ?_
      refine v_aload_n C (oX6_areDifferent.at 25 rfl) rfl ?_
      refine v_getf C (oX6_areDifferent.at 26 rfl) fX6_29 hr rfl ?_
      refine v_ishl C (oX6_areDifferent.at 27 rfl) ?_
      refine v_iconst C (oX6_areDifferent.at 28 rfl) (v := nI 1) rfl ?_
      refine v_isub C (oX6_areDifferent.at 29 rfl) ?_
      refine v_icmp_ne C (oX6_areDifferent.at 30 rfl) (tgt := 52) (by decide) (fun hc => ?_) (fun hc => ?_)
      · have e2 : dfB f i a st = false := by unfold dfB; simp [hc]
        rw [e2] at C
        refine v_iconst C (oX6_areDifferent.at 33 rfl) (v := nI 0) rfl ?_
        exact v_zret0 C (oX6_areDifferent.at 34 rfl) rfl rfl ⟨Nat.le_refl _, Nat.le_refl _⟩ ⟨rfl, rfl⟩
      · have e2 : dfB f i a st = true := by unfold dfB; simp [hc]
        rw [e2] at C
        refine v_iconst C (oX6_areDifferent.at 31 rfl) (v := nI 1) rfl ?_
        refine v_goto C (oX6_areDifferent.at 32 rfl) (tgt := 53) (by decide) ?_
        exact v_zret1 C (oX6_areDifferent.at 34 rfl) rfl rfl ⟨Nat.le_refl _, Nat.le_refl _⟩ ⟨rfl, rfl⟩
    · exact absurd hc (by omega)
  | succ j ih =>
    intro i hi
    refine v_iload C (oX6_areDifferent.at 4 rfl) rfl ?_
    refine v_aload_n C (oX6_areDifferent.at 5 rfl) rfl ?_
    refine v_getf C (oX6_areDifferent.at 6 rfl) fX6_29 hr rfl ?_
    refine v_icmp_geN C (oX6_areDifferent.at 7 rfl) (tgt := 36) (by decide) (by omega) (by omega) (fun hc => ?_) (fun hc => ?_)
    · exact absurd hc (by omega)
    · refine v_iload_n C (oX6_areDifferent.at 8 rfl) rfl ?_
      refine v_iconst C (oX6_areDifferent.at 9 rfl) (v := nI 1) rfl ?_
      refine v_aload_n C (oX6_areDifferent.at 10 rfl) rfl ?_
      refine v_getf C (oX6_areDifferent.at 11 rfl) fX6_9 hr rfl ?_
      refine v_iload_n C (oX6_areDifferent.at 12 rfl) rfl ?_
      refine v_iload C (oX6_areDifferent.at 13 rfl) rfl ?_
      refine v_iload_n C (oX6_areDifferent.at 14 rfl) rfl ?_
      refine v_imulN C (oX6_areDifferent.at 15 rfl) ?_
      refine v_iaddN C (oX6_areDifferent.at 16 rfl) ?_
      refine v_iald C (oX6_areDifferent.at 17 rfl) ht (by decide) rfl (hb _ (by omega)) rfl ?_
      refine v_ishl C (oX6_areDifferent.at 18 rfl) ?_
      refine v_ior C (oX6_areDifferent.at 19 rfl) ?_
      refine v_istore_n C (oX6_areDifferent.at 20 rfl) rfl ?_
      refine v_iincN C (oX6_areDifferent.at 21 rfl) rfl ?_
      refine v_goto C (oX6_areDifferent.at 22 rfl) (tgt := 5) (by decide) ?_
      dsimp only [sto1, sto2, killL]
      exact ih (i + 1) (by omega)
theorem k_isLeftPermutive {w : Wt} {h : Hp} {r k wd n m : Nat} {f : Nat → Int32} (hr : h r = RO r k wd n m) (hk : k ≤ 3) (hn : n ≤ 9) (hnk : n * k ≤ 27) (ht : h (r + 1) = io 27 f) : ConN mX6_isLeftPermutive 1 (0, 0) w [.ref r] h (.inl (some (.int (bI (allB (fun i => dfB f k i n) n))))) (fun h' => h' = h) := by
  refine conI (by decide +kernel) ⟨fun _ => rfl, rfl, by simp⟩ (fun X C => ?_)
  change V X (0, 0) w h 0 [some (.ref r), none] []
  refine v_iconst C (oX6_isLeftPermutive.at 0 rfl) (v := nI 0) rfl ?_
  refine v_istore_n C (oX6_isLeftPermutive.at 1 rfl) rfl ?_
  dsimp only [sto1, sto2, killL]
  suffices H : ∀ j i, i + j = n → allB (fun i => dfB f k i n) i = true → V X (0, 0) w h 2 [some (.ref r), some (.int (nI i))] [] from H n 0 (by omega) rfl
  intro j
  induction j with
  | zero =>
    intro i hi hall
    refine v_iload_n C (oX6_isLeftPermutive.at 2 rfl) rfl ?_
    refine v_aload_n C (oX6_isLeftPermutive.at 3 rfl) rfl ?_
    refine v_getf C (oX6_isLeftPermutive.at 4 rfl) fX6_40 hr rfl ?_
    refine v_icmp_geN C (oX6_isLeftPermutive.at 5 rfl) (tgt := 30) (by decide) (by omega) (by omega) (fun hc => ?_) (fun hc => ?_)
    · have e : i = n := by omega
      subst e
      rw [hall] at C
      refine v_iconst C (oX6_isLeftPermutive.at 16 rfl) (v := nI 1) rfl ?_
      exact v_zret1 C (oX6_isLeftPermutive.at 17 rfl) rfl rfl ⟨Nat.le_refl _, Nat.le_refl _⟩ ⟨rfl, rfl⟩
    · exact absurd hc (by omega)
  | succ j ih =>
    intro i hi hall
    have hb : ∀ s, s < k → i + s * n < 27 := fun s hs => by
      have : (s + 1) * n ≤ k * n := Nat.mul_le_mul_right n hs
      rw [Nat.add_mul, Nat.mul_comm k n] at this
      omega
    refine v_iload_n C (oX6_isLeftPermutive.at 2 rfl) rfl ?_
    refine v_aload_n C (oX6_isLeftPermutive.at 3 rfl) rfl ?_
    refine v_getf C (oX6_isLeftPermutive.at 4 rfl) fX6_40 hr rfl ?_
    refine v_icmp_geN C (oX6_isLeftPermutive.at 5 rfl) (tgt := 30) (by decide) (by omega) (by omega) (fun hc => ?_) (fun hc => ?_)
    · exact absurd hc (by omega)
    · refine v_aload_n C (oX6_isLeftPermutive.at 6 rfl) rfl ?_
      refine v_iload_n C (oX6_isLeftPermutive.at 7 rfl) rfl ?_
      refine v_aload_n C (oX6_isLeftPermutive.at 8 rfl) rfl ?_
      refine v_getf C (oX6_isLeftPermutive.at 9 rfl) fX6_40 hr rfl ?_
      refine v_callV C (oX6_isLeftPermutive.at 10 rfl) cX6_66 hr (k_areDifferent hr hk ht hb) rfl rfl rfl ⟨rfl, rfl⟩ rfl rfl (fun _ => rfl) (fun h' hp => ?_)
      rw [show h' = _ from hp]
      dsimp only [Option.toList, List.cons_append, List.nil_append]
      refine v_if_neB C (oX6_isLeftPermutive.at 11 rfl) (tgt := 24) (by decide) (fun hc => ?_) (fun hc => ?_)
      · refine v_iincN C (oX6_isLeftPermutive.at 14 rfl) rfl ?_
        refine v_goto C (oX6_isLeftPermutive.at 15 rfl) (tgt := 2) (by decide) ?_
        dsimp only [sto1, sto2, killL]
        exact ih (i + 1) (by omega) (by simp [allB, hall, hc])
      · rw [allB_f (p := fun i => dfB f k i n) (i := i) hc n (by omega)] at C
        refine v_iconst C (oX6_isLeftPermutive.at 12 rfl) (v := nI 0) rfl ?_
        exact v_zret0 C (oX6_isLeftPermutive.at 13 rfl) rfl rfl ⟨Nat.le_refl _, Nat.le_refl _⟩ ⟨rfl, rfl⟩
theorem k_isRightPermutive {w : Wt} {h : Hp} {r k wd n m : Nat} {f : Nat → Int32} (hr : h r = RO r k wd n m) (hk : k ≤ 3) (hn : n ≤ 9) (hnk : n * k ≤ 27) (ht : h (r + 1) = io 27 f) : ConN mX6_isRightPermutive 1 (0, 0) w [.ref r] h (.inl (some (.int (bI (allB (fun i => dfB f k (i * k) 1) n))))) (fun h' => h' = h) := by
  refine conI (by decide +kernel) ⟨fun _ => rfl, rfl, by simp⟩ (fun X C => ?_)
  change V X (0, 0) w h 0 [some (.ref r), none] []
  refine v_iconst C (oX6_isRightPermutive.at 0 rfl) (v := nI 0) rfl ?_
  refine v_istore_n C (oX6_isRightPermutive.at 1 rfl) rfl ?_
  dsimp only [sto1, sto2, killL]
  suffices H : ∀ j i, i + j = n → allB (fun i => dfB f k (i * k) 1) i = true → V X (0, 0) w h 2 [some (.ref r), some (.int (nI i))] [] from H n 0 (by omega) rfl
  intro j
  induction j with
  | zero =>
    intro i hi hall
    refine v_iload_n C (oX6_isRightPermutive.at 2 rfl) rfl ?_
    refine v_aload_n C (oX6_isRightPermutive.at 3 rfl) rfl ?_
    refine v_getf C (oX6_isRightPermutive.at 4 rfl) fX6_40 hr rfl ?_
    refine v_icmp_geN C (oX6_isRightPermutive.at 5 rfl) (tgt := 32) (by decide) (by omega) (by omega) (fun hc => ?_) (fun hc => ?_)
    · have e : i = n := by omega
      subst e
      rw [hall] at C
      refine v_iconst C (oX6_isRightPermutive.at 18 rfl) (v := nI 1) rfl ?_
      exact v_zret1 C (oX6_isRightPermutive.at 19 rfl) rfl rfl ⟨Nat.le_refl _, Nat.le_refl _⟩ ⟨rfl, rfl⟩
    · exact absurd hc (by omega)
  | succ j ih =>
    intro i hi hall
    have hb : ∀ s, s < k → i * k + s * 1 < 27 := fun s hs => by
      have : (i + 1) * k ≤ n * k := Nat.mul_le_mul_right k (by omega)
      rw [Nat.add_mul] at this
      omega
    refine v_iload_n C (oX6_isRightPermutive.at 2 rfl) rfl ?_
    refine v_aload_n C (oX6_isRightPermutive.at 3 rfl) rfl ?_
    refine v_getf C (oX6_isRightPermutive.at 4 rfl) fX6_40 hr rfl ?_
    refine v_icmp_geN C (oX6_isRightPermutive.at 5 rfl) (tgt := 32) (by decide) (by omega) (by omega) (fun hc => ?_) (fun hc => ?_)
    · exact absurd hc (by omega)
    · refine v_aload_n C (oX6_isRightPermutive.at 6 rfl) rfl ?_
      refine v_iload_n C (oX6_isRightPermutive.at 7 rfl) rfl ?_
      refine v_aload_n C (oX6_isRightPermutive.at 8 rfl) rfl ?_
      refine v_getf C (oX6_isRightPermutive.at 9 rfl) fX6_29 hr rfl ?_
      refine v_imulN C (oX6_isRightPermutive.at 10 rfl) ?_
      refine v_iconst C (oX6_isRightPermutive.at 11 rfl) (v := nI 1) rfl ?_
      refine v_callV C (oX6_isRightPermutive.at 12 rfl) cX6_66 hr (k_areDifferent hr hk ht hb) rfl rfl rfl ⟨rfl, rfl⟩ rfl rfl (fun _ => rfl) (fun h' hp => ?_)
      rw [show h' = _ from hp]
      dsimp only [Option.toList, List.cons_append, List.nil_append]
      refine v_if_neB C (oX6_isRightPermutive.at 13 rfl) (tgt := 26) (by decide) (fun hc => ?_) (fun hc => ?_)
      · refine v_iincN C (oX6_isRightPermutive.at 16 rfl) rfl ?_
        refine v_goto C (oX6_isRightPermutive.at 17 rfl) (tgt := 2) (by decide) ?_
        dsimp only [sto1, sto2, killL]
        exact ih (i + 1) (by omega) (by simp [allB, hall, hc])
      · rw [allB_f (p := fun i => dfB f k (i * k) 1) (i := i) hc n (by omega)] at C
        refine v_iconst C (oX6_isRightPermutive.at 14 rfl) (v := nI 0) rfl ?_
        exact v_zret0 C (oX6_isRightPermutive.at 15 rfl) rfl rfl ⟨Nat.le_refl _, Nat.le_refl _⟩ ⟨rfl, rfl⟩
/-- are there automata of this size -/
def szB (x y : Int32) : Bool := (decide (2 ≤ y)) && ((decide (x = 2) && decide (y ≤ 4)) || (decide (x = 3) && decide (y ≤ 3)))
theorem k_exists {w : Wt} {h : Hp} {x y : Int32} : ConN mX6_exists 0 (0, 0) w [.int x, .int y] h (.inl (some (.int (bI (szB x y))))) (fun h' => h' = h) := by
  refine conI (by decide +kernel) ⟨fun _ => rfl, rfl, by simp⟩ (fun X C => ?_)
  change V X (0, 0) w h 0 [some (.int x), some (.int y)] []
  have n2 : nI 2 = 2 := rfl
  have n3 : nI 3 = 3 := rfl
  have n4 : nI 4 = 4 := rfl
  have F : szB x y = false → V X (0, 0) w h 29 [some (.int x), some (.int y)] [] := fun e => by
    rw [e] at C
    refine v_iconst C (oX6_exists.at 17 rfl) (v := nI 0) rfl ?_
    exact v_zret0 C (oX6_exists.at 18 rfl) rfl rfl ⟨Nat.le_refl _, Nat.le_refl _⟩ ⟨rfl, rfl⟩
  have T : szB x y = true → V X (0, 0) w h 25 [some (.int x), some (.int y)] [] := fun e => by
    rw [e] at C
    refine v_iconst C (oX6_exists.at 15 rfl) (v := nI 1) rfl ?_
    refine v_goto C (oX6_exists.at 16 rfl) (tgt := 30) (by decide) ?_
    exact v_zret1 C (oX6_exists.at 18 rfl) rfl rfl ⟨Nat.le_refl _, Nat.le_refl _⟩ ⟨rfl, rfl⟩
  have T3 : ¬ y < 2 → (x = 2 → ¬ y ≤ 4) → V X (0, 0) w h 15 [some (.int x), some (.int y)] [] := fun h2 h24 => by
    have h2' : 2 ≤ y := Int32.not_lt.mp h2
    refine v_iload_n C (oX6_exists.at 9 rfl) rfl ?_
    refine v_iconst C (oX6_exists.at 10 rfl) (v := nI 3) rfl ?_
    refine v_icmp_ne C (oX6_exists.at 11 rfl) (tgt := 29) (by decide) (fun hc => ?_) (fun hc => ?_)
    · refine F ?_
      rw [n3] at hc
      simp only [szB, h2', decide_true, Bool.true_and, hc, decide_false, Bool.false_and, Bool.or_false]
      by_cases e : x = 2
      · simp [e, h24 e]
      · simp [e]
    · rw [n3] at hc
      subst hc
      refine v_iload_n C (oX6_exists.at 12 rfl) rfl ?_
      refine v_iconst C (oX6_exists.at 13 rfl) (v := nI 3) rfl ?_
      refine v_icmp_gt C (oX6_exists.at 14 rfl) (tgt := 29) (by decide) (fun hc => ?_) (fun hc => ?_)
      · refine F ?_
        rw [n3] at hc
        simp [szB, h2', Int32.not_le.mpr hc]
      · refine T ?_
        rw [n3] at hc
        simp [szB, h2', Int32.not_lt.mp hc]
  refine v_iload_n C (oX6_exists.at 0 rfl) rfl ?_
  refine v_iconst C (oX6_exists.at 1 rfl) (v := nI 2) rfl ?_
  refine v_icmp_lt C (oX6_exists.at 2 rfl) (tgt := 29) (by decide) (fun hc => ?_) (fun hc => ?_)
  · refine F ?_
    rw [n2] at hc
    simp [szB, Int32.not_le.mpr hc]
  · rw [n2] at hc
    have h2' : 2 ≤ y := Int32.not_lt.mp hc
    have hc0 := hc
    refine v_iload_n C (oX6_exists.at 3 rfl) rfl ?_
    refine v_iconst C (oX6_exists.at 4 rfl) (v := nI 2) rfl ?_
    refine v_icmp_ne C (oX6_exists.at 5 rfl) (tgt := 15) (by decide) (fun hc => ?_) (fun hc => ?_)
    · rw [n2] at hc
      exact T3 hc0 (fun e => absurd e hc)
    · rw [n2] at hc
      subst hc
      refine v_iload_n C (oX6_exists.at 6 rfl) rfl ?_
      refine v_iconst C (oX6_exists.at 7 rfl) (v := nI 4) rfl ?_
      refine v_icmp_le C (oX6_exists.at 8 rfl) (tgt := 25) (by decide) (fun hc => ?_) (fun hc => ?_)
      · refine T ?_
        rw [n4] at hc
        simp [szB, h2', hc]
      · rw [n4] at hc
        exact T3 hc0 (fun _ => hc)
