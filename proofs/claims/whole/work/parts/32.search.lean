/-! ===== InverseSearch, first half: trailing zeros, equal positions, lengthening ===== -/
section VLD
variable {X : CT} {μ : Mi} {tab : List ExceptionTableEntry} {d : Nat} {zR : Nat × Nat} {o : Oc} {P : Wt → Hp → Prop} {z : Nat × Nat} {w : Wt} {h : Hp} {pc : Nat} {L : List (Option Value)} {st : List Value}
theorem v_ldcw (C : Cx X μ tab d zR o P) {ix : Nat} {v : Int32} (hc : Cond.constant μ.1.cls ix v ∈ TSg) (hd : decode μ.2.1 pc = .ok (.ldc_w ix, 3)) (k : V X z w h (pc + 3) L (.int v :: st)) : V X z w h pc L st := by
  rcases X with ⟨p, l, e, R, s, m, args, below, meth, c, G, B, Q⟩
  intro H locs ls hW hS hl
  exact lv_ldcw C.1 C.2.1 C.2.2.2.1 (C.2.2.2.2.1 _ hc) hd (k H locs ls hW hS hl)
end VLD
theorem ntz9 : ∀ p, p < 512 → ∀ t, t < 9 → p.testBit t = true → (∀ j, j < t → p.testBit j = false) → (nI p ^^^ (-1)) &&& nI (p - 1) = nI (2 ^ t - 1) := by decide +kernel
theorem k_ntz {w : Wt} {h : Hp} {p t : Nat} (h5 : p < 512) (ht : p.testBit t = true) (hlo : ∀ j, j < t → p.testBit j = false) : ConN mJ6_numberOfTrailingZeros_0f7a4 0 (0, 0) w [.int (nI p)] h (.inl (some (.int (nI t)))) (fun h' => h' = h) := by
  have ht9 : t < 9 := by
    apply Nat.lt_of_not_le
    intro h9
    have h1 : p < 2 ^ t := Nat.lt_of_lt_of_le h5 (show 2 ^ 9 ≤ 2 ^ t from Nat.pow_le_pow_right (by decide) h9)
    rw [Nat.testBit_lt_two_pow h1] at ht
    cases ht
  have hp0 : 0 < p := by
    apply Nat.pos_of_ne_zero
    intro e
    rw [e, Nat.zero_testBit] at ht
    cases ht
  have hz := ntz9 p h5 t ht9 ht hlo
  clear ht hlo
  refine conI (by decide +kernel) ⟨fun _ => rfl, rfl, by simp⟩ (fun X C => ?_)
  change V X (0, 0) w h 0 [some (.int (nI p)), none] []
  refine v_iload_n C (oJ6_numberOfTrailingZeros_0f7a4.at 0 rfl) rfl ?_
  refine v_iconst C (oJ6_numberOfTrailingZeros_0f7a4.at 1 rfl) (v := -1) rfl ?_
  refine v_ixor C (oJ6_numberOfTrailingZeros_0f7a4.at 2 rfl) ?_
  refine v_iload_n C (oJ6_numberOfTrailingZeros_0f7a4.at 3 rfl) rfl ?_
  refine v_iconst C (oJ6_numberOfTrailingZeros_0f7a4.at 4 rfl) (v := nI 1) rfl ?_
  refine v_isubN C (oJ6_numberOfTrailingZeros_0f7a4.at 5 rfl) (by omega) ?_
  refine v_iand C (oJ6_numberOfTrailingZeros_0f7a4.at 6 rfl) ?_
  rw [hz]
  have hq : ∃ q, 2 ^ t - 1 = q ∧ ((q = 0 ∧ t = 0) ∨ (q = 1 ∧ t = 1) ∨ (q = 3 ∧ t = 2) ∨ (q = 7 ∧ t = 3) ∨ (q = 15 ∧ t = 4) ∨ (q = 31 ∧ t = 5) ∨ (q = 63 ∧ t = 6) ∨ (q = 127 ∧ t = 7) ∨ (q = 255 ∧ t = 8)) := by
    refine ⟨_, rfl, ?_⟩
    clear hz C h5 hp0
    revert ht9
    revert t
    decide
  obtain ⟨q, e, hq⟩ := hq
  rw [e]
  clear e hz ht9
  refine v_istore_n C (oJ6_numberOfTrailingZeros_0f7a4.at 7 rfl) rfl ?_
  refine v_iload_n C (oJ6_numberOfTrailingZeros_0f7a4.at 8 rfl) rfl ?_
  dsimp only [sto1, sto2, killL]
  refine v_if_gtN C (oJ6_numberOfTrailingZeros_0f7a4.at 9 rfl) (tgt := 17) (by decide) (by omega) (fun hc => ?_) (fun hc => ?_)
  · refine v_iconst C (oJ6_numberOfTrailingZeros_0f7a4.at 14 rfl) (v := nI 1) rfl ?_
    refine v_istore_n C (oJ6_numberOfTrailingZeros_0f7a4.at 15 rfl) rfl ?_
    refine v_iload_n C (oJ6_numberOfTrailingZeros_0f7a4.at 16 rfl) rfl ?_
    refine v_ldcw C (v := nI 65536) (tj6 120 (by rfl) rfl) (oJ6_numberOfTrailingZeros_0f7a4.at 17 rfl) ?_
    refine v_icmp_leN C (oJ6_numberOfTrailingZeros_0f7a4.at 18 rfl) (tgt := 34) (by decide) (by omega) (by omega) (fun hc => ?_) (fun hc => ?_)
    · refine v_iload_n C (oJ6_numberOfTrailingZeros_0f7a4.at 24 rfl) rfl ?_
      refine v_sipush C (oJ6_numberOfTrailingZeros_0f7a4.at 25 rfl) (v := nI 256) rfl ?_
      refine v_icmp_leN C (oJ6_numberOfTrailingZeros_0f7a4.at 26 rfl) (tgt := 49) (by decide) (by omega) (by omega) (fun hc => ?_) (fun hc => ?_)
      · refine v_iload_n C (oJ6_numberOfTrailingZeros_0f7a4.at 32 rfl) rfl ?_
        refine v_bipush C (oJ6_numberOfTrailingZeros_0f7a4.at 33 rfl) (v := nI 16) rfl ?_
        refine v_icmp_leN C (oJ6_numberOfTrailingZeros_0f7a4.at 34 rfl) (tgt := 62) (by decide) (by omega) (by omega) (fun hc => ?_) (fun hc => ?_)
        · refine v_iload_n C (oJ6_numberOfTrailingZeros_0f7a4.at 40 rfl) rfl ?_
          refine v_iconst C (oJ6_numberOfTrailingZeros_0f7a4.at 41 rfl) (v := nI 4) rfl ?_
          refine v_icmp_leN C (oJ6_numberOfTrailingZeros_0f7a4.at 42 rfl) (tgt := 74) (by decide) (by omega) (by omega) (fun hc => ?_) (fun hc => ?_)
          · obtain rfl : t = 1 + q / 2 ^ 1 := by omega
            refine v_iload_n C (oJ6_numberOfTrailingZeros_0f7a4.at 48 rfl) rfl ?_
            refine v_iload_n C (oJ6_numberOfTrailingZeros_0f7a4.at 49 rfl) rfl ?_
            refine v_iconst C (oJ6_numberOfTrailingZeros_0f7a4.at 50 rfl) (v := nI 1) rfl ?_
            refine v_iushrN C (oJ6_numberOfTrailingZeros_0f7a4.at 51 rfl) (by omega) (by omega) ?_
            refine v_iaddN C (oJ6_numberOfTrailingZeros_0f7a4.at 52 rfl) ?_
            exact v_iret C (oJ6_numberOfTrailingZeros_0f7a4.at 53 rfl) rfl rfl ⟨Nat.le_refl _, Nat.le_refl _⟩ ⟨rfl, rfl⟩
          · refine v_iinc C (oJ6_numberOfTrailingZeros_0f7a4.at 43 rfl) rfl rfl ?_
            refine v_iload_n C (oJ6_numberOfTrailingZeros_0f7a4.at 44 rfl) rfl ?_
            refine v_iconst C (oJ6_numberOfTrailingZeros_0f7a4.at 45 rfl) (v := nI 2) rfl ?_
            refine v_iushrN C (oJ6_numberOfTrailingZeros_0f7a4.at 46 rfl) (by omega) (by omega) ?_
            refine v_istore_n C (oJ6_numberOfTrailingZeros_0f7a4.at 47 rfl) rfl ?_
            dsimp only [sto1, sto2, killL]
            obtain rfl : t = 1 + 2 + q / 2 ^ 2 / 2 ^ 1 := by omega
            refine v_iload_n C (oJ6_numberOfTrailingZeros_0f7a4.at 48 rfl) rfl ?_
            refine v_iload_n C (oJ6_numberOfTrailingZeros_0f7a4.at 49 rfl) rfl ?_
            refine v_iconst C (oJ6_numberOfTrailingZeros_0f7a4.at 50 rfl) (v := nI 1) rfl ?_
            refine v_iushrN C (oJ6_numberOfTrailingZeros_0f7a4.at 51 rfl) (by omega) (by omega) ?_
            refine v_iaddN C (oJ6_numberOfTrailingZeros_0f7a4.at 52 rfl) ?_
            exact v_iret C (oJ6_numberOfTrailingZeros_0f7a4.at 53 rfl) rfl rfl ⟨Nat.le_refl _, Nat.le_refl _⟩ ⟨rfl, rfl⟩
        · refine v_iinc C (oJ6_numberOfTrailingZeros_0f7a4.at 35 rfl) rfl rfl ?_
          refine v_iload_n C (oJ6_numberOfTrailingZeros_0f7a4.at 36 rfl) rfl ?_
          refine v_iconst C (oJ6_numberOfTrailingZeros_0f7a4.at 37 rfl) (v := nI 4) rfl ?_
          refine v_iushrN C (oJ6_numberOfTrailingZeros_0f7a4.at 38 rfl) (by omega) (by omega) ?_
          refine v_istore_n C (oJ6_numberOfTrailingZeros_0f7a4.at 39 rfl) rfl ?_
          dsimp only [sto1, sto2, killL]
          refine v_iload_n C (oJ6_numberOfTrailingZeros_0f7a4.at 40 rfl) rfl ?_
          refine v_iconst C (oJ6_numberOfTrailingZeros_0f7a4.at 41 rfl) (v := nI 4) rfl ?_
          refine v_icmp_leN C (oJ6_numberOfTrailingZeros_0f7a4.at 42 rfl) (tgt := 74) (by decide) (by omega) (by omega) (fun hc => ?_) (fun hc => ?_)
          · obtain rfl : t = 1 + 4 + q / 2 ^ 4 / 2 ^ 1 := by omega
            refine v_iload_n C (oJ6_numberOfTrailingZeros_0f7a4.at 48 rfl) rfl ?_
            refine v_iload_n C (oJ6_numberOfTrailingZeros_0f7a4.at 49 rfl) rfl ?_
            refine v_iconst C (oJ6_numberOfTrailingZeros_0f7a4.at 50 rfl) (v := nI 1) rfl ?_
            refine v_iushrN C (oJ6_numberOfTrailingZeros_0f7a4.at 51 rfl) (by omega) (by omega) ?_
            refine v_iaddN C (oJ6_numberOfTrailingZeros_0f7a4.at 52 rfl) ?_
            exact v_iret C (oJ6_numberOfTrailingZeros_0f7a4.at 53 rfl) rfl rfl ⟨Nat.le_refl _, Nat.le_refl _⟩ ⟨rfl, rfl⟩
          · refine v_iinc C (oJ6_numberOfTrailingZeros_0f7a4.at 43 rfl) rfl rfl ?_
            refine v_iload_n C (oJ6_numberOfTrailingZeros_0f7a4.at 44 rfl) rfl ?_
            refine v_iconst C (oJ6_numberOfTrailingZeros_0f7a4.at 45 rfl) (v := nI 2) rfl ?_
            refine v_iushrN C (oJ6_numberOfTrailingZeros_0f7a4.at 46 rfl) (by omega) (by omega) ?_
            refine v_istore_n C (oJ6_numberOfTrailingZeros_0f7a4.at 47 rfl) rfl ?_
            dsimp only [sto1, sto2, killL]
            obtain rfl : t = 1 + 4 + 2 + q / 2 ^ 4 / 2 ^ 2 / 2 ^ 1 := by omega
            refine v_iload_n C (oJ6_numberOfTrailingZeros_0f7a4.at 48 rfl) rfl ?_
            refine v_iload_n C (oJ6_numberOfTrailingZeros_0f7a4.at 49 rfl) rfl ?_
            refine v_iconst C (oJ6_numberOfTrailingZeros_0f7a4.at 50 rfl) (v := nI 1) rfl ?_
            refine v_iushrN C (oJ6_numberOfTrailingZeros_0f7a4.at 51 rfl) (by omega) (by omega) ?_
            refine v_iaddN C (oJ6_numberOfTrailingZeros_0f7a4.at 52 rfl) ?_
            exact v_iret C (oJ6_numberOfTrailingZeros_0f7a4.at 53 rfl) rfl rfl ⟨Nat.le_refl _, Nat.le_refl _⟩ ⟨rfl, rfl⟩
      · exact absurd hc (by omega)
    · exact absurd hc (by omega)
  · obtain ⟨rfl, rfl⟩ : q = 0 ∧ t = 0 := by omega
    refine v_iload_n C (oJ6_numberOfTrailingZeros_0f7a4.at 10 rfl) rfl ?_
    refine v_bipush C (oJ6_numberOfTrailingZeros_0f7a4.at 11 rfl) (v := nI 32) rfl ?_
    refine v_iand C (oJ6_numberOfTrailingZeros_0f7a4.at 12 rfl) ?_
    exact v_iret C (oJ6_numberOfTrailingZeros_0f7a4.at 13 rfl) rfl rfl ⟨Nat.le_refl _, Nat.le_refl _⟩ ⟨rfl, rfl⟩
/-- positions where two words agree: bits of pos, the last d positions looked at -/
def eqN (k x y pos wl : Nat) : Nat → Nat
  | 0 => pos
  | d + 1 => if x / k ^ d % k = y / k ^ d % k then eqN k x y pos wl d else eqN k x y pos wl d &&& (2 ^ 32 - (2 ^ (wl - 1 - d) + 1))
theorem eqN_bit {k x y pos wl : Nat} (hpos : pos < 2 ^ wl) (hw : wl ≤ 8) (j : Nat) : ∀ d, d ≤ wl → ((eqN k x y pos wl d).testBit j = true ↔ pos.testBit j = true ∧ ∀ e, e < d → j = wl - 1 - e → x / k ^ e % k = y / k ^ e % k)
  | 0, _ => by simp [eqN]
  | d + 1, hd => by
    have ih := eqN_bit (k := k) (x := x) (y := y) hpos hw j d (by omega)
    rw [eqN]
    split
    · next hx =>
      rw [ih]
      refine ⟨fun ⟨a, b⟩ => ⟨a, fun e he hj => ?_⟩, fun ⟨a, b⟩ => ⟨a, fun e he hj => b e (by omega) hj⟩⟩
      by_cases e1 : e = d
      · subst e1; exact hx
      · exact b e (by omega) hj
    · next hx =>
      have hp2 : 2 ^ (wl - 1 - d) < 2 ^ 32 := Nat.pow_lt_pow_right (by decide) (by omega)
      rw [Nat.testBit_and, Nat.testBit_two_pow_sub_succ hp2, Nat.testBit_two_pow, Bool.and_eq_true, Bool.and_eq_true, ih]
      refine ⟨fun ⟨⟨a, b⟩, c, f⟩ => ⟨a, fun e he hj => ?_⟩, fun ⟨a, b⟩ => ⟨⟨a, fun e he hj => b e (by omega) hj⟩, ?_, ?_⟩⟩
      · by_cases e1 : e = d
        · subst e1
          rw [decide_eq_true hj.symm] at f
          cases f
        · exact b e (by omega) hj
      · apply decide_eq_true
        apply Nat.lt_of_not_le
        intro h9
        have h1 : pos < 2 ^ j := Nat.lt_of_lt_of_le hpos (Nat.pow_le_pow_right (by decide) (by omega))
        rw [Nat.testBit_lt_two_pow h1] at a
        cases a
      · rw [decide_eq_false]
        · rfl
        · intro hj
          exact hx (b d (by omega) hj.symm)
theorem eqN_le {k x y pos wl : Nat} : ∀ d, eqN k x y pos wl d ≤ pos
  | 0 => Nat.le_refl _
  | d + 1 => by
    have ih := eqN_le (k := k) (x := x) (y := y) (pos := pos) (wl := wl) d
    rw [eqN]
    split
    · exact ih
    · exact Nat.le_trans Nat.and_le_left ih
theorem nI_not {b : Nat} (hb : b < 2 ^ 32) : nI b ^^^ (-1) = nI (2 ^ 32 - (b + 1)) := by
  apply Int32.toBitVec_inj.mp
  rw [Int32.toBitVec_xor, bv_nI, bv_nI, show (-1 : Int32).toBitVec = BitVec.allOnes 32 from by decide]
  apply BitVec.eq_of_getLsbD_eq
  intro i hi
  rw [BitVec.getLsbD_xor, BitVec.getLsbD_ofNat, BitVec.getLsbD_ofNat, BitVec.getLsbD_allOnes, Nat.testBit_two_pow_sub_succ hb]
  simp [hi]
theorem k_equalPositions {w : Wt} {h : Hp} {r k wd n m x y pos wl : Nat} (hr : h r = RO r k wd n m) (hk : k = 2 ∨ k = 3) (hwl : wl ≤ 8) (hx : x < 2 ^ 31) (hy : y < 2 ^ 31) : ConN mX2_equalPositions 1 (0, 0) w [.ref r, .int (nI pos), .int (nI wl), .int (nI x), .int (nI y)] h (.inl (some (.int (nI (eqN k x y pos wl wl))))) (fun h' => h' = h) := by
  refine conI (by decide +kernel) ⟨fun _ => rfl, rfl, by simp⟩ (fun X C => ?_)
  change V X (0, 0) w h 0 [some (.ref r), some (.int (nI pos)), some (.int (nI wl)), some (.int (nI x)), some (.int (nI y)), none, none, none, none] []
  refine v_iload_n C (oX2_equalPositions.at 0 rfl) rfl ?_
  refine v_istore C (oX2_equalPositions.at 1 rfl) rfl ?_
  refine v_iload_n C (oX2_equalPositions.at 2 rfl) rfl ?_
  refine v_istore C (oX2_equalPositions.at 3 rfl) rfl ?_
  refine v_iload C (oX2_equalPositions.at 4 rfl) rfl ?_
  refine v_istore C (oX2_equalPositions.at 5 rfl) rfl ?_
  refine v_iload_n C (oX2_equalPositions.at 6 rfl) rfl ?_
  refine v_iconst C (oX2_equalPositions.at 7 rfl) (v := nI 1) rfl ?_
  refine v_isubP C (oX2_equalPositions.at 8 rfl) ?_
  refine v_istore C (oX2_equalPositions.at 9 rfl) rfl ?_
  dsimp only [sto1, sto2, killL]
  suffices H : ∀ a, a ≤ wl → V X (0, 0) w h 15 [some (.ref r), some (.int (nI pos)), some (.int (nI wl)), some (.int (nI x)), some (.int (nI y)), some (.int (nI (eqN k x y pos wl (wl - a)))), some (.int (nI (x / k ^ (wl - a)))), some (.int (nI (y / k ^ (wl - a)))), some (.int (pI a))] [] by
    have := H wl (Nat.le_refl _)
    rw [Nat.sub_self, Nat.pow_zero, Nat.div_one, Nat.div_one] at this
    exact this
  intro a
  induction a with
  | zero =>
    intro ha
    refine v_iload C (oX2_equalPositions.at 10 rfl) rfl ?_
    refine v_if_ltP C (oX2_equalPositions.at 11 rfl) (tgt := 68) (by decide) (by omega) (fun hc => ?_) (fun b hc => ?_)
    · refine v_iload C (oX2_equalPositions.at 37 rfl) rfl ?_
      exact v_iret C (oX2_equalPositions.at 38 rfl) rfl rfl ⟨Nat.le_refl _, Nat.le_refl _⟩ ⟨rfl, rfl⟩
    · cases hc
  | succ a ih =>
    intro ha
    have ih := ih (by omega)
    have hdx : x / k ^ (wl - (a + 1)) ≤ x := Nat.div_le_self _ _
    have hdy : y / k ^ (wl - (a + 1)) ≤ y := Nat.div_le_self _ _
    rw [show wl - a = wl - (a + 1) + 1 by omega] at ih
    generalize hd : wl - (a + 1) = d at *
    have hmx : x / k ^ d % k < k := Nat.mod_lt _ (by omega)
    have hmy : y / k ^ d % k < k := Nat.mod_lt _ (by omega)
    have hpa := pow_le9 (i := a) (by omega)
    refine v_iload C (oX2_equalPositions.at 10 rfl) rfl ?_
    refine v_if_ltP C (oX2_equalPositions.at 11 rfl) (tgt := 68) (by decide) (by omega) (fun hc => ?_) (fun b hc => ?_)
    · cases hc
    · cases hc
      rw [pI_succ]
      refine v_aload_n C (oX2_equalPositions.at 12 rfl) rfl ?_
      refine v_iload C (oX2_equalPositions.at 13 rfl) rfl ?_
      refine v_callV C (oX2_equalPositions.at 14 rfl) cX2_70 hr (k_lastCell hr hk (by omega)) rfl rfl rfl ⟨rfl, rfl⟩ rfl rfl (fun _ => rfl) (fun h' hp => ?_)
      rw [show h' = _ from hp]
      dsimp only [Option.toList, List.cons_append, List.nil_append]
      refine v_aload_n C (oX2_equalPositions.at 15 rfl) rfl ?_
      refine v_iload C (oX2_equalPositions.at 16 rfl) rfl ?_
      refine v_callV C (oX2_equalPositions.at 17 rfl) cX2_70 hr (k_lastCell hr hk (by omega)) rfl rfl rfl ⟨rfl, rfl⟩ rfl rfl (fun _ => rfl) (fun h' hp => ?_)
      rw [show h' = _ from hp]
      dsimp only [Option.toList, List.cons_append, List.nil_append]
      refine v_icmp_eqN C (oX2_equalPositions.at 18 rfl) (tgt := 46) (by decide) (by omega) (by omega) (fun hc => ?_) (fun hc => ?_)
      · rw [eqN, if_pos hc, show k ^ (d + 1) = k ^ d * k from Nat.pow_succ _ _, ← Nat.div_div_eq_div_mul x, ← Nat.div_div_eq_div_mul y] at ih
        refine v_aload_n C (oX2_equalPositions.at 27 rfl) rfl ?_
        refine v_iload C (oX2_equalPositions.at 28 rfl) rfl ?_
        refine v_callV C (oX2_equalPositions.at 29 rfl) cX2_54 hr (k_withoutLastCell hr hk (by omega)) rfl rfl rfl ⟨rfl, rfl⟩ rfl rfl (fun _ => rfl) (fun h' hp => ?_)
        rw [show h' = _ from hp]
        dsimp only [Option.toList, List.cons_append, List.nil_append]
        refine v_istore C (oX2_equalPositions.at 30 rfl) rfl ?_
        refine v_aload_n C (oX2_equalPositions.at 31 rfl) rfl ?_
        refine v_iload C (oX2_equalPositions.at 32 rfl) rfl ?_
        dsimp only [sto1, sto2, killL]
        refine v_callV C (oX2_equalPositions.at 33 rfl) cX2_54 hr (k_withoutLastCell hr hk (by omega)) rfl rfl rfl ⟨rfl, rfl⟩ rfl rfl (fun _ => rfl) (fun h' hp => ?_)
        rw [show h' = _ from hp]
        dsimp only [Option.toList, List.cons_append, List.nil_append]
        refine v_istore C (oX2_equalPositions.at 34 rfl) rfl ?_
        refine v_idecP C (oX2_equalPositions.at 35 rfl) rfl ?_
        refine v_goto C (oX2_equalPositions.at 36 rfl) (tgt := 15) (by decide) ?_
        dsimp only [sto1, sto2, killL]
        exact ih
      · rw [eqN, if_neg hc, show k ^ (d + 1) = k ^ d * k from Nat.pow_succ _ _, ← Nat.div_div_eq_div_mul x, ← Nat.div_div_eq_div_mul y, show wl - 1 - d = a by omega] at ih
        refine v_iload C (oX2_equalPositions.at 19 rfl) rfl ?_
        refine v_iconst C (oX2_equalPositions.at 20 rfl) (v := nI 1) rfl ?_
        refine v_iload C (oX2_equalPositions.at 21 rfl) rfl ?_
        refine v_ishlN C (oX2_equalPositions.at 22 rfl) (by omega) (by omega) ?_
        rw [Nat.one_mul]
        refine v_iconst C (oX2_equalPositions.at 23 rfl) (v := -1) rfl ?_
        refine v_ixor C (oX2_equalPositions.at 24 rfl) ?_
        rw [nI_not (by omega)]
        refine v_iandN C (oX2_equalPositions.at 25 rfl) ?_
        refine v_istore C (oX2_equalPositions.at 26 rfl) rfl ?_
        refine v_aload_n C (oX2_equalPositions.at 27 rfl) rfl ?_
        refine v_iload C (oX2_equalPositions.at 28 rfl) rfl ?_
        dsimp only [sto1, sto2, killL]
        refine v_callV C (oX2_equalPositions.at 29 rfl) cX2_54 hr (k_withoutLastCell hr hk (by omega)) rfl rfl rfl ⟨rfl, rfl⟩ rfl rfl (fun _ => rfl) (fun h' hp => ?_)
        rw [show h' = _ from hp]
        dsimp only [Option.toList, List.cons_append, List.nil_append]
        refine v_istore C (oX2_equalPositions.at 30 rfl) rfl ?_
        refine v_aload_n C (oX2_equalPositions.at 31 rfl) rfl ?_
        refine v_iload C (oX2_equalPositions.at 32 rfl) rfl ?_
        dsimp only [sto1, sto2, killL]
        refine v_callV C (oX2_equalPositions.at 33 rfl) cX2_54 hr (k_withoutLastCell hr hk (by omega)) rfl rfl rfl ⟨rfl, rfl⟩ rfl rfl (fun _ => rfl) (fun h' hp => ?_)
        rw [show h' = _ from hp]
        dsimp only [Option.toList, List.cons_append, List.nil_append]
        refine v_istore C (oX2_equalPositions.at 34 rfl) rfl ?_
        refine v_idecP C (oX2_equalPositions.at 35 rfl) rfl ?_
        refine v_goto C (oX2_equalPositions.at 36 rfl) (tgt := 15) (by decide) ?_
        dsimp only [sto1, sto2, killL]
        exact ih
/-- the image of a word of m + wd - 1 cells, cell by cell from the left -/
def gIm (k wd : Nat) (T : Nat → Nat) : Nat → Nat → Nat
  | 0, _ => 0
  | m + 1, x => gIm k wd T m (x / k) * k + T (x % k ^ wd)
theorem gIm_lt {k wd : Nat} {T : Nat → Nat} (hk : 0 < k) (hT : ∀ i, i < k ^ wd → T i < k) : ∀ m x, gIm k wd T m x < k ^ m
  | 0, _ => by simp [gIm]
  | m + 1, x => by
    have h1 := gIm_lt hk hT m (x / k)
    have h2 := hT (x % k ^ wd) (Nat.mod_lt _ (Nat.pow_pos hk))
    have h3 : (gIm k wd T m (x / k) + 1) * k ≤ k ^ m * k := Nat.mul_le_mul_right k h1
    rw [Nat.add_mul, Nat.one_mul] at h3
    rw [Nat.pow_succ, gIm]
    omega
abbrev IS (p : Nat) (a b : Int32) : PE := ob 2 [.int a, .int b, .ref (p + 1), .ref (p + 2)]
theorem SZ.w5 {k wd m : Nat} (h : SZ k wd) (hm : m ≤ 4) : k ^ (m + wd) ≤ 2187 := by
  have : ∀ m, m ≤ 4 → k ^ (m + wd) ≤ 2187 := h.cases (Q := fun k wd => ∀ m, m ≤ 4 → k ^ (m + wd) ≤ 2187) (by decide) (by decide) (by decide) (by decide) (by decide)
  exact this m hm
theorem SZ.m5 {k wd m : Nat} (h : SZ k wd) (hm : m ≤ 5) : k ^ m ≤ 243 := by
  have : ∀ m, m ≤ 5 → k ^ m ≤ 243 := h.cases (Q := fun k _ => ∀ m, m ≤ 5 → k ^ m ≤ 243) (by decide) (by decide) (by decide) (by decide) (by decide)
  exact this m hm
theorem pred_mod {j K : Nat} (hK : 0 < K) : (j + 1 + K - 1) % K = j % K := by rw [show j + 1 + K - 1 = j + K by omega, Nat.add_mod_right]
theorem pred_mod2 {j K : Nat} (hK : 0 < K) : (if j % K = 0 then K - 1 else j % K - 1) = (j + K - 1) % K := by
  have hm := Nat.mod_add_div j K
  have hl := Nat.mod_lt j hK
  by_cases h0 : j % K = 0
  · rw [if_pos h0, show j + K - 1 = K - 1 + K * (j / K) by omega, Nat.add_mul_mod_self_left, Nat.mod_eq_of_lt (by omega)]
  · rw [if_neg h0, show j + K - 1 = j % K - 1 + K * (j / K + 1) by rw [Nat.mul_add, Nat.mul_one]; omega, Nat.add_mul_mod_self_left, Nat.mod_eq_of_lt (show j % K - 1 < K by omega)]
theorem k_lengthen {w : Wt} {h : Hp} {p r k wd m : Nat} {a b : Int32} {T : Nat → Nat} {g : Nat → Int32} (hR : RuleOK h r k wd T) (hs : SZ k wd) (hp : h p = IS p a b) (hg : h (p + 1) = io 2187 g) (hsep : r + 5 < p) (hm4 : m ≤ 4) (hG : ∀ x, x < k ^ (m + wd - 1) → g x = nI (gIm k wd T m x)) : ConN mX2_lengthenWords 1 (0, 0) w [.ref p, .ref r, .int (nI (k ^ (m + wd)))] h (.inl none) (fun h' => ∃ g', h' = hu h (p + 1) (io 2187 g') ∧ ∀ x, x < k ^ (m + wd) → g' x = nI (gIm k wd T (m + 1) x)) := by
  have hw5 := hs.w5 hm4
  have hk := hs.k
  have hwd := hs.w
  have hm27 := hs.m
  obtain ⟨f, gg, e, v, t, hr, ht, hT, -⟩ := id hR
  have hK0 : 0 < k ^ wd := Nat.pow_pos (by omega)
  have hW : k ^ (m + wd) = k ^ (m + wd - 1) * k := by rw [← Nat.pow_succ, show (m + wd - 1).succ = m + wd by omega]
  have hWK : k ^ (m + wd) = k ^ m * k ^ wd := Nat.pow_add _ _ _
  have hro : ∀ g, hu h (p + 1) (io 2187 g) r = RO r k wd (k ^ (wd - 1)) (k ^ wd) := fun g => (hu_n _ _ (by omega)).trans hr
  have hto : ∀ g, hu h (p + 1) (io 2187 g) (r + 1) = io 27 f := fun g => (hu_n _ _ (by omega)).trans ht
  have hpo : ∀ g, hu h (p + 1) (io 2187 g) p = IS p a b := fun g => (hu_n _ _ (by omega)).trans hp
  generalize hKK : k ^ wd = K at *
  refine conI (by decide +kernel) ⟨fun _ => rfl, rfl, by simp⟩ (fun X C => ?_)
  change V X (0, 0) w h 0 [some (.ref p), some (.ref r), some (.int (nI (k ^ (m + wd)))), none, none] []
  refine v_aload_n C (oX2_lengthenWords.at 0 rfl) rfl ?_
  refine v_getf C (oX2_lengthenWords.at 1 rfl) fX2_51 hr rfl ?_
  refine v_iconst C (oX2_lengthenWords.at 2 rfl) (v := nI 1) rfl ?_
  refine v_isubN C (oX2_lengthenWords.at 3 rfl) (by omega) ?_
  refine v_istore_n C (oX2_lengthenWords.at 4 rfl) rfl ?_
  dsimp only [sto1, sto2, killL]
  refine v_iload_n C (oX2_lengthenWords.at 5 rfl) rfl ?_
  refine v_iconst C (oX2_lengthenWords.at 6 rfl) (v := nI 1) rfl ?_
  refine v_isubP C (oX2_lengthenWords.at 7 rfl) ?_
  refine v_istore C (oX2_lengthenWords.at 8 rfl) rfl ?_
  dsimp only [sto1, sto2, killL]
  suffices H : ∀ j g1, j ≤ k ^ (m + wd) → (∀ x, x < k ^ (m + wd) → g1 x = if x < j then g x else nI (gIm k wd T (m + 1) x)) → V X (0, 0) w (hu h (p + 1) (io 2187 g1)) 12 [some (.ref p), some (.ref r), some (.int (nI (k ^ (m + wd)))), some (.int (nI ((j + K - 1) % K))), some (.int (pI j))] [] by
    have := H (k ^ (m + wd)) g (Nat.le_refl _) (fun x hx => by rw [if_pos hx])
    rw [hu_id h hg] at this
    have e : (k ^ (m + wd) + K - 1) % K = K - 1 := by
      rw [hWK, show k ^ m * K + K - 1 = K - 1 + k ^ m * K by omega, Nat.add_mul_mod_self_right, Nat.mod_eq_of_lt (by omega)]
    rw [e] at this
    exact this
  intro j
  induction j with
  | zero =>
    intro g1 hj hg1
    refine v_iload C (oX2_lengthenWords.at 9 rfl) rfl ?_
    refine v_if_ltP C (oX2_lengthenWords.at 10 rfl) (tgt := 70) (by decide) (by omega) (fun hc => ?_) (fun b hc => ?_)
    · exact v_vret C (oX2_lengthenWords.at 42 rfl) rfl rfl ⟨Nat.le_refl _, Nat.le_refl _⟩ ⟨rfl, g1, rfl, fun x hx => by rw [hg1 x hx, if_neg (by omega)]⟩
    · cases hc
  | succ j ih =>
    intro g1 hj hg1
    have hjm : j % K < K := Nat.mod_lt _ hK0
    have hTj := hT (j % K) hjm
    have hdj : j / k < k ^ (m + wd - 1) := by
      apply Nat.div_lt_of_lt_mul
      rw [Nat.mul_comm]
      omega
    have hdl : j / k ≤ j := Nat.div_le_self _ _
    have hgj : g1 (j / k) = nI (gIm k wd T m (j / k)) := by rw [hg1 _ (by omega), if_pos (by omega), hG _ hdj]
    rw [pred_mod hK0]
    refine v_iload C (oX2_lengthenWords.at 9 rfl) rfl ?_
    refine v_if_ltP C (oX2_lengthenWords.at 10 rfl) (tgt := 70) (by decide) (by omega) (fun hc => ?_) (fun b hc => ?_)
    · cases hc
    · cases hc
      rw [pI_succ]
      refine v_aload_n C (oX2_lengthenWords.at 11 rfl) rfl ?_
      refine v_getf C (oX2_lengthenWords.at 12 rfl) fX2_9 (hpo _) rfl ?_
      refine v_iload C (oX2_lengthenWords.at 13 rfl) rfl ?_
      refine v_aload_n C (oX2_lengthenWords.at 14 rfl) rfl ?_
      refine v_getf C (oX2_lengthenWords.at 15 rfl) fX2_9 (hpo _) rfl ?_
      refine v_aload_n C (oX2_lengthenWords.at 16 rfl) rfl ?_
      refine v_iload C (oX2_lengthenWords.at 17 rfl) rfl ?_
      refine v_callV C (oX2_lengthenWords.at 18 rfl) cX2_54 (hro _) (k_withoutLastCell (hro _) hk (by omega)) rfl rfl rfl ⟨rfl, rfl⟩ rfl rfl (fun _ => rfl) (fun h' hp => ?_)
      rw [show h' = _ from hp]
      dsimp only [Option.toList, List.cons_append, List.nil_append]
      refine v_iald C (oX2_lengthenWords.at 19 rfl) (hu_s _ _ _) (by decide) rfl (by omega) hgj ?_
      refine v_aload_n C (oX2_lengthenWords.at 20 rfl) rfl ?_
      refine v_getf C (oX2_lengthenWords.at 21 rfl) fX2_57 (hro _) rfl ?_
      refine v_imulN C (oX2_lengthenWords.at 22 rfl) ?_
      refine v_aload_n C (oX2_lengthenWords.at 23 rfl) rfl ?_
      refine v_getf C (oX2_lengthenWords.at 24 rfl) fX2_60 (hro _) rfl ?_
      refine v_iload_n C (oX2_lengthenWords.at 25 rfl) rfl ?_
      refine v_iald C (oX2_lengthenWords.at 26 rfl) (hto _) (by decide) rfl (by omega) hTj.1 ?_
      refine v_iaddN C (oX2_lengthenWords.at 27 rfl) ?_
      refine v_iast C (oX2_lengthenWords.at 28 rfl) (hu_s _ _ _) (by decide) rfl (by omega) ?_
      rw [hu_hu]
      have key : V X (0, 0) w (hu h (p + 1) (io 2187 (upd g1 j (nI (gIm k wd T m (j / k) * k + T (j % K)))))) 12 [some (.ref p), some (.ref r), some (.int (nI (k ^ (m + wd)))), some (.int (nI ((j + K - 1) % K))), some (.int (pI j))] [] := by
        refine ih _ (by omega) (fun x hx => ?_)
        by_cases e1 : x = j
        · subst e1
          rw [pk_us, if_neg (by omega), gIm, hKK]
        · rw [pk_un e1, hg1 x hx]
          by_cases e2 : x < j
          · rw [if_pos e2, if_pos (by omega)]
          · rw [if_neg e2, if_neg (by omega)]
      rw [← pred_mod2 hK0] at key
      refine v_iload_n C (oX2_lengthenWords.at 29 rfl) rfl ?_
      refine v_if_neN C (oX2_lengthenWords.at 30 rfl) (tgt := 60) (by decide) (by omega) (fun hc => ?_) (fun hc => ?_)
      · rw [if_neg hc] at key
        refine v_iload_n C (oX2_lengthenWords.at 36 rfl) rfl ?_
        refine v_iconst C (oX2_lengthenWords.at 37 rfl) (v := nI 1) rfl ?_
        refine v_isubN C (oX2_lengthenWords.at 38 rfl) (by omega) ?_
        refine v_istore_n C (oX2_lengthenWords.at 39 rfl) rfl ?_
        refine v_idecP C (oX2_lengthenWords.at 40 rfl) rfl ?_
        refine v_goto C (oX2_lengthenWords.at 41 rfl) (tgt := 12) (by decide) ?_
        dsimp only [sto1, sto2, killL]
        exact key
      · rw [if_pos hc] at key
        refine v_aload_n C (oX2_lengthenWords.at 31 rfl) rfl ?_
        refine v_getf C (oX2_lengthenWords.at 32 rfl) fX2_51 (hro _) rfl ?_
        refine v_iconst C (oX2_lengthenWords.at 33 rfl) (v := nI 1) rfl ?_
        refine v_isubN C (oX2_lengthenWords.at 34 rfl) (by omega) ?_
        refine v_goto C (oX2_lengthenWords.at 35 rfl) (tgt := 63) (by decide) ?_
        refine v_istore_n C (oX2_lengthenWords.at 39 rfl) rfl ?_
        refine v_idecP C (oX2_lengthenWords.at 40 rfl) rfl ?_
        refine v_goto C (oX2_lengthenWords.at 41 rfl) (tgt := 12) (by decide) ?_
        dsimp only [sto1, sto2, killL]
        exact key
