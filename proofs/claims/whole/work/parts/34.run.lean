/-! ===== InverseSearch: commonPositions, run, stateFor ===== -/
theorem k_common {w : Wt} {h : Hp} {p r k wd m : Nat} {a b : Int32} {T : Nat → Nat} {g F0 : Nat → Int32} (hR : RuleOK h r k wd T) (hs : SZ k wd) (hob : h p = IS p a b) (hg : h (p + 1) = io 2187 g) (hF0 : h (p + 2) = io 243 F0) (hsep : r + 5 < p) (hm1 : 1 ≤ m) (hm5 : m ≤ 5) (hG : ∀ x, x < k ^ (m + wd - 1) → g x = nI (gIm k wd T m x)) : ConN mX2_commonPositions 2 (0, 0) w [.ref p, .ref r, .int (nI m)] h (.inl (some (.int (nI (psN k wd T m))))) (fun h' => ∃ F, h' = hu h (p + 2) (io 243 F) ∧ (psN k wd T m ≠ 0 → ∀ y, y < k ^ m → ∃ x, x < k ^ (m + wd - 1) ∧ F y = nI x ∧ gIm k wd T m x = y)) := by
  have hw5 := hs.w5 (m := m - 1) (by omega)
  have hm3 := hs.m5 hm5
  have hk := hs.k
  have hwd := hs.w
  have hwl8 : m + wd - 1 ≤ 8 := by omega
  rw [show m - 1 + wd = m + wd - 1 by omega] at hw5
  obtain ⟨f, gg, e, v, t, hr, ht, hT, -⟩ := id hR
  have hgl := gIm_lt (T := T) (wd := wd) (show 0 < k by omega) hR.T m
  have hpw := pow_le9 (i := m + wd - 1) (by omega)
  have hpw0 : 0 < 2 ^ (m + wd - 1) := Nat.pow_pos (by decide)
  have hro : ∀ F, hu h (p + 2) (io 243 F) r = RO r k wd (k ^ (wd - 1)) (k ^ wd) := fun g => (hu_n _ _ (by omega)).trans hr
  have hpo : ∀ F, hu h (p + 2) (io 243 F) p = IS p a b := fun g => (hu_n _ _ (by omega)).trans hob
  have hgo : ∀ F, hu h (p + 2) (io 243 F) (p + 1) = io 2187 g := fun F => (hu_n _ _ (by omega)).trans hg
  have hall := fun P met F => CmI.all (k := k) (wd := wd) (T := T) (m := m) (P := P) (met := met) (F := F) (by omega)
  have hmet := fun P met F => CmI.met (k := k) (wd := wd) (T := T) (m := m) (P := P) (met := met) (F := F) (by omega)
  have hend := fun i P met F => CmI.end0 (k := k) (wd := wd) (T := T) (m := m) (i := i) (P := P) (met := met) (F := F)
  generalize hWL : m + wd - 1 = wl at *
  refine conI (by decide +kernel) ⟨fun _ => rfl, rfl, by simp⟩ (fun X C => ?_)
  change V X (0, 0) w h 0 [some (.ref p), some (.ref r), some (.int (nI m)), none, none, none, none, none, none, none] []
  refine v_iload_n C (oX2_commonPositions.at 0 rfl) rfl ?_
  refine v_aload_n C (oX2_commonPositions.at 1 rfl) rfl ?_
  refine v_getf C (oX2_commonPositions.at 2 rfl) fX2_29 hr rfl ?_
  refine v_iaddN C (oX2_commonPositions.at 3 rfl) ?_
  refine v_iconst C (oX2_commonPositions.at 4 rfl) (v := nI 1) rfl ?_
  refine v_isubN C (oX2_commonPositions.at 5 rfl) (by omega) ?_
  refine v_istore_n C (oX2_commonPositions.at 6 rfl) rfl ?_
  dsimp only [sto1, sto2, killL]
  rw [hWL]
  refine v_aload_n C (oX2_commonPositions.at 7 rfl) rfl ?_
  refine v_iload_n C (oX2_commonPositions.at 8 rfl) rfl ?_
  refine v_callV C (oX2_commonPositions.at 9 rfl) cX2_34 hr (k_countOfWords hr (by omega)) rfl rfl rfl ⟨rfl, rfl⟩ rfl rfl (fun _ => rfl) (fun h' hp => ?_)
  rw [show h' = _ from hp]
  dsimp only [Option.toList, List.cons_append, List.nil_append]
  refine v_istore C (oX2_commonPositions.at 10 rfl) rfl ?_
  refine v_aload_n C (oX2_commonPositions.at 11 rfl) rfl ?_
  refine v_iload_n C (oX2_commonPositions.at 12 rfl) rfl ?_
  dsimp only [sto1, sto2, killL]
  refine v_callV C (oX2_commonPositions.at 13 rfl) cX2_34 hr (k_countOfWords hr (by omega)) rfl rfl rfl ⟨rfl, rfl⟩ rfl rfl (fun _ => rfl) (fun h' hp => ?_)
  rw [show h' = _ from hp]
  dsimp only [Option.toList, List.cons_append, List.nil_append]
  refine v_istore C (oX2_commonPositions.at 14 rfl) rfl ?_
  refine v_aload_n C (oX2_commonPositions.at 15 rfl) rfl ?_
  refine v_getf C (oX2_commonPositions.at 16 rfl) fX2_13 hob rfl ?_
  refine v_iconst C (oX2_commonPositions.at 17 rfl) (v := nI 0) rfl ?_
  refine v_iload C (oX2_commonPositions.at 18 rfl) rfl ?_
  refine v_iconst C (oX2_commonPositions.at 19 rfl) (v := -1) rfl ?_
  dsimp only [sto1, sto2, killL]
  refine v_callS C (oX2_commonPositions.at 20 rfl) cX2_63 (k_fill4 hF0 (by decide) (by omega) (by omega)) rfl rfl rfl ⟨rfl, rfl⟩ rfl rfl (fun _ => rfl) (fun h' hp => ?_)
  rw [show h' = _ from hp]
  dsimp only [Option.toList, List.cons_append, List.nil_append]
  refine v_iconst C (oX2_commonPositions.at 21 rfl) (v := nI 1) rfl ?_
  refine v_iload_n C (oX2_commonPositions.at 22 rfl) rfl ?_
  refine v_ishlN C (oX2_commonPositions.at 23 rfl) (by omega) (by omega) ?_
  refine v_iconst C (oX2_commonPositions.at 24 rfl) (v := nI 1) rfl ?_
  refine v_isubN C (oX2_commonPositions.at 25 rfl) (by omega) ?_
  refine v_istore C (oX2_commonPositions.at 26 rfl) rfl ?_
  refine v_iconst C (oX2_commonPositions.at 27 rfl) (v := nI 0) rfl ?_
  refine v_istore C (oX2_commonPositions.at 28 rfl) rfl ?_
  refine v_iconst C (oX2_commonPositions.at 29 rfl) (v := nI 0) rfl ?_
  refine v_istore C (oX2_commonPositions.at 30 rfl) rfl ?_
  dsimp only [sto1, sto2, killL]
  suffices H : ∀ d i P met F l9, i + d = k ^ wl → CmI k wd T m i P met F → V X (0, 0) w (hu h (p + 2) (io 243 F)) 47 [some (.ref p), some (.ref r), some (.int (nI m)), some (.int (nI wl)), some (.int (nI (k ^ wl))), some (.int (nI (k ^ m))), some (.int (nI P)), some (.int (nI met)), some (.int (nI i)), l9] [] by
    rw [Nat.one_mul]
    refine H (k ^ wl) 0 _ _ _ none (by omega) ⟨by rw [hWL]; omega, fun j => ?_, fun y hy => ?_, ?_⟩
    · rw [hWL, Nat.testBit_two_pow_sub_one, decide_eq_true_eq]
      exact ⟨fun a => ⟨a, fun x y hx => by omega⟩, fun a => a.1⟩
    · refine Or.inl ⟨?_, fun x hx => by omega⟩
      show (if _ then _ else _) = _
      rw [if_pos ⟨by omega, hy⟩]
    · have : ∀ n, n ≤ k ^ m → cnt (fun y => decide (fil F0 0 (k ^ m) (-1) y ≠ -1)) n = 0 := by
        intro n
        induction n with
        | zero => intro _; rfl
        | succ n ih =>
          intro hn
          rw [cnt, ih (by omega), if_neg]
          intro e
          apply of_decide_eq_true e
          show (if _ then _ else _) = _
          rw [if_pos ⟨by omega, by omega⟩]
      exact (this _ (Nat.le_refl _)).symm
  have fin : ∀ i P met F l9, i ≤ k ^ wl → CmI k wd T m i P met F → (i = k ^ wl ∨ P = 0) → V X (0, 0) w (hu h (p + 2) (io 243 F)) 117 [some (.ref p), some (.ref r), some (.int (nI m)), some (.int (nI wl)), some (.int (nI (k ^ wl))), some (.int (nI (k ^ m))), some (.int (nI P)), some (.int (nI met)), some (.int (nI i)), l9] [] := by
    intro i P met F l9 hi hI hz
    have hml : met ≤ k ^ m := by rw [hI.2.2.2]; exact cnt_le _ _
    have hpost : psN k wd T m ≠ 0 → ∀ y, y < k ^ m → ∃ x, x < k ^ wl ∧ F y = nI x ∧ gIm k wd T m x = y := by
      intro h0 y hy
      rcases hz with rfl | hz
      · have e1 := hall _ _ _ hI
        by_cases e2 : met = k ^ m
        · obtain ⟨x, hx, e3⟩ := (hmet _ _ _ hI).mp e2 y hy
          rcases hI.2.2.1 y hy with ⟨_, q⟩ | ⟨x', q1, q2, q3⟩
          · exact absurd e3 (q x (by rw [← hWL]; exact hx))
          · exact ⟨x', by omega, q2, q3⟩
        · rw [if_neg e2] at e1; exact absurd e1 h0
      · exact absurd (hend _ _ _ _ hI hi hz) h0
    have hval : psN k wd T m = if met = k ^ m then P else 0 := by
      rcases hz with rfl | hz
      · exact hall _ _ _ hI
      · rw [hend _ _ _ _ hI hi hz, hz]; split <;> rfl
    refine v_iload C (oX2_commonPositions.at 65 rfl) rfl ?_
    refine v_iload C (oX2_commonPositions.at 66 rfl) rfl ?_
    refine v_icmp_neN C (oX2_commonPositions.at 67 rfl) (tgt := 129) (by decide) (by omega) (by omega) (fun hc => ?_) (fun hc => ?_)
    · rw [if_neg hc] at hval
      rw [hval] at C hpost
      refine v_iconst C (oX2_commonPositions.at 70 rfl) (v := nI 0) rfl ?_
      exact v_iret C (oX2_commonPositions.at 71 rfl) rfl rfl ⟨Nat.le_refl _, Nat.le_refl _⟩ ⟨rfl, F, rfl, hpost⟩
    · rw [if_pos hc] at hval
      rw [hval] at C hpost
      refine v_iload C (oX2_commonPositions.at 68 rfl) rfl ?_
      refine v_goto C (oX2_commonPositions.at 69 rfl) (tgt := 130) (by decide) ?_
      exact v_iret C (oX2_commonPositions.at 71 rfl) rfl rfl ⟨Nat.le_refl _, Nat.le_refl _⟩ ⟨rfl, F, rfl, hpost⟩
  intro d
  induction d with
  | zero =>
    intro i P met F l9 hi hI
    refine v_iload C (oX2_commonPositions.at 31 rfl) rfl ?_
    refine v_iload C (oX2_commonPositions.at 32 rfl) rfl ?_
    refine v_icmp_geN C (oX2_commonPositions.at 33 rfl) (tgt := 117) (by decide) (by omega) (by omega) (fun hc => ?_) (fun hc => ?_)
    · exact fin i P met F l9 (by omega) hI (Or.inl (by omega))
    · exact absurd hc (by omega)
  | succ d ih =>
    intro i P met F l9 hi hI
    have hPl := hI.1
    rw [hWL] at hPl
    have hgi := hG i (by omega)
    have hgl := hgl i
    refine v_iload C (oX2_commonPositions.at 31 rfl) rfl ?_
    refine v_iload C (oX2_commonPositions.at 32 rfl) rfl ?_
    refine v_icmp_geN C (oX2_commonPositions.at 33 rfl) (tgt := 117) (by decide) (by omega) (by omega) (fun hc => ?_) (fun hc => ?_)
    · exact absurd hc (by omega)
    · refine v_iload C (oX2_commonPositions.at 34 rfl) rfl ?_
      refine v_if_eqN C (oX2_commonPositions.at 35 rfl) (tgt := 117) (by decide) (by omega) (fun hc => ?_) (fun hc => ?_)
      · exact fin i P met F l9 (by omega) hI (Or.inr hc)
      · refine v_aload_n C (oX2_commonPositions.at 36 rfl) rfl ?_
        refine v_getf C (oX2_commonPositions.at 37 rfl) fX2_9 (hpo _) rfl ?_
        refine v_iload C (oX2_commonPositions.at 38 rfl) rfl ?_
        refine v_iald C (oX2_commonPositions.at 39 rfl) (hgo _) (by decide) rfl (by omega) hgi ?_
        refine v_istore C (oX2_commonPositions.at 40 rfl) rfl ?_
        dsimp only [sto1, sto2, killL]
        rcases hI.2.2.1 _ hgl with ⟨h1, h2⟩ | ⟨x0, h1, h2, h3⟩
        · refine v_aload_n C (oX2_commonPositions.at 41 rfl) rfl ?_
          refine v_getf C (oX2_commonPositions.at 42 rfl) fX2_13 (hpo _) rfl ?_
          refine v_iload C (oX2_commonPositions.at 43 rfl) rfl ?_
          refine v_iald C (oX2_commonPositions.at 44 rfl) (hu_s _ _ _) (by decide) rfl (by omega) h1 ?_
          refine v_if_ge C (oX2_commonPositions.at 45 rfl) (tgt := 93) (by decide) (fun hc => absurd hc (by decide)) (fun hc => ?_)
          refine v_aload_n C (oX2_commonPositions.at 46 rfl) rfl ?_
          refine v_getf C (oX2_commonPositions.at 47 rfl) fX2_13 (hpo _) rfl ?_
          refine v_iload C (oX2_commonPositions.at 48 rfl) rfl ?_
          refine v_iload C (oX2_commonPositions.at 49 rfl) rfl ?_
          refine v_iast C (oX2_commonPositions.at 50 rfl) (hu_s _ _ _) (by decide) rfl (by omega) ?_
          rw [hu_hu]
          refine v_iincN C (oX2_commonPositions.at 51 rfl) rfl ?_
          refine v_goto C (oX2_commonPositions.at 52 rfl) (tgt := 111) (by decide) ?_
          refine v_iincN C (oX2_commonPositions.at 63 rfl) rfl ?_
          refine v_goto C (oX2_commonPositions.at 64 rfl) (tgt := 47) (by decide) ?_
          dsimp only [sto1, sto2, killL]
          exact ih (i + 1) P (met + 1) _ _ (by omega) (hI.new (by omega) hgl h2 h1)
        · have hI2 := hI.old (by omega) h1 h3
          rw [hWL] at hI2
          refine v_aload_n C (oX2_commonPositions.at 41 rfl) rfl ?_
          refine v_getf C (oX2_commonPositions.at 42 rfl) fX2_13 (hpo _) rfl ?_
          refine v_iload C (oX2_commonPositions.at 43 rfl) rfl ?_
          refine v_iald C (oX2_commonPositions.at 44 rfl) (hu_s _ _ _) (by decide) rfl (by omega) h2 ?_
          refine v_if_geN C (oX2_commonPositions.at 45 rfl) (tgt := 93) (by decide) (by omega) ?_
          refine v_aload_n C (oX2_commonPositions.at 53 rfl) rfl ?_
          refine v_iload C (oX2_commonPositions.at 54 rfl) rfl ?_
          refine v_iload_n C (oX2_commonPositions.at 55 rfl) rfl ?_
          refine v_aload_n C (oX2_commonPositions.at 56 rfl) rfl ?_
          refine v_getf C (oX2_commonPositions.at 57 rfl) fX2_13 (hpo _) rfl ?_
          refine v_iload C (oX2_commonPositions.at 58 rfl) rfl ?_
          refine v_iald C (oX2_commonPositions.at 59 rfl) (hu_s _ _ _) (by decide) rfl (by omega) h2 ?_
          refine v_iload C (oX2_commonPositions.at 60 rfl) rfl ?_
          refine v_callS C (oX2_commonPositions.at 61 rfl) cX2_66 (k_equalPositions (hro _) hk hwl8 (by omega) (by omega)) rfl rfl rfl ⟨rfl, rfl⟩ rfl rfl (fun _ => rfl) (fun h' hp => ?_)
          rw [show h' = _ from hp]
          dsimp only [Option.toList, List.cons_append, List.nil_append]
          refine v_istore C (oX2_commonPositions.at 62 rfl) rfl ?_
          refine v_iincN C (oX2_commonPositions.at 63 rfl) rfl ?_
          refine v_goto C (oX2_commonPositions.at 64 rfl) (tgt := 47) (by decide) ?_
          dsimp only [sto1, sto2, killL]
          exact ih (i + 1) _ met F _ (by omega) hI2
/-- the inverse that counts: its length and position; length 0 if there is none -/
def InR (k wd : Nat) (T : Nat → Nat) (m q : Nat) : Prop := (m = 0 ∧ q = 0 ∧ ∀ m', 1 ≤ m' → m' ≤ 5 → ∀ j, j < m' + wd - 1 → inB k wd T m' j = false) ∨ (1 ≤ m ∧ m ≤ 5 ∧ q < m + wd - 1 ∧ inB k wd T m q = true ∧ (∀ j, j < q → inB k wd T m j = false) ∧ ∀ m', 1 ≤ m' → m' < m → ∀ j, j < m' + wd - 1 → inB k wd T m' j = false)
theorem psN_0 {k wd : Nat} {T : Nat → Nat} {m : Nat} : psN k wd T m = 0 ↔ ∀ j, j < m + wd - 1 → inB k wd T m j = false := by
  refine ⟨fun a j hj => ?_, fun a => ?_⟩
  · cases hb : inB k wd T m j
    · rfl
    · have := psN_bit.mpr ⟨hj, hb⟩
      rw [a, Nat.zero_testBit] at this
      cases this
  · apply Nat.eq_of_testBit_eq
    intro j
    rw [Nat.zero_testBit]
    cases hb : (psN k wd T m).testBit j
    · rfl
    · obtain ⟨h1, h2⟩ := psN_bit.mp hb
      rw [a j h1] at h2
      cases h2
theorem leastB (p : Nat → Bool) : ∀ n, (∀ j, j < n → p j = false) ∨ ∃ q, q < n ∧ p q = true ∧ ∀ j, j < q → p j = false
  | 0 => Or.inl (fun j hj => by omega)
  | n + 1 => by
    rcases leastB p n with a | ⟨q, h1, h2, h3⟩
    · cases hb : p n
      · refine Or.inl (fun j hj => ?_)
        by_cases e : j = n
        · rw [e]; exact hb
        · exact a j (by omega)
      · exact Or.inr ⟨n, by omega, hb, a⟩
    · exact Or.inr ⟨q, by omega, h2, h3⟩
theorem inR_ex (k wd : Nat) (T : Nat → Nat) : ∃ m q, InR k wd T m q := by
  rcases leastB (fun m => !(allB (fun j => !(inB k wd T (m + 1) j)) (m + 1 + wd - 1))) 5 with a | ⟨c, h1, h2, h3⟩
  · refine ⟨0, 0, Or.inl ⟨rfl, rfl, fun m' hm1 hm5 j hj => ?_⟩⟩
    have := a (m' - 1) (by omega)
    simp only [Bool.not_eq_false'] at this
    rw [show m' - 1 + 1 = m' by omega] at this
    have := (allB_iff _).mp this j hj
    simpa using this
  · rcases leastB (inB k wd T (c + 1)) (c + 1 + wd - 1) with b | ⟨q, g1, g2, g3⟩
    · obtain ⟨j, hj, hb⟩ := (notAll _).mp h2
      rw [b j hj] at hb
      cases hb
    · refine ⟨c + 1, q, Or.inr ⟨by omega, by omega, g1, g2, g3, fun m' hm1 hm2 j hj => ?_⟩⟩
      have := h3 (m' - 1) (by omega)
      simp only [Bool.not_eq_false'] at this
      rw [show m' - 1 + 1 = m' by omega] at this
      have := (allB_iff _).mp this j hj
      simpa using this
def IsOK (h : Hp) (p : Nat) (a b : Int32) (g F : Nat → Int32) : Prop := h p = IS p a b ∧ h (p + 1) = io 2187 g ∧ h (p + 2) = io 243 F
theorem k_run {w : Wt} {h : Hp} {p r k wd m q : Nat} {a b : Int32} {T : Nat → Nat} {g0 F0 : Nat → Int32} (hR : RuleOK h r k wd T) (hs : SZ k wd) (hob : IsOK h p a b g0 F0) (hsep : r + 5 < p) (hI : InR k wd T m q) : ConN mX2_run 3 (0, 0) w [.ref p, .ref r] h (.inl none) (fun h' => (∃ g F, IsOK h' p (nI m) (nI q) g F ∧ (m ≠ 0 → ∀ y, y < k ^ m → ∃ x, x < k ^ (m + wd - 1) ∧ F y = nI x ∧ gIm k wd T m x = y)) ∧ ∀ j, (j < p ∨ p + 2 < j) → h' j = h j) := by
  have hk := hs.k
  have hwd := hs.w
  obtain ⟨hb0, hb1, hb2⟩ := hob
  have hro := hR.ro
  refine conI (by decide +kernel) ⟨fun _ => rfl, rfl, by simp⟩ (fun X C => ?_)
  change V X (0, 0) w h 0 [some (.ref p), some (.ref r), none, none] []
  refine v_aload_n C (oX2_run.at 0 rfl) rfl ?_
  refine v_iconst C (oX2_run.at 1 rfl) (v := nI 0) rfl ?_
  refine v_putI C (oX2_run.at 2 rfl) fX2_16 p2_0 hb0 rfl ?_
  have s1 : hu h p (ob 2 [.int (nI 0), .int b, .ref (p + 1), .ref (p + 2)]) p = IS p (nI 0) b := hu_s _ _ _
  refine v_aload_n C (oX2_run.at 3 rfl) rfl ?_
  refine v_iconst C (oX2_run.at 4 rfl) (v := nI 0) rfl ?_
  refine v_putI C (oX2_run.at 5 rfl) fX2_20 p2_1 s1 rfl ?_
  rw [show ∀ c d, hu (hu h p c) p d = hu h p d from fun c d => hu_hu _ _ _ _]
  have s2 : hu h p (IS p (nI 0) (nI 0)) p = IS p (nI 0) (nI 0) := hu_s _ _ _
  have s3 : hu h p (IS p (nI 0) (nI 0)) (p + 1) = io 2187 g0 := (hu_n _ _ (by omega)).trans hb1
  refine v_aload_n C (oX2_run.at 6 rfl) rfl ?_
  refine v_getf C (oX2_run.at 7 rfl) fX2_9 s2 rfl ?_
  refine v_iconst C (oX2_run.at 8 rfl) (v := nI 0) rfl ?_
  refine v_callS C (oX2_run.at 9 rfl) cX2_23 (k_fill s3 (by decide)) rfl rfl rfl ⟨rfl, rfl⟩ rfl rfl (fun _ => rfl) (fun h' hp => ?_)
  rw [show h' = _ from hp]
  dsimp only [Option.toList, List.cons_append, List.nil_append]
  refine v_iconst C (oX2_run.at 10 rfl) (v := nI 1) rfl ?_
  refine v_istore_n C (oX2_run.at 11 rfl) rfl ?_
  dsimp only [sto1, sto2, killL]
  suffices H : ∀ d c H g F l3, c + d = 5 → IsOK H p (nI 0) (nI 0) g F → (∀ j, (j < p ∨ p + 2 < j) → H j = h j) → (∀ x, x < k ^ (c + wd - 1) → g x = nI (gIm k wd T c x)) → (m = 0 ∨ c + 1 ≤ m) → V X (0, 0) w H 20 [some (.ref p), some (.ref r), some (.int (nI (c + 1))), l3] [] by
    refine H 5 0 _ _ F0 none (by omega) ⟨?_, hu_s _ _ _, ?_⟩ (fun j hj => ?_) (fun x hx => ?_) (by omega)
    · rw [hu_n _ _ (by omega)]; exact s2
    · rw [hu_n _ _ (by omega), hu_n _ _ (by omega)]; exact hb2
    · rw [hu_n _ _ (by omega), hu_n _ _ (by omega)]
    · have := hs.w5 (m := 0) (by omega)
      have h2 : k ^ (0 + wd - 1) ≤ k ^ (0 + wd) := Nat.pow_le_pow_right (by omega) (by omega)
      rw [mix_lt (by omega)]
      rfl
  intro d
  induction d with
  | zero =>
    intro c H g F l3 hcd hO hfr hg hm
    refine v_iload_n C (oX2_run.at 12 rfl) rfl ?_
    refine v_iconst C (oX2_run.at 13 rfl) (v := nI 5) rfl ?_
    refine v_icmp_gtN C (oX2_run.at 14 rfl) (tgt := 73) (by decide) (by omega) (by omega) (fun hc => ?_) (fun hc => ?_)
    · have e0 : m = 0 := by
        rcases hI with ⟨e, _⟩ | ⟨_, _, _⟩ <;> omega
      have e1 : q = 0 := by
        rcases hI with ⟨_, e, _⟩ | ⟨_, _, _⟩ <;> omega
      subst e0 e1
      exact v_vret C (oX2_run.at 43 rfl) rfl rfl ⟨Nat.le_refl _, Nat.le_refl _⟩ ⟨rfl, ⟨g, F, hO, fun e => absurd rfl e⟩, hfr⟩
    · exact absurd hc (by omega)
  | succ d ih =>
    intro c H g F l3 hcd hO hfr hg hm
    obtain ⟨o0, o1, o2⟩ := id hO
    have hRH : RuleOK H r k wd T := hR.eq (fun j _ _ => hfr j (by omega))
    have hro := hRH.ro
    have kl := k_lengthen (w := w) hRH hs o0 o1 hsep (m := c) (by omega) hg
    have ew : c + 1 + wd - 1 = c + wd := by omega
    refine v_iload_n C (oX2_run.at 12 rfl) rfl ?_
    refine v_iconst C (oX2_run.at 13 rfl) (v := nI 5) rfl ?_
    refine v_icmp_gtN C (oX2_run.at 14 rfl) (tgt := 73) (by decide) (by omega) (by omega) (fun hc => ?_) (fun hc => ?_)
    · exact absurd hc (by omega)
    · refine v_aload_n C (oX2_run.at 15 rfl) rfl ?_
      refine v_aload_n C (oX2_run.at 16 rfl) rfl ?_
      refine v_aload_n C (oX2_run.at 17 rfl) rfl ?_
      refine v_iload_n C (oX2_run.at 18 rfl) rfl ?_
      refine v_aload_n C (oX2_run.at 19 rfl) rfl ?_
      refine v_getf C (oX2_run.at 20 rfl) fX2_29 hro rfl ?_
      refine v_iaddN C (oX2_run.at 21 rfl) ?_
      refine v_iconst C (oX2_run.at 22 rfl) (v := nI 1) rfl ?_
      refine v_isubN C (oX2_run.at 23 rfl) (by omega) ?_
      refine v_callV C (oX2_run.at 24 rfl) cX2_34 hro (k_countOfWords hro (by omega)) rfl rfl rfl ⟨rfl, rfl⟩ rfl rfl (fun _ => rfl) (fun h' hp => ?_)
      rw [show h' = _ from hp]
      dsimp only [Option.toList, List.cons_append, List.nil_append]
      rw [ew]
      refine v_callV C (oX2_run.at 25 rfl) cX2_38 o0 (kl) rfl rfl rfl ⟨rfl, rfl⟩ rfl rfl (fun _ => rfl) (fun h' hp => ?_)
      dsimp only [Option.toList, List.cons_append, List.nil_append]
      obtain ⟨g', rfl, hg'⟩ := hp
      have q0 : hu H (p + 1) (io 2187 g') p = IS p (nI 0) (nI 0) := (hu_n _ _ (by omega)).trans o0
      have q2 : hu H (p + 1) (io 2187 g') (p + 2) = io 243 F := (hu_n _ _ (by omega)).trans o2
      have kc := k_common (w := w) (m := c + 1) (RuleOK.hu (c := io 2187 g') (q := p + 1) hRH (by omega)) hs q0 (hu_s _ _ _) q2 hsep (by omega) (by omega) (fun x hx => hg' x (by rw [← ew]; exact hx))
      refine v_aload_n C (oX2_run.at 26 rfl) rfl ?_
      refine v_aload_n C (oX2_run.at 27 rfl) rfl ?_
      refine v_iload_n C (oX2_run.at 28 rfl) rfl ?_
      refine v_callV C (oX2_run.at 29 rfl) cX2_42 q0 (kc) rfl rfl rfl ⟨rfl, rfl⟩ rfl rfl (fun _ => rfl) (fun h' hp => ?_)
      dsimp only [Option.toList, List.cons_append, List.nil_append]
      obtain ⟨F', rfl, hF'⟩ := hp
      have hpl : psN k wd T (c + 1) < 512 := by
        have h1 := psN_lt (k := k) (wd := wd) (T := T) (m := c + 1)
        rw [ew] at h1
        have h2 : (2 : Nat) ^ (c + wd) ≤ 2 ^ 9 := Nat.pow_le_pow_right (by decide) (by omega)
        omega
      have q3 : hu (hu H (p + 1) (io 2187 g')) (p + 2) (io 243 F') p = IS p (nI 0) (nI 0) := (hu_n _ _ (by omega)).trans q0
      have q4 : hu (hu H (p + 1) (io 2187 g')) (p + 2) (io 243 F') (p + 1) = io 2187 g' := (hu_n _ _ (by omega)).trans (hu_s _ _ _)
      have q5 : hu (hu H (p + 1) (io 2187 g')) (p + 2) (io 243 F') (p + 2) = io 243 F' := hu_s _ _ _
      have q6 : ∀ j, (j < p ∨ p + 2 < j) → hu (hu H (p + 1) (io 2187 g')) (p + 2) (io 243 F') j = h j := fun j hj => by rw [hu_n _ _ (by omega), hu_n _ _ (by omega), hfr j hj]
      generalize hu (hu H (p + 1) (io 2187 g')) (p + 2) (io 243 F') = H2 at *
      refine v_istore_n C (oX2_run.at 30 rfl) rfl ?_
      refine v_iload_n C (oX2_run.at 31 rfl) rfl ?_
      dsimp only [sto1, sto2, killL]
      refine v_if_eqN C (oX2_run.at 32 rfl) (tgt := 67) (by decide) (by omega) (fun hc => ?_) (fun hc => ?_)
      · have e0 : m = 0 ∨ c + 1 + 1 ≤ m := by
          rcases hm with e | e
          · exact Or.inl e
          · by_cases e1 : m = c + 1
            · subst e1
              rcases hI with ⟨z, _⟩ | ⟨_, _, z1, z2, _⟩
              · omega
              · have := psN_0.mp hc q z1
                rw [this] at z2
                cases z2
            · exact Or.inr (by omega)
        refine v_iincN C (oX2_run.at 41 rfl) rfl ?_
        refine v_goto C (oX2_run.at 42 rfl) (tgt := 20) (by decide) ?_
        dsimp only [sto1, sto2, killL]
        exact ih (c + 1) H2 g' F' _ (by omega) ⟨q3, q4, q5⟩ q6 (fun x hx => hg' x (by rw [← ew]; exact hx)) e0
      · have e0 : m = c + 1 ∧ (psN k wd T (c + 1)).testBit q = true ∧ ∀ j, j < q → (psN k wd T (c + 1)).testBit j = false := by
          rcases hI with ⟨z0, z1, z2⟩ | ⟨z1, z2, z3, z4, z5, z6⟩
          · exact absurd (psN_0.mpr (z2 (c + 1) (by omega) (by omega))) hc
          · have e1 : m = c + 1 := by
              apply Decidable.byContradiction
              intro e
              exact hc (psN_0.mpr (z6 (c + 1) (by omega) (by omega)))
            subst e1
            refine ⟨rfl, psN_bit.mpr ⟨z3, z4⟩, fun j hj => ?_⟩
            cases hb : (psN k wd T (c + 1)).testBit j
            · rfl
            · have := (psN_bit.mp hb).2
              rw [z5 j hj] at this
              cases this
        obtain ⟨rfl, e1, e2⟩ := e0
        refine v_aload_n C (oX2_run.at 33 rfl) rfl ?_
        refine v_iload_n C (oX2_run.at 34 rfl) rfl ?_
        refine v_putI C (oX2_run.at 35 rfl) fX2_16 p2_0 q3 rfl ?_
        have q7 : hu H2 p (ob 2 [.int (nI (c + 1)), .int (nI 0), .ref (p + 1), .ref (p + 2)]) p = IS p (nI (c + 1)) (nI 0) := hu_s _ _ _
        refine v_aload_n C (oX2_run.at 36 rfl) rfl ?_
        refine v_iload_n C (oX2_run.at 37 rfl) rfl ?_
        refine v_callS C (oX2_run.at 38 rfl) cX2_46 (k_ntz hpl e1 e2) rfl rfl rfl ⟨rfl, rfl⟩ rfl rfl (fun _ => rfl) (fun h' hp => ?_)
        rw [show h' = _ from hp]
        dsimp only [Option.toList, List.cons_append, List.nil_append]
        refine v_putI C (oX2_run.at 39 rfl) fX2_20 p2_1 q7 rfl ?_
        refine v_vret C (oX2_run.at 40 rfl) rfl rfl ⟨Nat.le_refl _, Nat.le_refl _⟩ ⟨rfl, ⟨g', F', ⟨hu_s _ _ _, ?_, ?_⟩, fun _ => hF' hc⟩, fun j hj => ?_⟩
        · rw [hu_n _ _ (by omega), hu_n _ _ (by omega)]; exact q4
        · rw [hu_n _ _ (by omega), hu_n _ _ (by omega)]; exact q5
        · rw [hu_n _ _ (by omega), hu_n _ _ (by omega)]; exact q6 j hj
theorem k_stateFor {w : Wt} {h : Hp} {p r k wd n mm m q x y : Nat} {g F : Nat → Int32} (hr : h r = RO r k wd n mm) (hk : k = 2 ∨ k = 3) (hO : IsOK h p (nI m) (nI q) g F) (hm : m ≤ 5) (hwd : 2 ≤ wd ∧ wd ≤ 4) (hq : q < m + wd - 1) (hy : y < 243) (hF : F y = nI x) (hx : x < 2 ^ 31) : ConN mX2_stateFor 2 (0, 0) w [.ref p, .ref r, .int (nI y)] h (.inl (some (.int (nI (cel k (m + wd - 1) x q))))) (fun h' => h' = h) := by
  refine conI (by decide +kernel) ⟨fun _ => rfl, rfl, by simp⟩ (fun X C => ?_)
  change V X (0, 0) w h 0 [some (.ref p), some (.ref r), some (.int (nI y))] []
  refine v_aload_n C (oX2_stateFor.at 0 rfl) rfl ?_
  refine v_aload_n C (oX2_stateFor.at 1 rfl) rfl ?_
  refine v_getf C (oX2_stateFor.at 2 rfl) fX2_13 hO.1 rfl ?_
  refine v_iload_n C (oX2_stateFor.at 3 rfl) rfl ?_
  refine v_iald C (oX2_stateFor.at 4 rfl) hO.2.2 (by decide) rfl (by omega) hF ?_
  refine v_aload_n C (oX2_stateFor.at 5 rfl) rfl ?_
  refine v_getf C (oX2_stateFor.at 6 rfl) fX2_16 hO.1 rfl ?_
  refine v_aload_n C (oX2_stateFor.at 7 rfl) rfl ?_
  refine v_getf C (oX2_stateFor.at 8 rfl) fX2_29 hr rfl ?_
  refine v_iaddN C (oX2_stateFor.at 9 rfl) ?_
  refine v_iconst C (oX2_stateFor.at 10 rfl) (v := nI 1) rfl ?_
  refine v_isubN C (oX2_stateFor.at 11 rfl) (by omega) ?_
  refine v_aload_n C (oX2_stateFor.at 12 rfl) rfl ?_
  refine v_getf C (oX2_stateFor.at 13 rfl) fX2_20 hO.1 rfl ?_
  refine v_callV C (oX2_stateFor.at 14 rfl) cX2_73 hr (k_cellOf hr hk hx (by omega) hq) rfl rfl rfl ⟨rfl, rfl⟩ rfl rfl (fun _ => rfl) (fun h' hp => ?_)
  rw [show h' = _ from hp]
  dsimp only [Option.toList, List.cons_append, List.nil_append]
  exact v_iret C (oX2_stateFor.at 15 rfl) rfl rfl ⟨Nat.le_refl _, Nat.le_refl _⟩ ⟨rfl, rfl⟩
theorem cel_s {k L x i : Nat} (hi : i < L) : cel k (L + 1) x i = cel k L (x / k) i := by
  unfold cel
  rw [Nat.div_div_eq_div_mul, show L + 1 - 1 - i = (L - 1 - i) + 1 by omega, Nat.pow_succ, Nat.mul_comm]
theorem img_congr {k wd : Nat} {T c c' : Nat → Nat} : ∀ n, (∀ j, j < n + wd - 1 → c j = c' j) → img k wd T c n = img k wd T c' n
  | 0, _ => rfl
  | n + 1, h => by
    rw [img, img, img_congr n (fun j hj => h j (by omega)), hw_congr wd (fun j hj => h _ (by omega))]
theorem gIm_img {k wd : Nat} {T : Nat → Nat} (hk : 0 < k) (hw : 1 ≤ wd) : ∀ m x, gIm k wd T m x = img k wd T (cel k (m + wd - 1) x) m
  | 0, _ => rfl
  | m + 1, x => by
    rw [gIm, img, gIm_img hk hw m, img_congr (c := cel k (m + 1 + wd - 1) x) (c' := cel k (m + wd - 1) (x / k)) m (fun j hj => by rw [show m + 1 + wd - 1 = m + wd - 1 + 1 by omega]; exact cel_s hj), hw_cel _ _ _ _ _ (by omega), show m + 1 + wd - 1 - wd - m = 0 by omega, Nat.pow_zero, Nat.div_one]
theorem gIm_limg {k wd : Nat} {T : Nat → Nat} (hk : 0 < k) (hw : 1 ≤ wd) {m x : Nat} (hm : 1 ≤ m) : gIm k wd T m x = limg k wd T (m + wd - 1) x := by
  rw [gIm_img hk hw, limg, show m + wd - 1 - wd + 1 = m by omega]
