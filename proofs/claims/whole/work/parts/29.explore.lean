/-! ===== SubsetAutomaton.explore ===== -/
theorem dpF_fuel {fr : Nat → Nat} : ∀ f j, (∀ i, 0 < i → i ≤ j → fr i < i) → j ≤ f → dpF fr f j = dpF fr j j := by
  intro f
  induction f with
  | zero => intro j _ h; have : j = 0 := by omega
            subst this; rfl
  | succ f ih =>
    intro j hj h
    rcases Nat.eq_zero_or_pos j with e | e
    · subst e; simp [dpF]
    · obtain ⟨j', rfl⟩ : ∃ j', j = j' + 1 := ⟨j - 1, by omega⟩
      have h1 := hj (j' + 1) e (Nat.le_refl _)
      rw [dpF, dpF, if_neg (by omega), if_neg (by omega), ih (fr (j' + 1)) (fun i a b => hj i a (by omega)) (by omega)]
      congr 1
      by_cases e2 : j' ≤ f
      · rw [← ih (fr (j' + 1)) (fun i a b => hj i a (by omega)) (by omega)]
        have : ∀ f2 f3 j, (∀ i, 0 < i → i ≤ j → fr i < i) → j ≤ f2 → j ≤ f3 → dpF fr f2 j = dpF fr f3 j := by
          intro f2
          induction f2 with
          | zero => intro f3 j hj a b; have : j = 0 := by omega
                    subst this; cases f3 <;> simp [dpF]
          | succ f2 ih2 =>
            intro f3 j hj a b
            rcases Nat.eq_zero_or_pos j with e | e
            · subst e; cases f3 <;> simp [dpF]
            · obtain ⟨f4, rfl⟩ : ∃ f4, f3 = f4 + 1 := ⟨f3 - 1, by omega⟩
              have h1 := hj j e (Nat.le_refl _)
              rw [dpF, dpF, if_neg (by omega), if_neg (by omega), ih2 f4 (fr j) (fun i a b => hj i a (by omega)) (by omega) (by omega)]
        exact this _ _ _ (fun i a b => hj i a (by omega)) (by omega) (by omega)
      · omega
theorem wdF_fuel {k : Nat} {fr bb : Nat → Nat} : ∀ f2 f3 j, (∀ i, 0 < i → i ≤ j → fr i < i) → j ≤ f2 → j ≤ f3 → wdF k fr bb f2 j = wdF k fr bb f3 j := by
  intro f2
  induction f2 with
  | zero => intro f3 j hj a b; have : j = 0 := by omega
            subst this; cases f3 <;> simp [wdF]
  | succ f2 ih2 =>
    intro f3 j hj a b
    rcases Nat.eq_zero_or_pos j with e | e
    · subst e; cases f3 <;> simp [wdF]
    · obtain ⟨f4, rfl⟩ : ∃ f4, f3 = f4 + 1 := ⟨f3 - 1, by omega⟩
      have h1 := hj j e (Nat.le_refl _)
      rw [wdF, wdF, if_neg (by omega), if_neg (by omega), ih2 f4 (fr j) (fun i a b => hj i a (by omega)) (by omega) (by omega)]
theorem dpF_congr {fr fr' : Nat → Nat} : ∀ f j, (∀ i, 0 < i → i ≤ j → fr i < i) → (∀ i, i ≤ j → fr' i = fr i) → dpF fr' f j = dpF fr f j := by
  intro f
  induction f with
  | zero => intro _ _ _; rfl
  | succ f ih =>
    intro j hj he
    rw [dpF, dpF]
    split
    · rfl
    · have h1 := hj j (by omega) (Nat.le_refl _)
      rw [he j (Nat.le_refl _), ih (fr j) (fun i a b => hj i a (by omega)) (fun i a => he i (by omega))]
theorem wdF_congr {k : Nat} {fr fr' bb bb' : Nat → Nat} : ∀ f j, (∀ i, 0 < i → i ≤ j → fr i < i) → (∀ i, i ≤ j → fr' i = fr i ∧ bb' i = bb i) → wdF k fr' bb' f j = wdF k fr bb f j := by
  intro f
  induction f with
  | zero => intro _ _ _; rfl
  | succ f ih =>
    intro j hj he
    rw [wdF, wdF]
    split
    · rfl
    · have h1 := hj j (by omega) (Nat.le_refl _)
      rw [(he j (Nat.le_refl _)).1, (he j (Nat.le_refl _)).2, ih (fr j) (fun i a b => hj i a (by omega)) (fun i a => he i (by omega))]
def bdp (b : Bt) (j : Nat) : Nat := dpF b.2.2.1 512 j
def bwr (k : Nat) (b : Bt) (j : Nat) : Nat := wdF k b.2.2.1 b.2.2.2 512 j
theorem k_placeOf1 {w : Wt} {h : Hp} {p N S j dd ww : Nat} {A : Nat → Nat → Int32} (hA : SaOK h p N A) (hS : S < 512) (hj : A 2 S = nI j) (hj2 : j < 2 ^ 31) : ConN mX7_placeOf 0 (0, 0) w [.ref p, .int (nI S), .int (nI dd), .int (nI ww)] h (.inl (some (.int (nI j)))) (fun h' => h' = h) := by
  refine conI (by decide +kernel) ⟨fun _ => rfl, rfl, by simp⟩ (fun X C => ?_)
  change V X (0, 0) w h 0 [some (.ref p), some (.int (nI S)), some (.int (nI dd)), some (.int (nI ww))] []
  refine v_aload_n C (oX7_placeOf.at 0 rfl) rfl ?_
  refine v_getf C (oX7_placeOf.at 1 rfl) fX7_17 hA.1 rfl ?_
  refine v_iload_n C (oX7_placeOf.at 2 rfl) rfl ?_
  refine v_iald C (oX7_placeOf.at 3 rfl) hA.a2 (by decide) rfl (by omega) hj ?_
  refine v_if_geN C (oX7_placeOf.at 4 rfl) (tgt := 59) (by decide) (by omega) ?_
  refine v_aload_n C (oX7_placeOf.at 35 rfl) rfl ?_
  refine v_getf C (oX7_placeOf.at 36 rfl) fX7_17 hA.1 rfl ?_
  refine v_iload_n C (oX7_placeOf.at 37 rfl) rfl ?_
  refine v_iald C (oX7_placeOf.at 38 rfl) hA.a2 (by decide) rfl (by omega) hj ?_
  exact v_iret C (oX7_placeOf.at 39 rfl) rfl rfl ⟨Nat.le_refl _, Nat.le_refl _⟩ ⟨rfl, rfl⟩
theorem k_placeOf2 {w : Wt} {h : Hp} {p N S dd ww : Nat} {A : Nat → Nat → Int32} (hA : SaOK h p N A) (hS : S < 512) (hN : N < 512) (hj : A 2 S = -1) : ConN mX7_placeOf 0 (0, 0) w [.ref p, .int (nI S), .int (nI dd), .int (nI ww)] h (.inl (some (.int (nI N)))) (fun h' => SaOK h' p (N + 1) (upW (upW (upW (upW A 2 (upd (A 2) S (nI N))) 1 (upd (A 1) N (nI S))) 3 (upd (A 3) N (nI dd))) 4 (upd (A 4) N (nI ww))) ∧ ∀ j, (j < p ∨ p + 8 < j) → h' j = h j) := by
  refine conI (by decide +kernel) ⟨fun _ => rfl, rfl, by simp⟩ (fun X C => ?_)
  change V X (0, 0) w h 0 [some (.ref p), some (.int (nI S)), some (.int (nI dd)), some (.int (nI ww))] []
  refine v_aload_n C (oX7_placeOf.at 0 rfl) rfl ?_
  refine v_getf C (oX7_placeOf.at 1 rfl) fX7_17 hA.1 rfl ?_
  refine v_iload_n C (oX7_placeOf.at 2 rfl) rfl ?_
  refine v_iald C (oX7_placeOf.at 3 rfl) hA.a2 (by decide) rfl (by omega) hj ?_
  refine v_if_ge C (oX7_placeOf.at 4 rfl) (tgt := 59) (by decide) (fun hc => ?_) (fun hc => ?_)
  · rw [← Int32.not_lt] at hc
    exact absurd (by decide) hc
  · refine v_aload_n C (oX7_placeOf.at 5 rfl) rfl ?_
    refine v_getf C (oX7_placeOf.at 6 rfl) fX7_17 hA.1 rfl ?_
    refine v_iload_n C (oX7_placeOf.at 7 rfl) rfl ?_
    refine v_aload_n C (oX7_placeOf.at 8 rfl) rfl ?_
    refine v_getf C (oX7_placeOf.at 9 rfl) fX7_7 hA.1 rfl ?_
    refine v_iast C (oX7_placeOf.at 10 rfl) hA.a2 (by decide) rfl (by omega) ?_
    have hA1 := hA.up 2 (by decide) (upd (A 2) S (nI N))
    have hf1 : ∀ j, (j < p ∨ p + 8 < j) → (hu h (p + 2) (io (sa 2) (upd (A 2) S (nI N)))) j = h j := fun j hj => hu_n _ _ (by omega)
    change V X (0, 0) w (hu h (p + 2) (io (sa 2) (upd (A 2) S (nI N)))) _ _ _
    generalize hu h (p + 2) (io (sa 2) (upd (A 2) S (nI N))) = h1 at *
    refine v_aload_n C (oX7_placeOf.at 11 rfl) rfl ?_
    refine v_getf C (oX7_placeOf.at 12 rfl) fX7_13 hA1.1 rfl ?_
    refine v_aload_n C (oX7_placeOf.at 13 rfl) rfl ?_
    refine v_getf C (oX7_placeOf.at 14 rfl) fX7_7 hA1.1 rfl ?_
    refine v_iload_n C (oX7_placeOf.at 15 rfl) rfl ?_
    refine v_iast C (oX7_placeOf.at 16 rfl) hA1.a1 (by decide) rfl (by omega) ?_
    have hA2 := hA1.up 1 (by decide) (upd (A 1) N (nI S))
    have hf2 : ∀ j, (j < p ∨ p + 8 < j) → (hu h1 (p + 1) (io (sa 1) (upd (A 1) N (nI S)))) j = h j := fun j hj => (hu_n _ _ (by omega)).trans (hf1 j hj)
    change V X (0, 0) w (hu h1 (p + 1) (io (sa 1) (upd (A 1) N (nI S)))) _ _ _
    generalize hu h1 (p + 1) (io (sa 1) (upd (A 1) N (nI S))) = h2 at *
    refine v_aload_n C (oX7_placeOf.at 17 rfl) rfl ?_
    refine v_getf C (oX7_placeOf.at 18 rfl) fX7_20 hA2.1 rfl ?_
    refine v_aload_n C (oX7_placeOf.at 19 rfl) rfl ?_
    refine v_getf C (oX7_placeOf.at 20 rfl) fX7_7 hA2.1 rfl ?_
    refine v_iload_n C (oX7_placeOf.at 21 rfl) rfl ?_
    refine v_iast C (oX7_placeOf.at 22 rfl) hA2.a3 (by decide) rfl (by omega) ?_
    have hA3 := hA2.up 3 (by decide) (upd (A 3) N (nI dd))
    have hf3 : ∀ j, (j < p ∨ p + 8 < j) → (hu h2 (p + 3) (io (sa 3) (upd (A 3) N (nI dd)))) j = h j := fun j hj => (hu_n _ _ (by omega)).trans (hf2 j hj)
    change V X (0, 0) w (hu h2 (p + 3) (io (sa 3) (upd (A 3) N (nI dd)))) _ _ _
    generalize hu h2 (p + 3) (io (sa 3) (upd (A 3) N (nI dd))) = h3 at *
    refine v_aload_n C (oX7_placeOf.at 23 rfl) rfl ?_
    refine v_getf C (oX7_placeOf.at 24 rfl) fX7_23 hA3.1 rfl ?_
    refine v_aload_n C (oX7_placeOf.at 25 rfl) rfl ?_
    refine v_getf C (oX7_placeOf.at 26 rfl) fX7_7 hA3.1 rfl ?_
    refine v_iload_n C (oX7_placeOf.at 27 rfl) rfl ?_
    refine v_iast C (oX7_placeOf.at 28 rfl) hA3.a4 (by decide) rfl (by omega) ?_
    have hA4 := hA3.up 4 (by decide) (upd (A 4) N (nI ww))
    have hf4 : ∀ j, (j < p ∨ p + 8 < j) → (hu h3 (p + 4) (io (sa 4) (upd (A 4) N (nI ww)))) j = h j := fun j hj => (hu_n _ _ (by omega)).trans (hf3 j hj)
    change V X (0, 0) w (hu h3 (p + 4) (io (sa 4) (upd (A 4) N (nI ww)))) _ _ _
    generalize hu h3 (p + 4) (io (sa 4) (upd (A 4) N (nI ww))) = h4 at *
    refine v_aload_n C (oX7_placeOf.at 29 rfl) rfl ?_
    refine v_dup C (oX7_placeOf.at 30 rfl) rfl ?_
    refine v_getf C (oX7_placeOf.at 31 rfl) fX7_7 hA4.1 rfl ?_
    refine v_iconst C (oX7_placeOf.at 32 rfl) (v := nI 1) rfl ?_
    refine v_iaddN C (oX7_placeOf.at 33 rfl) ?_
    refine v_putI C (oX7_placeOf.at 34 rfl) fX7_7 p7_0 hA4.1 rfl ?_
    have hA5 := hA4.fnd (fnd' := N + 1)
    change V X (0, 0) w (hu h4 p (SO p (N + 1))) _ _ _
    have hv : (upW (upW (upW (upW A 2 (upd (A 2) S (nI N))) 1 (upd (A 1) N (nI S))) 3 (upd (A 3) N (nI dd))) 4 (upd (A 4) N (nI ww))) 2 S = nI N := by
      show upd (A 2) S (nI N) S = nI N
      exact pk_us
    refine v_aload_n C (oX7_placeOf.at 35 rfl) rfl ?_
    refine v_getf C (oX7_placeOf.at 36 rfl) fX7_17 hA5.1 rfl ?_
    refine v_iload_n C (oX7_placeOf.at 37 rfl) rfl ?_
    refine v_iald C (oX7_placeOf.at 38 rfl) hA5.a2 (by decide) rfl (by omega) hv ?_
    exact v_iret C (oX7_placeOf.at 39 rfl) rfl rfl ⟨Nat.le_refl _, Nat.le_refl _⟩ ⟨rfl, hA5, fun j hj => (hu_n _ _ (by omega)).trans (hf4 j hj)⟩
/-- what the automaton's rows hold when t steps of the search are done -/
def SInv (k n : Nat) (T : Nat → Nat) (t : Nat) (A : Nat → Nat → Int32) : Prop :=
  (∀ j, j < (bfs k n T t).1 → A 1 j = nI ((bfs k n T t).2.1 j) ∧ A 3 j = nI (bdp (bfs k n T t) j) ∧ A 4 j = nI (bwr k (bfs k n T t) j) ∧ A 2 ((bfs k n T t).2.1 j) = nI j) ∧
  (∀ s, s < 512 → (∀ j, j < (bfs k n T t).1 → (bfs k n T t).2.1 j ≠ s) → A 2 s = -1) ∧
  (∀ t', t' < t → ∃ j, j < (bfs k n T t).1 ∧ A 5 t' = nI j ∧ (bfs k n T t).2.1 j = suc k n T ((bfs k n T t).2.1 (t' / k)) (t' % k)) ∧
  ∀ v c, v < n → c < k → A 6 (v * k + c) = nI (sgl k n T v c)
theorem k_explore {w : Wt} {h : Hp} {p r k wd fnd e : Nat} {T : Nat → Nat} {A : Nat → Nat → Int32} (hR : RuleOK h r k wd T) (hs : SZ k wd) (hA : SaOK h p fnd A) (hsep : r + 5 < p) (he : Bend k (k ^ (wd - 1)) T e) : ConN mX7_explore 2 (0, 0) w [.ref p, .ref r] h (.inl none) (fun h' => (∃ A', SaOK h' p e A' ∧ SInv k (k ^ (wd - 1)) T (e * k) A') ∧ ∀ j, (j < p ∨ p + 8 < j) → h' j = h j) := by
  have hr := hR.ro
  have hk := hs.k
  have hn9 := hs.n
  have hn0 := hs.n0
  have hb5 : ∀ t, (bfs k (k ^ (wd - 1)) T t).1 ≤ 512 := bfs_le hn0 hn9
  have h512 := pow_le9 hn9
  generalize hnn : k ^ (wd - 1) = n at *
  have he5 : e ≤ 512 := by rw [← he.1]; exact hb5 _
  refine conI (by decide +kernel) ⟨fun _ => rfl, rfl, by simp⟩ (fun X C => ?_)
  change V X (0, 0) w h 0 [some (.ref p), some (.ref r), none, none, none] []
  refine v_aload_n C (oX7_explore.at 0 rfl) rfl ?_
  refine v_aload_n C (oX7_explore.at 1 rfl) rfl ?_
  refine v_callV C (oX7_explore.at 2 rfl) cX7_40 hA.1 (k_readSingle hR hs hA hsep) rfl rfl rfl ⟨rfl, rfl⟩ rfl rfl (fun _ => rfl) (fun h' hp => ?_)
  dsimp only [Option.toList, List.cons_append, List.nil_append]
  obtain ⟨g, hh, hg⟩ := hp
  rw [hh]
  clear hh h'
  have hA1 := hA.up 6 (by decide) g
  have hf1 : ∀ j, (j < p ∨ p + 8 < j) → (hu h (p + 6) (io (sa 6) g)) j = h j := fun j hj => hu_n _ _ (by omega)
  change V X (0, 0) w (hu h (p + 6) (io (sa 6) g)) _ _ _
  generalize hu h (p + 6) (io (sa 6) g) = h1 at *
  refine v_aload_n C (oX7_explore.at 3 rfl) rfl ?_
  refine v_getf C (oX7_explore.at 4 rfl) fX7_17 hA1.1 rfl ?_
  refine v_iconst C (oX7_explore.at 5 rfl) (v := -1) rfl ?_
  refine v_callS C (oX7_explore.at 6 rfl) cX7_44 (k_fill hA1.a2 (by decide)) rfl rfl rfl ⟨rfl, rfl⟩ rfl rfl (fun _ => rfl) (fun h' hp => ?_)
  rw [show h' = _ from hp]
  dsimp only [Option.toList, List.cons_append, List.nil_append]
  have hA2 := hA1.up 2 (by decide) (mix (upW A 6 g 2) (fun _ => (-1 : Int32)) 512)
  have hf2 : ∀ j, (j < p ∨ p + 8 < j) → (hu h1 (p + 2) (io (sa 2) (mix (upW A 6 g 2) (fun _ => (-1 : Int32)) 512))) j = h j := fun j hj => (hu_n _ _ (by omega)).trans (hf1 j hj)
  change V X (0, 0) w (hu h1 (p + 2) (io (sa 2) (mix (upW A 6 g 2) (fun _ => (-1 : Int32)) 512))) _ _ _
  generalize hu h1 (p + 2) (io (sa 2) (mix (upW A 6 g 2) (fun _ => (-1 : Int32)) 512)) = h2 at *
  refine v_aload_n C (oX7_explore.at 7 rfl) rfl ?_
  refine v_iconst C (oX7_explore.at 8 rfl) (v := nI 0) rfl ?_
  refine v_putI C (oX7_explore.at 9 rfl) fX7_7 p7_0 hA2.1 rfl ?_
  have hA3 := hA2.fnd (fnd' := 0)
  have hf3 : ∀ j, (j < p ∨ p + 8 < j) → (hu h2 p (SO p 0)) j = h j := fun j hj => (hu_n _ _ (by omega)).trans (hf2 j hj)
  change V X (0, 0) w (hu h2 p (SO p 0)) _ _ _
  generalize hu h2 p (SO p 0) = h3 at *
  have hr3 : h3 r = RO r k wd n (k ^ wd) := (hf3 r (by omega)).trans hr
  have h1p : 1 ≤ 1 * 2 ^ n := by rw [Nat.one_mul]; exact Nat.pow_pos (by decide)
  have h1q : 1 * 2 ^ n ≤ 512 := by rw [Nat.one_mul]; exact h512
  have hm1 : (upW (upW A 6 g) 2 (mix (upW A 6 g 2) (fun _ => (-1 : Int32)) 512)) 2 (1 * 2 ^ n - 1) = -1 := by
    show mix (upW A 6 g 2) (fun _ => (-1 : Int32)) 512 (1 * 2 ^ n - 1) = -1
    exact mix_lt (by omega)
  refine v_aload_n C (oX7_explore.at 10 rfl) rfl ?_
  refine v_iconst C (oX7_explore.at 11 rfl) (v := nI 1) rfl ?_
  refine v_aload_n C (oX7_explore.at 12 rfl) rfl ?_
  refine v_getf C (oX7_explore.at 13 rfl) fX7_50 hr3 rfl ?_
  refine v_ishlN C (oX7_explore.at 14 rfl) (by omega) (by omega) ?_
  refine v_iconst C (oX7_explore.at 15 rfl) (v := nI 1) rfl ?_
  refine v_isubN C (oX7_explore.at 16 rfl) (by omega) ?_
  refine v_iconst C (oX7_explore.at 17 rfl) (v := nI 0) rfl ?_
  refine v_iconst C (oX7_explore.at 18 rfl) (v := nI 0) rfl ?_
  refine v_callV C (oX7_explore.at 19 rfl) cX7_53 hA3.1 (k_placeOf2 hA3 (by omega) (by decide) hm1) rfl rfl rfl ⟨rfl, rfl⟩ rfl rfl (fun _ => rfl) (fun h' hp => ?_)
  dsimp only [Option.toList, List.cons_append, List.nil_append]
  obtain ⟨hA4, hf4⟩ := hp
  have hI0 : ∃ A4, SaOK h' p 1 A4 ∧ SInv k n T 0 A4 := by
    refine ⟨_, hA4, fun j hj => ?_, fun s hs5 hns => ?_, fun t' ht' => absurd ht' (by omega), fun v c hv hc => ?_⟩
    · have hj : j < 1 := hj
      have e0 : j = 0 := by omega
      subst e0
      refine ⟨?_, rfl, rfl, ?_⟩
      · show upd (A 1) 0 (nI (1 * 2 ^ n - 1)) 0 = nI (2 ^ n - 1)
        rw [pk_us, Nat.one_mul]
      · show upd _ (1 * 2 ^ n - 1) _ (2 ^ n - 1) = _
        rw [Nat.one_mul, pk_us]
    · have h9 : 2 ^ n - 1 ≠ s := hns 0 (by show 0 < 1; omega)
      show upd _ (1 * 2 ^ n - 1) _ s = -1
      rw [Nat.one_mul, pk_un (Ne.symm h9)]
      show mix (upW A 6 g 2) (fun _ => (-1 : Int32)) 512 s = -1
      exact mix_lt hs5
    · show g (v * k + c) = _
      rw [hg v c (by omega) hc, hnn]
  obtain ⟨A5, hA5, hI5⟩ := hI0
  have hf5 : ∀ j, (j < p ∨ p + 8 < j) → h' j = h j := fun j hj => (hf4 j hj).trans (hf3 j hj)
  clear hA4 hf4 hA3 hf3 hA2 hf2 hA1 hf1 hr3
  refine v_pop C (oX7_explore.at 20 rfl) rfl ?_
  refine v_iconst C (oX7_explore.at 21 rfl) (v := nI 0) rfl ?_
  refine v_istore_n C (oX7_explore.at 22 rfl) rfl ?_
  dsimp only [sto1, sto2, killL]
  suffices H : ∀ d i h1 A1 l3 l4, i + d = e → SaOK h1 p (bfs k n T (i * k)).1 A1 → SInv k n T (i * k) A1 → (∀ j, (j < p ∨ p + 8 < j) → h1 j = h j) → V X (0, 0) w h1 35 [some (.ref p), some (.ref r), some (.int (nI i)), l3, l4] [] by
    refine H e 0 h' A5 none none (by omega) ?_ ?_ hf5
    · rw [Nat.zero_mul]; exact hA5
    · rw [Nat.zero_mul]; exact hI5
  clear hI5 hA5 hf5 A5 h'
  intro d
  induction d with
  | zero =>
    intro i h1 A1 l3 l4 hi hA1 hI hf
    have e1 : i = e := by omega
    subst e1
    rw [he.1] at hA1
    refine v_iload_n C (oX7_explore.at 23 rfl) rfl ?_
    refine v_aload_n C (oX7_explore.at 24 rfl) rfl ?_
    refine v_getf C (oX7_explore.at 25 rfl) fX7_7 hA1.1 rfl ?_
    refine v_icmp_geN C (oX7_explore.at 26 rfl) (tgt := 126) (by decide) (by omega) (by omega) (fun hc => ?_) (fun hc => ?_)
    · exact v_vret C (oX7_explore.at 76 rfl) rfl rfl ⟨Nat.le_refl _, Nat.le_refl _⟩ ⟨rfl, ⟨A1, hA1, hI⟩, hf⟩
    · exact absurd hc (by omega)
  | succ d ih =>
    intro i h1 A1 l3 l4 hi hA1 hI hf
    have hb := hb5 (i * k)
    have hie := he.2 i (by omega)
    refine v_iload_n C (oX7_explore.at 23 rfl) rfl ?_
    refine v_aload_n C (oX7_explore.at 24 rfl) rfl ?_
    refine v_getf C (oX7_explore.at 25 rfl) fX7_7 hA1.1 rfl ?_
    refine v_icmp_geN C (oX7_explore.at 26 rfl) (tgt := 126) (by decide) (by omega) (by omega) (fun hc => ?_) (fun hc => ?_)
    · exact absurd hc (by omega)
    · refine v_iload_n C (oX7_explore.at 27 rfl) rfl ?_
      refine v_sipush C (oX7_explore.at 28 rfl) (v := nI 512) rfl ?_
      refine v_icmp_geN C (oX7_explore.at 29 rfl) (tgt := 126) (by decide) (by omega) (by omega) (fun hc => ?_) (fun hc => ?_)
      · exact absurd hc (by omega)
      · refine v_iconst C (oX7_explore.at 30 rfl) (v := nI 0) rfl ?_
        refine v_istore_n C (oX7_explore.at 31 rfl) rfl ?_
        dsimp only [sto1, sto2, killL]
        suffices H : ∀ d c h1 A1 l4, c + d = k → SaOK h1 p (bfs k n T (i * k + c)).1 A1 → SInv k n T (i * k + c) A1 → (∀ j, (j < p ∨ p + 8 < j) → h1 j = h j) → V X (0, 0) w h1 52 [some (.ref p), some (.ref r), some (.int (nI i)), some (.int (nI c)), l4] [] from H k 0 h1 A1 l4 (by omega) hA1 hI hf
        clear hI hA1 hf hc A1 h1
        intro d2
        induction d2 with
        | zero =>
          intro c h1 A1 l4 hcd hA1 hI hf
          have hr1 : h1 r = RO r k wd n (k ^ wd) := (hf r (by omega)).trans hr
          refine v_iload_n C (oX7_explore.at 32 rfl) rfl ?_
          refine v_aload_n C (oX7_explore.at 33 rfl) rfl ?_
          refine v_getf C (oX7_explore.at 34 rfl) fX7_57 hr1 rfl ?_
          refine v_icmp_geN C (oX7_explore.at 35 rfl) (tgt := 120) (by decide) (by omega) (by omega) (fun hc => ?_) (fun hc => ?_)
          · have e1 : c = k := by omega
            subst e1
            refine v_iincN C (oX7_explore.at 74 rfl) rfl ?_
            refine v_goto C (oX7_explore.at 75 rfl) (tgt := 35) (by decide) ?_
            dsimp only [sto1, sto2, killL]
            have ek : i * c + c = (i + 1) * c := by rw [Nat.add_mul, Nat.one_mul]
            rw [ek] at hA1 hI
            exact ih (i + 1) h1 A1 _ _ (by omega) hA1 hI hf
          · exact absurd hc (by omega)
        | succ d2 ih2 =>
          intro c h1 A1 l4 hcd hA1 hI hf
          have hr1 : h1 r = RO r k wd n (k ^ wd) := (hf r (by omega)).trans hr
          have hR1 : RuleOK h1 r k wd T := hR.eq (fun q e1 e2 => hf q (by omega))
          have hmono := bfs_mono (k := k) (n := n) (T := T) (i * k) c
          have hbt := hb5 (i * k + c)
          obtain ⟨hI1, hI2, hI3, hI4⟩ := id hI
          have hi1 := hI1 i (by omega)
          have hin := bfs_in (k := k) (T := T) hn0 (i * k + c)
          have hQi := hin.2.1 i (by omega)
          have hdv : (i * k + c) / k = i := vk_div (by omega)
          have hmd : (i * k + c) % k = c := vk_mod (by omega)
          have hik : (i + 1) * k ≤ 512 * k := Nat.mul_le_mul_right k (by omega)
          rw [Nat.add_mul, Nat.one_mul] at hik
          have hfrm := bfs_from (k := k) (n := n) (T := T) (by omega) i c (by omega) (fun i' h => he.2 i' (by omega)) (Or.inr hie)
          have hsl : suc k n T ((bfs k n T (i * k + c)).2.1 i) c < 512 := Nat.lt_of_lt_of_le (suc_lt hn0) h512
          refine v_iload_n C (oX7_explore.at 32 rfl) rfl ?_
          refine v_aload_n C (oX7_explore.at 33 rfl) rfl ?_
          refine v_getf C (oX7_explore.at 34 rfl) fX7_57 hr1 rfl ?_
          refine v_icmp_geN C (oX7_explore.at 35 rfl) (tgt := 120) (by decide) (by omega) (by omega) (fun hc => ?_) (fun hc => ?_)
          · exact absurd hc (by omega)
          · refine v_aload_n C (oX7_explore.at 36 rfl) rfl ?_
            refine v_aload_n C (oX7_explore.at 37 rfl) rfl ?_
            refine v_aload_n C (oX7_explore.at 38 rfl) rfl ?_
            refine v_getf C (oX7_explore.at 39 rfl) fX7_13 hA1.1 rfl ?_
            refine v_iload_n C (oX7_explore.at 40 rfl) rfl ?_
            refine v_iald C (oX7_explore.at 41 rfl) hA1.a1 (by decide) rfl (by omega) hi1.1 ?_
            refine v_iload_n C (oX7_explore.at 42 rfl) rfl ?_
            refine v_callV C (oX7_explore.at 43 rfl) cX7_60 hA1.1 (k_sucA hR1 hs hA1 (by omega) (by omega) (fun v c hv hc => by rw [hnn]; exact hI4 v c (by omega) hc)) rfl rfl rfl ⟨rfl, rfl⟩ rfl rfl (fun _ => rfl) (fun h' hp => ?_)
            rw [show h' = _ from hp]
            dsimp only [Option.toList, List.cons_append, List.nil_append]
            refine v_istore C (oX7_explore.at 44 rfl) rfl ?_
            refine v_aload_n C (oX7_explore.at 45 rfl) rfl ?_
            refine v_getf C (oX7_explore.at 46 rfl) fX7_28 hA1.1 rfl ?_
            refine v_iload_n C (oX7_explore.at 47 rfl) rfl ?_
            refine v_aload_n C (oX7_explore.at 48 rfl) rfl ?_
            refine v_getf C (oX7_explore.at 49 rfl) fX7_57 hr1 rfl ?_
            refine v_imulN C (oX7_explore.at 50 rfl) ?_
            refine v_iload_n C (oX7_explore.at 51 rfl) rfl ?_
            refine v_iaddN C (oX7_explore.at 52 rfl) ?_
            refine v_aload_n C (oX7_explore.at 53 rfl) rfl ?_
            refine v_iload C (oX7_explore.at 54 rfl) rfl ?_
            refine v_aload_n C (oX7_explore.at 55 rfl) rfl ?_
            refine v_getf C (oX7_explore.at 56 rfl) fX7_20 hA1.1 rfl ?_
            refine v_iload_n C (oX7_explore.at 57 rfl) rfl ?_
            refine v_iald C (oX7_explore.at 58 rfl) hA1.a3 (by decide) rfl (by omega) hi1.2.1 ?_
            refine v_iconst C (oX7_explore.at 59 rfl) (v := nI 1) rfl ?_
            refine v_iaddN C (oX7_explore.at 60 rfl) ?_
            refine v_aload_n C (oX7_explore.at 61 rfl) rfl ?_
            refine v_getf C (oX7_explore.at 62 rfl) fX7_23 hA1.1 rfl ?_
            refine v_iload_n C (oX7_explore.at 63 rfl) rfl ?_
            refine v_iald C (oX7_explore.at 64 rfl) hA1.a4 (by decide) rfl (by omega) hi1.2.2.1 ?_
            refine v_aload_n C (oX7_explore.at 65 rfl) rfl ?_
            refine v_getf C (oX7_explore.at 66 rfl) fX7_57 hr1 rfl ?_
            refine v_imulN C (oX7_explore.at 67 rfl) ?_
            refine v_iload_n C (oX7_explore.at 68 rfl) rfl ?_
            refine v_iaddN C (oX7_explore.at 69 rfl) ?_
            dsimp only [sto1, sto2, killL]
            rw [hnn]
            generalize hSS : suc k n T ((bfs k n T (i * k + c)).2.1 i) c = S at *
            have hbs : bfs k n T (i * k + c + 1) = if hasB (bfs k n T (i * k + c)).2.1 (bfs k n T (i * k + c)).1 S then bfs k n T (i * k + c) else ((bfs k n T (i * k + c)).1 + 1, updN (bfs k n T (i * k + c)).2.1 (bfs k n T (i * k + c)).1 S, updN (bfs k n T (i * k + c)).2.2.1 (bfs k n T (i * k + c)).1 i, updN (bfs k n T (i * k + c)).2.2.2 (bfs k n T (i * k + c)).1 c) := by
              rw [bfs, hdv, hmd, hSS]
            by_cases hex : ∃ j, j < (bfs k n T (i * k + c)).1 ∧ (bfs k n T (i * k + c)).2.1 j = S
            · obtain ⟨j, hj, hjS⟩ := hex
              have hbs2 : bfs k n T (i * k + c + 1) = bfs k n T (i * k + c) := by rw [hbs, if_pos (hasB_t.mpr ⟨j, hj, hjS⟩)]
              have hpl : A1 2 S = nI j := by rw [← hjS]; exact (hI1 j hj).2.2.2
              refine v_callV C (oX7_explore.at 70 rfl) cX7_53 hA1.1 (k_placeOf1 hA1 hsl hpl (by omega)) rfl rfl rfl ⟨rfl, rfl⟩ rfl rfl (fun _ => rfl) (fun h' hp => ?_)
              rw [show h' = _ from hp]
              dsimp only [Option.toList, List.cons_append, List.nil_append]
              refine v_iast C (oX7_explore.at 71 rfl) hA1.a5 (by decide) rfl (by omega) ?_
              refine v_iincN C (oX7_explore.at 72 rfl) rfl ?_
              refine v_goto C (oX7_explore.at 73 rfl) (tgt := 52) (by decide) ?_
              dsimp only [sto1, sto2, killL]
              have hA2 := hA1.up 5 (by decide) (upd (A1 5) (i * k + c) (nI j))
              refine ih2 (c + 1) _ _ _ (by omega) (by rw [← Nat.add_assoc, hbs2]; exact hA2) ?_ (fun q hq => (hu_n _ _ (by omega)).trans (hf q hq))
              rw [← Nat.add_assoc]
              unfold SInv
              rw [hbs2]
              refine ⟨fun q hq => hI1 q hq, fun s a b => hI2 s a b, fun t' ht' => ?_, fun v c hv hc => hI4 v c hv hc⟩
              by_cases e1 : t' = i * k + c
              · subst e1
                refine ⟨j, hj, ?_, ?_⟩
                · show upd _ _ _ _ = _; exact pk_us
                · rw [hdv, hmd, hSS]; exact hjS
              · obtain ⟨q, a1, a2, a3⟩ := hI3 t' (by omega)
                refine ⟨q, a1, ?_, a3⟩
                show upd _ _ _ _ = _
                rw [pk_un e1]; exact a2
            · have hno : ∀ j, j < (bfs k n T (i * k + c)).1 → (bfs k n T (i * k + c)).2.1 j ≠ S := fun j hj e => hex ⟨j, hj, e⟩
              have hbs2 : bfs k n T (i * k + c + 1) = ((bfs k n T (i * k + c)).1 + 1, updN (bfs k n T (i * k + c)).2.1 (bfs k n T (i * k + c)).1 S, updN (bfs k n T (i * k + c)).2.2.1 (bfs k n T (i * k + c)).1 i, updN (bfs k n T (i * k + c)).2.2.2 (bfs k n T (i * k + c)).1 c) := by rw [hbs, if_neg (fun hh => hex (hasB_t.mp hh))]
              have hb1 := hb5 (i * k + c + 1)
              rw [hbs2] at hb1
              have hb1 : (bfs k n T (i * k + c)).1 + 1 ≤ 512 := hb1
              have hpl : A1 2 S = -1 := hI2 S hsl hno
              refine v_callV C (oX7_explore.at 70 rfl) cX7_53 hA1.1 (k_placeOf2 hA1 hsl (by omega) hpl) rfl rfl rfl ⟨rfl, rfl⟩ rfl rfl (fun _ => rfl) (fun h' hp => ?_)
              dsimp only [Option.toList, List.cons_append, List.nil_append]
              obtain ⟨hA2, hf2⟩ := hp
              refine v_iast C (oX7_explore.at 71 rfl) hA2.a5 (by decide) rfl (by omega) ?_
              refine v_iincN C (oX7_explore.at 72 rfl) rfl ?_
              refine v_goto C (oX7_explore.at 73 rfl) (tgt := 52) (by decide) ?_
              dsimp only [sto1, sto2, killL]
              have hA3 := hA2.up 5 (by decide) (upd (A1 5) (i * k + c) (nI (bfs k n T (i * k + c)).1))
              refine ih2 (c + 1) _ _ _ (by omega) (by rw [← Nat.add_assoc, hbs2]; exact hA3) ?_ (fun q hq => (hu_n _ _ (by omega)).trans ((hf2 q hq).trans (hf q hq)))
              rw [← Nat.add_assoc]
              generalize hbb : bfs k n T (i * k + c) = b at *
              have hold : ∀ j, j < b.1 → updN b.2.1 b.1 S j = b.2.1 j := fun j hj => by unfold updN; rw [if_neg (by omega)]
              have hnew : updN b.2.1 b.1 S b.1 = S := by unfold updN; rw [if_pos rfl]
              have hfr' : ∀ q, 0 < q → q ≤ i → b.2.2.1 q < q := fun q a1 a2 => (hfrm q a1 (by omega)).1
              unfold SInv
              rw [hbs2]
              refine ⟨fun q hq => ?_, fun s a1 a2 => ?_, fun t' ht' => ?_, fun v c hv hc => hI4 v c hv hc⟩
              · have hq : q < b.1 + 1 := hq
                by_cases e1 : q = b.1
                · subst e1
                  refine ⟨?_, ?_, ?_, ?_⟩
                  · show upd _ _ _ _ = nI (updN b.2.1 b.1 S b.1)
                    rw [pk_us, hnew]
                  · show upd _ _ _ _ = nI (dpF (updN b.2.2.1 b.1 i) (511 + 1) b.1)
                    rw [pk_us, dpF, if_neg (by omega)]
                    have a3 : updN b.2.2.1 b.1 i b.1 = i := by unfold updN; rw [if_pos rfl]
                    rw [a3, dpF_congr 511 i hfr' (fun q hq => by unfold updN; rw [if_neg (by omega)])]
                    have a4 := dpF_fuel 511 i hfr' (by omega)
                    have a5 := dpF_fuel 512 i hfr' (by omega)
                    rw [a4, ← a5]
                    rfl
                  · show upd _ _ _ _ = nI (wdF k (updN b.2.2.1 b.1 i) (updN b.2.2.2 b.1 c) (511 + 1) b.1)
                    rw [pk_us, wdF, if_neg (by omega)]
                    have a3 : updN b.2.2.1 b.1 i b.1 = i := by unfold updN; rw [if_pos rfl]
                    have a4 : updN b.2.2.2 b.1 c b.1 = c := by unfold updN; rw [if_pos rfl]
                    rw [a3, a4, wdF_congr 511 i hfr' (fun q hq => by unfold updN; rw [if_neg (by omega), if_neg (by omega)]; exact ⟨rfl, rfl⟩), wdF_fuel 511 512 i hfr' (by omega) (by omega)]
                    rfl
                  · show upd _ _ _ (updN b.2.1 b.1 S b.1) = _
                    rw [hnew, pk_us]
                · have hq2 : q < b.1 := by omega
                  obtain ⟨c1, c2, c3, c4⟩ := hI1 q hq2
                  have hfq : ∀ i', 0 < i' → i' ≤ q → b.2.2.1 i' < i' := fun i' a1 a2 => (hfrm i' a1 (by omega)).1
                  refine ⟨?_, ?_, ?_, ?_⟩
                  · show upd _ _ _ _ = nI (updN b.2.1 b.1 S q)
                    rw [pk_un e1, hold q hq2]; exact c1
                  · show upd _ _ _ _ = nI (dpF (updN b.2.2.1 b.1 i) 512 q)
                    rw [pk_un e1, dpF_congr 512 q hfq (fun q' hq' => by unfold updN; rw [if_neg (by omega)])]
                    exact c2
                  · show upd _ _ _ _ = nI (wdF k (updN b.2.2.1 b.1 i) (updN b.2.2.2 b.1 c) 512 q)
                    rw [pk_un e1, wdF_congr 512 q hfq (fun q' hq' => by unfold updN; rw [if_neg (by omega), if_neg (by omega)]; exact ⟨rfl, rfl⟩)]
                    exact c3
                  · show upd _ _ _ (updN b.2.1 b.1 S q) = _
                    rw [hold q hq2, pk_un (hno q hq2)]; exact c4
              · have a3 : S ≠ s := by
                  have := a2 b.1 (by show b.1 < b.1 + 1; omega)
                  rw [show (b.1 + 1, updN b.2.1 b.1 S, updN b.2.2.1 b.1 i, updN b.2.2.2 b.1 c).2.1 b.1 = S from hnew] at this
                  exact this
                show upd _ _ _ _ = -1
                rw [pk_un (Ne.symm a3)]
                refine hI2 s a1 (fun j hj => ?_)
                have := a2 j (by show j < b.1 + 1; omega)
                rw [show (b.1 + 1, updN b.2.1 b.1 S, updN b.2.2.1 b.1 i, updN b.2.2.2 b.1 c).2.1 j = b.2.1 j from hold j hj] at this
                exact this
              · by_cases e1 : t' = i * k + c
                · subst e1
                  refine ⟨b.1, by show b.1 < b.1 + 1; omega, ?_, ?_⟩
                  · show upd _ _ _ _ = _; exact pk_us
                  · show updN b.2.1 b.1 S b.1 = suc k n T (updN b.2.1 b.1 S ((i * k + c) / k)) ((i * k + c) % k)
                    rw [hdv, hmd, hnew, hold i (by omega), hSS]
                · obtain ⟨q, a1, a2, a3⟩ := hI3 t' (by omega)
                  refine ⟨q, by show q < b.1 + 1; omega, ?_, ?_⟩
                  · show upd _ _ _ _ = _
                    rw [pk_un e1]; exact a2
                  · show updN b.2.1 b.1 S q = suc k n T (updN b.2.1 b.1 S (t' / k)) (t' % k)
                    have a4 : t' / k ≤ i := by
                      have : t' / k < i + 1 := (Nat.div_lt_iff_lt_mul (by omega)).mpr (by rw [Nat.add_mul, Nat.one_mul]; omega)
                      omega
                    rw [hold q a1, hold _ (by omega)]; exact a3
