/-! ===== orbits ===== -/
theorem php : ∀ (K n : Nat) (g : Nat → Nat), (∀ a, a < n → g a < K) → (∀ a b, a < b → b < n → g a ≠ g b) → n ≤ K
  | 0, n, g, h1, _ => by
    rcases Nat.eq_zero_or_pos n with h | h
    · omega
    · exact absurd (h1 0 h) (by omega)
  | K + 1, n, g, h1, h2 => by
    by_cases hx : ∃ a, a < n ∧ g a = K
    · obtain ⟨a0, ha, hg⟩ := hx
      have := php K (n - 1) (fun a => if a < a0 then g a else g (a + 1)) (fun a ha' => ?_) (fun a b hab hb => ?_)
      · omega
      · split
        · have e1 := h1 a (by omega)
          have e2 := h2 a a0 (by omega) ha
          omega
        · have e1 := h1 (a + 1) (by omega)
          have e2 := h2 a0 (a + 1) (by omega) (by omega)
          omega
      · split <;> split
        · exact h2 a b hab (by omega)
        · exact h2 a (b + 1) (by omega) (by omega)
        · omega
        · exact h2 (a + 1) (b + 1) (by omega) (by omega)
    · have := php K n g (fun a ha => ?_) h2
      · omega
      · have e1 := h1 a ha
        have e2 : g a ≠ K := fun e => hx ⟨a, ha, e⟩
        omega
/-- s is the first step at which what was met at j is met again -/
def FR (f : Nat → Nat) (s j : Nat) : Prop := j < s ∧ f j = f s ∧ ∀ a b, a < b → b < s → f a ≠ f b
theorem fr_ex (f : Nat → Nat) (K : Nat) (hf : ∀ t, f t < K) : ∃ s j, s ≤ K ∧ FR f s j := by
  have hx : ∃ s, s ≤ K ∧ ∃ j, j < s ∧ f j = f s := by
    apply Classical.byContradiction
    intro hn
    have := php K (K + 1) f (fun a _ => hf a) (fun a b hab hb e => hn ⟨b, by omega, a, hab, e⟩)
    omega
  obtain ⟨s, ⟨hs, j, hj, he⟩, hmin⟩ := pk_least (fun s => s ≤ K ∧ ∃ j, j < s ∧ f j = f s) hx
  exact ⟨s, j, hs, hj, he, fun a b hab hb e => hmin b hb ⟨by omega, a, hab, e⟩⟩
def itC (k wd : Nat) (T : Nat → Nat) (L x : Nat) : Nat → Nat
  | 0 => x
  | t + 1 => cimg k wd T L (itC k wd T L x t)
theorem itC_lt {k wd : Nat} {T : Nat → Nat} (hk : 0 < k) (hT : ∀ i, i < k ^ wd → T i < k) {L x : Nat} (hx : x < k ^ L) : ∀ t, itC k wd T L x t < k ^ L
  | 0 => hx
  | t + 1 => cimg_lt hk hT L _
def ImOK (h : Hp) (im : Nat) : Prop := ∃ a b cf M, h im = IO1 im a b ∧ h (im + 1) = io 17 cf ∧ h (im + 2) = io 6561 M
theorem ImOK.eq {h h' : Hp} {im : Nat} (hR : ImOK h im) (he : ∀ j, im ≤ j → j ≤ im + 2 → h' j = h j) : ImOK h' im := by
  obtain ⟨a, b, cf, M, h0, h1, h2⟩ := hR
  exact ⟨a, b, cf, M, (he _ (by omega) (by omega)).trans h0, (he _ (by omega) (by omega)).trans h1, (he _ (by omega) (by omega)).trans h2⟩
theorem k_follow {w : Wt} {h : Hp} {im r k wd L x s j0 : Nat} {T : Nat → Nat} (hi : ImOK h im) (hR : RuleOK h r k wd T) (hs : SZ k wd) (hL0 : 0 < L) (hL : L ≤ 8) (hx : x < k ^ L) (hsep : im + 2 < r ∨ r + 5 < im) (hF : FR (itC k wd T L x) s j0) (hsK : s ≤ k ^ L) : ConN mX1_follow 3 (0, 0) w [.ref im, .ref r, .int (nI L), .int (nI x)] h (.inl none) (fun h' => h' im = IO1 im (nI j0) (nI (s - j0)) ∧ (∃ cf, h' (im + 1) = io 17 cf) ∧ (∃ M, h' (im + 2) = io 6561 M) ∧ ∀ j, (j < im ∨ im + 2 < j) → h' j = h j) := by
  obtain ⟨a, b, cf, M, hi, hca, hM⟩ := hi
  have hr := hR.ro
  have hk := hs.k
  have hK : k ^ L ≤ 6561 := pw_le hk (b := 8) hL
  have hit := itC_lt (k := k) (wd := wd) (T := T) (by omega) hR.T hx
  refine conI (by decide +kernel) ⟨fun _ => rfl, rfl, by simp⟩ (fun X C => ?_)
  change V X (0, 0) w h 0 [some (.ref im), some (.ref r), some (.int (nI L)), some (.int (nI x)), none, none, none] []
  refine v_aload_n C (oX1_follow.at 0 rfl) rfl ?_
  refine v_iload_n C (oX1_follow.at 1 rfl) rfl ?_
  refine v_callV C (oX1_follow.at 2 rfl) cX1_41 hr (k_countOfWords hr (by omega)) rfl rfl rfl ⟨rfl, rfl⟩ rfl rfl (fun _ => rfl) (fun h' hp => ?_)
  rw [show h' = _ from hp]
  dsimp only [Option.toList, List.cons_append, List.nil_append]
  refine v_istore C (oX1_follow.at 3 rfl) rfl ?_
  refine v_aload_n C (oX1_follow.at 4 rfl) rfl ?_
  refine v_getf C (oX1_follow.at 5 rfl) fX1_17 hi rfl ?_
  refine v_iconst C (oX1_follow.at 6 rfl) (v := nI 0) rfl ?_
  refine v_iload C (oX1_follow.at 7 rfl) rfl ?_
  refine v_iconst C (oX1_follow.at 8 rfl) (v := -1) rfl ?_
  dsimp only [sto1, sto2, killL]
  refine v_callS C (oX1_follow.at 9 rfl) cX1_45 (k_fill4 (a := 0) hM (by decide) (Nat.zero_le _) hK) rfl rfl rfl ⟨rfl, rfl⟩ rfl rfl (fun _ => rfl) (fun h' hp => ?_)
  rw [show h' = _ from hp]
  dsimp only [Option.toList, List.cons_append, List.nil_append]
  refine v_iload_n C (oX1_follow.at 10 rfl) rfl ?_
  refine v_istore C (oX1_follow.at 11 rfl) rfl ?_
  refine v_iconst C (oX1_follow.at 12 rfl) (v := nI 0) rfl ?_
  refine v_istore C (oX1_follow.at 13 rfl) rfl ?_
  dsimp only [sto1, sto2, killL]
  suffices H : ∀ d t h1 cf1 M1, t + d = s → h1 im = IO1 im a b → h1 (im + 1) = io 17 cf1 → h1 (im + 2) = io 6561 M1 → (∀ j, (j < im ∨ im + 2 < j) → h1 j = h j) → (∀ q, q < t → M1 (itC k wd T L x q) = nI q) → (∀ y, y < k ^ L → (∀ q, q < t → itC k wd T L x q ≠ y) → M1 y = -1) → V X (0, 0) w h1 24 [some (.ref im), some (.ref r), some (.int (nI L)), some (.int (nI x)), some (.int (nI (k ^ L))), some (.int (nI (itC k wd T L x t))), some (.int (nI t))] [] by
    refine H s 0 _ cf _ (by omega) ((hu_n _ _ (by omega)).trans hi) ((hu_n _ _ (by omega)).trans hca) (hu_s _ _ _) (fun j hj => hu_n _ _ (by omega)) (fun q hq => absurd hq (by omega)) (fun y hy _ => ?_)
    unfold fil
    rw [if_pos (by omega)]
  intro d
  induction d with
  | zero =>
    intro t h1 cf1 M1 ht q0 q1 q2 qf qa qb
    have e1 : t = s := by omega
    subst e1
    have hv : M1 (itC k wd T L x t) = nI j0 := by rw [← hF.2.1]; exact qa j0 hF.1
    have hlt := hit t
    have hj0 := hF.1
    refine v_iload C (oX1_follow.at 14 rfl) rfl ?_
    refine v_iload C (oX1_follow.at 15 rfl) rfl ?_
    refine v_icmp_gtN C (oX1_follow.at 16 rfl) (tgt := 92) (by decide) (by omega) (by omega) (fun hc => ?_) (fun hc => ?_)
    · exact absurd hc (by omega)
    · refine v_aload_n C (oX1_follow.at 17 rfl) rfl ?_
      refine v_getf C (oX1_follow.at 18 rfl) fX1_17 q0 rfl ?_
      refine v_iload C (oX1_follow.at 19 rfl) rfl ?_
      refine v_iald C (oX1_follow.at 20 rfl) q2 (by decide) rfl (by omega) hv ?_
      refine v_if_ltN C (oX1_follow.at 21 rfl) (tgt := 67) (by decide) (by omega) ?_
      refine v_aload_n C (oX1_follow.at 22 rfl) rfl ?_
      refine v_aload_n C (oX1_follow.at 23 rfl) rfl ?_
      refine v_getf C (oX1_follow.at 24 rfl) fX1_17 q0 rfl ?_
      refine v_iload C (oX1_follow.at 25 rfl) rfl ?_
      refine v_iald C (oX1_follow.at 26 rfl) q2 (by decide) rfl (by omega) hv ?_
      refine v_putI C (oX1_follow.at 27 rfl) fX1_51 p1_0 q0 rfl ?_
      refine v_aload_n C (oX1_follow.at 28 rfl) rfl ?_
      refine v_iload C (oX1_follow.at 29 rfl) rfl ?_
      refine v_aload_n C (oX1_follow.at 30 rfl) rfl ?_
      refine v_getf C (oX1_follow.at 31 rfl) fX1_17 (hu_s _ _ _) rfl ?_
      refine v_iload C (oX1_follow.at 32 rfl) rfl ?_
      refine v_iald C (oX1_follow.at 33 rfl) ((hu_n _ _ (by omega)).trans q2) (by decide) rfl (by omega) hv ?_
      refine v_isubN C (oX1_follow.at 34 rfl) (by omega) ?_
      refine v_putI C (oX1_follow.at 35 rfl) fX1_54 p1_1 (hu_s _ _ _) rfl ?_
      simp only [hu_hu, List.set]
      refine v_vret C (oX1_follow.at 36 rfl) rfl rfl ⟨Nat.le_refl _, Nat.le_refl _⟩ ⟨rfl, hu_s _ _ _, ⟨_, (hu_n _ _ (by omega)).trans q1⟩, ⟨_, (hu_n _ _ (by omega)).trans q2⟩, fun j hj => (hu_n _ _ (by omega)).trans (qf j hj)⟩
  | succ d ih =>
    intro t h1 cf1 M1 ht q0 q1 q2 qf qa qb
    have hlt := hit t
    have hv : M1 (itC k wd T L x t) = -1 := qb _ hlt (fun q hq => hF.2.2 q t hq (by omega))
    refine v_iload C (oX1_follow.at 14 rfl) rfl ?_
    refine v_iload C (oX1_follow.at 15 rfl) rfl ?_
    refine v_icmp_gtN C (oX1_follow.at 16 rfl) (tgt := 92) (by decide) (by omega) (by omega) (fun hc => ?_) (fun hc => ?_)
    · exact absurd hc (by omega)
    · refine v_aload_n C (oX1_follow.at 17 rfl) rfl ?_
      refine v_getf C (oX1_follow.at 18 rfl) fX1_17 q0 rfl ?_
      refine v_iload C (oX1_follow.at 19 rfl) rfl ?_
      refine v_iald C (oX1_follow.at 20 rfl) q2 (by decide) rfl (by omega) hv ?_
      refine v_if_lt C (oX1_follow.at 21 rfl) (tgt := 67) (by decide) (fun hc => ?_) (fun hc => ?_)
      · refine v_aload_n C (oX1_follow.at 37 rfl) rfl ?_
        refine v_getf C (oX1_follow.at 38 rfl) fX1_17 q0 rfl ?_
        refine v_iload C (oX1_follow.at 39 rfl) rfl ?_
        refine v_iload C (oX1_follow.at 40 rfl) rfl ?_
        refine v_iast C (oX1_follow.at 41 rfl) q2 (by decide) rfl (by omega) ?_
        have hR1 : RuleOK (hu h1 (im + 2) (io 6561 (upd M1 (itC k wd T L x t) (nI t)))) r k wd T := hR.eq (fun j e1 e2 => (hu_n _ _ (by omega)).trans (qf j (by omega)))
        refine v_aload_n C (oX1_follow.at 42 rfl) rfl ?_
        refine v_aload_n C (oX1_follow.at 43 rfl) rfl ?_
        refine v_iload_n C (oX1_follow.at 44 rfl) rfl ?_
        refine v_iload C (oX1_follow.at 45 rfl) rfl ?_
        refine v_callV C (oX1_follow.at 46 rfl) cX1_57 ((hu_n _ _ (by omega)).trans q0) (k_cyclicImageOf (im := im) (a := a) (b := b) ((hu_n _ _ (by omega)).trans q0) hR1 hs ((hu_n _ _ (by omega)).trans q1) hL0 (by omega) (by omega) (by omega)) rfl rfl rfl ⟨rfl, rfl⟩ rfl rfl (fun _ => rfl) (fun h' hp => ?_)
        dsimp only [Option.toList, List.cons_append, List.nil_append]
        obtain ⟨cf', hp⟩ := hp
        rw [show h' = _ from hp]
        refine v_istore C (oX1_follow.at 47 rfl) rfl ?_
        refine v_iincN C (oX1_follow.at 48 rfl) rfl ?_
        refine v_goto C (oX1_follow.at 49 rfl) (tgt := 24) (by decide) ?_
        dsimp only [sto1, sto2, killL]
        refine ih (t + 1) _ cf' (upd M1 (itC k wd T L x t) (nI t)) (by omega) ?_ (hu_s _ _ _) ?_ (fun j hj => ?_) (fun q hq => ?_) (fun y hy hyn => ?_)
        · rw [hu_n _ _ (by omega), hu_n _ _ (by omega)]; exact q0
        · rw [hu_n _ _ (by omega), hu_s]
        · rw [hu_n _ _ (by omega), hu_n _ _ (by omega)]; exact qf j hj
        · by_cases e1 : q = t
          · subst e1; exact pk_us
          · rw [pk_un (hF.2.2 q t (by omega) (by omega))]
            exact qa q (by omega)
        · rw [pk_un (Ne.symm (hyn t (by omega)))]
          exact qb y hy (fun q hq => hyn q (by omega))
      · exact absurd (by decide) hc
