/-! ===== Paths: the word with a number ===== -/
theorem sumN_mono (f : Nat → Nat) {a : Nat} : ∀ {b : Nat}, a ≤ b → sumN f a ≤ sumN f b
  | 0, h => by have : a = 0 := by omega
               subst this; exact Nat.le_refl _
  | b + 1, h => by
    by_cases e : a = b + 1
    · subst e; exact Nat.le_refl _
    · have := sumN_mono f (a := a) (b := b) (by omega)
      rw [sumN]; omega
theorem sumN_le {f : Nat → Nat} {c : Nat} : ∀ n, (∀ i, i < n → f i ≤ c) → sumN f n ≤ n * c
  | 0, _ => by simp [sumN]
  | n + 1, h => by
    have h1 := sumN_le n (fun i hi => h i (by omega))
    have h2 := h n (by omega)
    rw [sumN, Nat.add_mul, Nat.one_mul]; omega
theorem wB_le {k n : Nat} {T lb : Nat → Nat} {len : Nat} {B : Nat → Nat} (hB : ∀ v, B v ≤ 1) : ∀ j v, wB k n T lb len B j v ≤ k ^ j
  | 0, v => by simpa [wB] using hB v
  | j + 1, v => by
    rw [wB, Nat.pow_succ, Nat.mul_comm (k ^ j)]
    refine sumN_le k (fun s _ => ?_)
    split
    · exact wB_le hB j _
    · exact Nat.zero_le _
theorem baT_le (l v : Nat) : baT l v ≤ 1 := by unfold baT; split <;> omega
theorem baA_le (v : Nat) : baA v ≤ 1 := Nat.le_refl _
def selS (f : Nat → Nat) (x : Nat) : Nat → Nat
  | 0 => 0
  | b + 1 => if sumN f (b + 1) ≤ x then b + 1 else selS f x b
theorem sel_eq {f : Nat → Nat} {x s : Nat} (h1 : sumN f s ≤ x) (h2 : x < sumN f (s + 1)) : ∀ b, s ≤ b → selS f x b = s
  | 0, h => by simp [selS]; omega
  | b + 1, h => by
    rw [selS]
    by_cases e : s = b + 1
    · subst e; rw [if_pos h1]
    · have := sumN_mono f (a := s + 1) (b := b + 1) (by omega)
      rw [if_neg (by omega)]
      exact sel_eq h1 h2 b (by omega)
/-- the ways by the states of the node v, j + 1 steps before the end -/
def wf1 (k n : Nat) (T lb : Nat → Nat) (len : Nat) (B : Nat → Nat) (j v : Nat) : Nat → Nat := fun s => if T (v * k + s) = lb (len - 1 - j) then wB k n T lb len B j ((v * k + s) % n) else 0
def wkW (k n : Nat) (T lb : Nat → Nat) (len : Nat) (B : Nat → Nat) : Nat → Nat → Nat → Nat → Nat
  | 0, _, word, _ => word
  | j + 1, v, word, x => wkW k n T lb len B j ((v * k + selS (wf1 k n T lb len B j v) x (k - 1)) % n) (word * k + selS (wf1 k n T lb len B j v) x (k - 1)) (x - sumN (wf1 k n T lb len B j v) (selS (wf1 k n T lb len B j v) x (k - 1)))
theorem selS_le (f : Nat → Nat) (x : Nat) : ∀ b, selS f x b ≤ b
  | 0 => Nat.le_refl _
  | b + 1 => by
    rw [selS]; split
    · exact Nat.le_refl _
    · exact Nat.le_trans (selS_le f x b) (by omega)
theorem wkW_lt {k n : Nat} {T lb : Nat → Nat} {len : Nat} {B : Nat → Nat} (hk : 0 < k) : ∀ (j v word x M : Nat), word < M → wkW k n T lb len B j v word x < M * k ^ j
  | 0, v, word, x, M, h => by simpa [wkW] using h
  | j + 1, v, word, x, M, h => by
    have hs := selS_le (wf1 k n T lb len B j v) x (k - 1)
    have h3 : (word + 1) * k ≤ M * k := Nat.mul_le_mul_right k h
    rw [Nat.add_mul, Nat.one_mul] at h3
    have := wkW_lt (n := n) (T := T) (lb := lb) (len := len) (B := B) hk j ((v * k + selS (wf1 k n T lb len B j v) x (k - 1)) % n) (word * k + selS (wf1 k n T lb len B j v) x (k - 1)) (x - sumN (wf1 k n T lb len B j v) (selS (wf1 k n T lb len B j v) x (k - 1))) (M * k) (by omega)
    rw [wkW, Nat.pow_succ, Nat.mul_comm (k ^ j), ← Nat.mul_assoc]
    exact this
theorem k_walk {w : Wt} {h : Hp} {p r k wd len v0 x : Nat} {a b : Int32} {T lb B : Nat → Nat} {lf : Nat → Int32} {Wf : Nat → Nat → Int32} (hR : RuleOK h r k wd T) (hs : SZ k wd) (hP : PaOK h p a b len lf Wf) (hlen : len ≤ 14) (hlb : ∀ i, i < len → lf i = nI (lb i) ∧ lb i < 3) (hB : ∀ v, B v ≤ 1) (hw1 : ∀ i v, i ≤ len → v < k ^ (wd - 1) → Wf i v = nI (wB k (k ^ (wd - 1)) T lb len B (len - i) v)) (hv0 : v0 < k ^ (wd - 1)) (hx : x < wB k (k ^ (wd - 1)) T lb len B len v0) : ConN mX4_walk 1 (0, 0) w [.ref p, .ref r, .int (nI v0), .int (nI x)] h (.inl (some (.int (nI (wkW k (k ^ (wd - 1)) T lb len B len v0 v0 x))))) (fun h' => h' = h) := by
  have hn9 := hs.n
  have hk := hs.k
  have hnk := hs.nk
  have hm := hs.m
  obtain ⟨f, g, e, v, t, hr, ht, hT, hg, hG, -⟩ := id hR
  have hbd : ∀ j v, j ≤ 14 → wB k (k ^ (wd - 1)) T lb len B j v ≤ 4782969 := fun j v hj => Nat.le_trans (wB_le hB j v) (pw_le hk (b := 14) hj)
  generalize hnn : k ^ (wd - 1) = n at *
  refine conI (by decide +kernel) ⟨fun _ => rfl, rfl, by simp⟩ (fun X C => ?_)
  change V X (0, 0) w h 0 [some (.ref p), some (.ref r), some (.int (nI v0)), some (.int (nI x)), none, none, none, none, none, none] []
  refine v_iload_n C (oX4_walk.at 0 rfl) rfl ?_
  refine v_istore C (oX4_walk.at 1 rfl) rfl ?_
  refine v_iload_n C (oX4_walk.at 2 rfl) rfl ?_
  refine v_istore C (oX4_walk.at 3 rfl) rfl ?_
  refine v_iload_n C (oX4_walk.at 4 rfl) rfl ?_
  refine v_istore C (oX4_walk.at 5 rfl) rfl ?_
  refine v_iconst C (oX4_walk.at 6 rfl) (v := nI 0) rfl ?_
  refine v_istore C (oX4_walk.at 7 rfl) rfl ?_
  dsimp only [sto1, sto2, killL]
  suffices H : ∀ j i v word x' l8 l9, i + j = len → v < n → x' < wB k n T lb len B j v → wkW k n T lb len B j v word x' = wkW k n T lb len B len v0 v0 x → V X (0, 0) w h 12 [some (.ref p), some (.ref r), some (.int (nI v0)), some (.int (nI x)), some (.int (nI word)), some (.int (nI v)), some (.int (nI x')), some (.int (nI i)), l8, l9] [] from H len 0 v0 v0 x none none (by omega) hv0 hx rfl
  intro j
  induction j with
  | zero =>
    intro i v word x' l8 l9 hi hv hx' he
    refine v_iload C (oX4_walk.at 8 rfl) rfl ?_
    refine v_aload_n C (oX4_walk.at 9 rfl) rfl ?_
    refine v_getf C (oX4_walk.at 10 rfl) fX4_22 hP.1 rfl ?_
    refine v_icmp_geN C (oX4_walk.at 11 rfl) (tgt := 125) (by decide) (by omega) (by omega) (fun hc => ?_) (fun hc => ?_)
    · rw [← he, wkW] at C
      refine v_iload C (oX4_walk.at 68 rfl) rfl ?_
      exact v_iret C (oX4_walk.at 69 rfl) rfl rfl ⟨Nat.le_refl _, Nat.le_refl _⟩ ⟨rfl, rfl⟩
    · exact absurd hc (by omega)
  | succ j ih =>
    intro i v word x' l8 l9 hi hv hx' he
    rw [wB] at hx'
    have hvk : (v + 1) * k ≤ n * k := Nat.mul_le_mul_right k (by omega)
    rw [Nat.add_mul, Nat.one_mul] at hvk
    have hx' : x' < sumN (wf1 k n T lb len B j v) k := hx'
    have hfb : ∀ s, wf1 k n T lb len B j v s ≤ 4782969 := fun s => by
      unfold wf1; split
      · exact hbd j _ (by omega)
      · exact Nat.zero_le _
    have hsb := sumN_le (f := wf1 k n T lb len B j v) k (fun s _ => hfb s)
    have hsb2 : k * 4782969 ≤ 3 * 4782969 := Nat.mul_le_mul_right _ (by omega)
    have kw : ∀ s, s < k → ConN mX4_waysBy 0 (0, 0) w [.ref p, .ref r, .int (nI (v * k + s)), .int (nI i)] h (.inl (some (.int (nI (wf1 k n T lb len B j v s))))) (fun h' => h' = h) := fun s hsk => by
      have hmod : (v * k + s) % n < n := Nat.mod_lt _ (by omega)
      have := k_waysBy (w := w) (lv := lb i) (x := wB k n T lb len B j ((v * k + s) % n)) (pl := i) (nb := v * k + s) hR hs hP (by omega) (by omega) (hlb i (by omega)).1 (hlb i (by omega)).2 (by rw [hnn, hw1 (i + 1) _ (by omega) hmod, show len - (i + 1) = j by omega])
      unfold wf1
      rw [show len - 1 - j = i by omega]
      exact this
    refine v_iload C (oX4_walk.at 8 rfl) rfl ?_
    refine v_aload_n C (oX4_walk.at 9 rfl) rfl ?_
    refine v_getf C (oX4_walk.at 10 rfl) fX4_22 hP.1 rfl ?_
    refine v_icmp_geN C (oX4_walk.at 11 rfl) (tgt := 125) (by decide) (by omega) (by omega) (fun hc => ?_) (fun hc => ?_)
    · exact absurd hc (by omega)
    · have kw0 := kw 0 (by omega)
      rw [Nat.add_zero] at kw0
      refine v_iconst C (oX4_walk.at 12 rfl) (v := nI 0) rfl ?_
      refine v_istore C (oX4_walk.at 13 rfl) rfl ?_
      refine v_aload_n C (oX4_walk.at 14 rfl) rfl ?_
      refine v_aload_n C (oX4_walk.at 15 rfl) rfl ?_
      refine v_iload C (oX4_walk.at 16 rfl) rfl ?_
      refine v_aload_n C (oX4_walk.at 17 rfl) rfl ?_
      refine v_getf C (oX4_walk.at 18 rfl) fX4_63 hr rfl ?_
      refine v_imulN C (oX4_walk.at 19 rfl) ?_
      refine v_iload C (oX4_walk.at 20 rfl) rfl ?_
      dsimp only [sto1, sto2, killL]
      refine v_callV C (oX4_walk.at 21 rfl) cX4_66 hP.1 (kw0) rfl rfl rfl ⟨rfl, rfl⟩ rfl rfl (fun _ => rfl) (fun h' hp => ?_)
      rw [show h' = _ from hp]
      dsimp only [Option.toList, List.cons_append, List.nil_append]
      refine v_istore C (oX4_walk.at 22 rfl) rfl ?_
      dsimp only [sto1, sto2, killL]
      suffices H : ∀ d s, s + d = k → 0 < d → sumN (wf1 k n T lb len B j v) s ≤ x' → V X (0, 0) w h 40 [some (.ref p), some (.ref r), some (.int (nI v0)), some (.int (nI x)), some (.int (nI word)), some (.int (nI v)), some (.int (nI (x' - sumN (wf1 k n T lb len B j v) s))), some (.int (nI i)), some (.int (nI s)), some (.int (nI (wf1 k n T lb len B j v s)))] [] from H k 0 (by omega) (by omega) (Nat.zero_le _)
      intro d
      induction d with
      | zero => intro s _ h0; exact absurd h0 (by omega)
      | succ d ihd =>
        intro s hsd _ hle
        have hfs := hfb s
        refine v_iload C (oX4_walk.at 23 rfl) rfl ?_
        refine v_iload C (oX4_walk.at 24 rfl) rfl ?_
        refine v_icmp_ltN C (oX4_walk.at 25 rfl) (tgt := 90) (by decide) (by omega) (by omega) (fun hc => ?_) (fun hc => ?_)
        · have hlt : x' < sumN (wf1 k n T lb len B j v) (s + 1) := by rw [sumN]; omega
          have hsel := sel_eq hle hlt (k - 1) (by omega)
          have hmod : (v * k + s) % n < n := Nat.mod_lt _ (by omega)
          refine v_iload C (oX4_walk.at 49 rfl) rfl ?_
          refine v_aload_n C (oX4_walk.at 50 rfl) rfl ?_
          refine v_getf C (oX4_walk.at 51 rfl) fX4_63 hr rfl ?_
          refine v_imulN C (oX4_walk.at 52 rfl) ?_
          refine v_iload C (oX4_walk.at 53 rfl) rfl ?_
          refine v_iaddN C (oX4_walk.at 54 rfl) ?_
          refine v_istore C (oX4_walk.at 55 rfl) rfl ?_
          refine v_aload_n C (oX4_walk.at 56 rfl) rfl ?_
          refine v_getf C (oX4_walk.at 57 rfl) fX4_69 hr rfl ?_
          refine v_iload C (oX4_walk.at 58 rfl) rfl ?_
          refine v_aload_n C (oX4_walk.at 59 rfl) rfl ?_
          refine v_getf C (oX4_walk.at 60 rfl) fX4_63 hr rfl ?_
          refine v_imulN C (oX4_walk.at 61 rfl) ?_
          refine v_iload C (oX4_walk.at 62 rfl) rfl ?_
          refine v_iaddN C (oX4_walk.at 63 rfl) ?_
          refine v_iald C (oX4_walk.at 64 rfl) hg (by decide) rfl (by omega) (hG _ (by omega)) ?_
          refine v_istore C (oX4_walk.at 65 rfl) rfl ?_
          refine v_iincN C (oX4_walk.at 66 rfl) rfl ?_
          refine v_goto C (oX4_walk.at 67 rfl) (tgt := 12) (by decide) ?_
          dsimp only [sto1, sto2, killL]
          refine ih (i + 1) _ _ _ _ _ (by omega) hmod ?_ ?_
          · have : wf1 k n T lb len B j v s = wB k n T lb len B j ((v * k + s) % n) := by
              have h0 : x' - sumN (wf1 k n T lb len B j v) s < wf1 k n T lb len B j v s := hc
              unfold wf1 at h0 ⊢
              split
              · rfl
              · rename_i hne
                simp only [hne, if_false] at h0
                omega
            rw [← this]; exact hc
          · rw [← he, wkW, hsel]
        · refine v_iload C (oX4_walk.at 26 rfl) rfl ?_
          refine v_aload_n C (oX4_walk.at 27 rfl) rfl ?_
          refine v_getf C (oX4_walk.at 28 rfl) fX4_63 hr rfl ?_
          refine v_iconst C (oX4_walk.at 29 rfl) (v := nI 1) rfl ?_
          refine v_isubN C (oX4_walk.at 30 rfl) (by omega) ?_
          refine v_icmp_geN C (oX4_walk.at 31 rfl) (tgt := 90) (by decide) (by omega) (by omega) (fun hc => ?_) (fun hc => ?_)
          · exfalso
            have e : s + 1 = k := by omega
            have h10 := congrArg (sumN (wf1 k n T lb len B j v)) e
            rw [sumN] at h10
            omega
          · refine v_iload C (oX4_walk.at 32 rfl) rfl ?_
            refine v_iload C (oX4_walk.at 33 rfl) rfl ?_
            refine v_isubN C (oX4_walk.at 34 rfl) (by omega) ?_
            refine v_istore C (oX4_walk.at 35 rfl) rfl ?_
            refine v_iincN C (oX4_walk.at 36 rfl) rfl ?_
            refine v_aload_n C (oX4_walk.at 37 rfl) rfl ?_
            refine v_aload_n C (oX4_walk.at 38 rfl) rfl ?_
            refine v_iload C (oX4_walk.at 39 rfl) rfl ?_
            refine v_aload_n C (oX4_walk.at 40 rfl) rfl ?_
            refine v_getf C (oX4_walk.at 41 rfl) fX4_63 hr rfl ?_
            refine v_imulN C (oX4_walk.at 42 rfl) ?_
            refine v_iload C (oX4_walk.at 43 rfl) rfl ?_
            refine v_iaddN C (oX4_walk.at 44 rfl) ?_
            refine v_iload C (oX4_walk.at 45 rfl) rfl ?_
            dsimp only [sto1, sto2, killL]
            refine v_callV C (oX4_walk.at 46 rfl) cX4_66 hP.1 (kw (s + 1) (by omega)) rfl rfl rfl ⟨rfl, rfl⟩ rfl rfl (fun _ => rfl) (fun h' hp => ?_)
            rw [show h' = _ from hp]
            dsimp only [Option.toList, List.cons_append, List.nil_append]
            refine v_istore C (oX4_walk.at 47 rfl) rfl ?_
            refine v_goto C (oX4_walk.at 48 rfl) (tgt := 40) (by decide) ?_
            dsimp only [sto1, sto2, killL]
            have := ihd (s + 1) (by omega) (by omega) (by rw [sumN]; omega)
            rw [sumN, ← Nat.sub_sub] at this
            exact this
/-- which node the word with the number x begins with -/
def opN (k n : Nat) (T lb : Nat → Nat) (len x : Nat) : Nat := wkW k n T lb len baA len (selS (wB k n T lb len baA len) x (n - 1)) (selS (wB k n T lb len baA len) x (n - 1)) (x - sumN (wB k n T lb len baA len) (selS (wB k n T lb len baA len) x (n - 1)))
def clW (k n : Nat) (T lb : Nat → Nat) (len v : Nat) : Nat := wB k n T lb len (baT v) len v
def clN (k n : Nat) (T lb : Nat → Nat) (len x : Nat) : Nat := wkW k n T lb len (baT (selS (clW k n T lb len) x (n - 1))) len (selS (clW k n T lb len) x (n - 1)) (selS (clW k n T lb len) x (n - 1)) (x - sumN (clW k n T lb len) (selS (clW k n T lb len) x (n - 1))) / n
theorem k_openWord {w : Wt} {h : Hp} {p r k wd len x : Nat} {a b : Int32} {T lb : Nat → Nat} {lf : Nat → Int32} {Wf : Nat → Nat → Int32} (hR : RuleOK h r k wd T) (hs : SZ k wd) (hP : PaOK h p a b len lf Wf) (hsep : r + 5 < p) (hlen : len ≤ 14) (hlb : ∀ i, i < len → lf i = nI (lb i) ∧ lb i < 3) (hx : x < 2 ^ 31) : ConN mX4_openWord 3 (0, 0) w [.ref p, .ref r, .int (nI x)] h (.inl (some (.int (if x < sumN (wB k (k ^ (wd - 1)) T lb len baA len) (k ^ (wd - 1)) then nI (opN k (k ^ (wd - 1)) T lb len x) else -1)))) (PaCh h p a b len lf) := by
  have hn9 := hs.n
  have hk := hs.k
  have hbd : ∀ v, wB k (k ^ (wd - 1)) T lb len baA len v ≤ 4782969 := fun v => Nat.le_trans (wB_le baA_le len v) (pw_le hk (b := 14) hlen)
  refine conI (by decide +kernel) ⟨fun _ => rfl, rfl, by simp⟩ (fun X C => ?_)
  change V X (0, 0) w h 0 [some (.ref p), some (.ref r), some (.int (nI x)), none, none] []
  refine v_iload_n C (oX4_openWord.at 0 rfl) rfl ?_
  refine v_if_geN C (oX4_openWord.at 1 rfl) (tgt := 6) (by decide) (by omega) ?_
  refine v_aload_n C (oX4_openWord.at 4 rfl) rfl ?_
  refine v_aload_n C (oX4_openWord.at 5 rfl) rfl ?_
  refine v_callV C (oX4_openWord.at 6 rfl) cX4_30 hP.1 (k_countToAnywhere hR hs hP hsep hlen hlb) rfl rfl rfl ⟨rfl, rfl⟩ rfl rfl (fun _ => rfl) (fun h' hp => ?_)
  dsimp only [Option.toList, List.cons_append, List.nil_append]
  obtain ⟨⟨Wf', hP1, hw1⟩, hfr⟩ := hp
  have hR1 : RuleOK h' r k wd T := hR.eq (fun j e1 e2 => hfr j (by omega))
  have hr1 := hR1.ro
  generalize hnn : k ^ (wd - 1) = n at *
  have hw0 : ∀ v, v < n → Wf' 0 v = nI (wB k n T lb len baA len v) := fun v hv => hw1 0 v (Nat.zero_le _) hv
  refine v_iload_n C (oX4_openWord.at 7 rfl) rfl ?_
  refine v_istore_n C (oX4_openWord.at 8 rfl) rfl ?_
  refine v_iconst C (oX4_openWord.at 9 rfl) (v := nI 0) rfl ?_
  refine v_istore C (oX4_openWord.at 10 rfl) rfl ?_
  dsimp only [sto1, sto2, killL]
  suffices H : ∀ d v, v + d = n → sumN (wB k n T lb len baA len) v ≤ x → V X (0, 0) w h' 16 [some (.ref p), some (.ref r), some (.int (nI x)), some (.int (nI (x - sumN (wB k n T lb len baA len) v))), some (.int (nI v))] [] from H n 0 (by omega) (Nat.zero_le _)
  intro d
  induction d with
  | zero =>
    intro v hv hle
    refine v_iload C (oX4_openWord.at 11 rfl) rfl ?_
    refine v_aload_n C (oX4_openWord.at 12 rfl) rfl ?_
    refine v_getf C (oX4_openWord.at 13 rfl) fX4_42 hr1 rfl ?_
    refine v_icmp_geN C (oX4_openWord.at 14 rfl) (tgt := 65) (by decide) (by omega) (by omega) (fun hc => ?_) (fun hc => ?_)
    · have e : v = n := by omega
      subst e
      rw [if_neg (by omega)] at C
      refine v_iconst C (oX4_openWord.at 40 rfl) (v := -1) rfl ?_
      exact v_iret C (oX4_openWord.at 41 rfl) rfl rfl ⟨Nat.le_refl _, Nat.le_refl _⟩ ⟨rfl, ⟨Wf', hP1⟩, hfr⟩
    · exact absurd hc (by omega)
  | succ d ih =>
    intro v hv hle
    have hbv := hbd v
    refine v_iload C (oX4_openWord.at 11 rfl) rfl ?_
    refine v_aload_n C (oX4_openWord.at 12 rfl) rfl ?_
    refine v_getf C (oX4_openWord.at 13 rfl) fX4_42 hr1 rfl ?_
    refine v_icmp_geN C (oX4_openWord.at 14 rfl) (tgt := 65) (by decide) (by omega) (by omega) (fun hc => ?_) (fun hc => ?_)
    · exact absurd hc (by omega)
    · refine v_iload_n C (oX4_openWord.at 15 rfl) rfl ?_
      refine v_aload_n C (oX4_openWord.at 16 rfl) rfl ?_
      refine v_getf C (oX4_openWord.at 17 rfl) fX4_19 hP1.1 rfl ?_
      refine v_iconst C (oX4_openWord.at 18 rfl) (v := nI 0) rfl ?_
      refine v_aald C (oX4_openWord.at 19 rfl) hP1.2.2.1 (by decide) rfl (by omega) (rws_at (by omega)) ?_
      refine v_iload C (oX4_openWord.at 20 rfl) rfl ?_
      refine v_iald C (oX4_openWord.at 21 rfl) (hP1.2.2.2 0 (by omega)) (by decide) rfl (by omega) (hw0 _ (by omega)) ?_
      refine v_icmp_geN C (oX4_openWord.at 22 rfl) (tgt := 47) (by decide) (by omega) (by omega) (fun hc => ?_) (fun hc => ?_)
      · refine v_iload_n C (oX4_openWord.at 29 rfl) rfl ?_
        refine v_aload_n C (oX4_openWord.at 30 rfl) rfl ?_
        refine v_getf C (oX4_openWord.at 31 rfl) fX4_19 hP1.1 rfl ?_
        refine v_iconst C (oX4_openWord.at 32 rfl) (v := nI 0) rfl ?_
        refine v_aald C (oX4_openWord.at 33 rfl) hP1.2.2.1 (by decide) rfl (by omega) (rws_at (by omega)) ?_
        refine v_iload C (oX4_openWord.at 34 rfl) rfl ?_
        refine v_iald C (oX4_openWord.at 35 rfl) (hP1.2.2.2 0 (by omega)) (by decide) rfl (by omega) (hw0 _ (by omega)) ?_
        refine v_isubN C (oX4_openWord.at 36 rfl) (by omega) ?_
        refine v_istore_n C (oX4_openWord.at 37 rfl) rfl ?_
        refine v_iincN C (oX4_openWord.at 38 rfl) rfl ?_
        refine v_goto C (oX4_openWord.at 39 rfl) (tgt := 16) (by decide) ?_
        dsimp only [sto1, sto2, killL]
        have := ih (v + 1) (by omega) (by rw [sumN]; omega)
        rw [sumN, ← Nat.sub_sub] at this
        exact this
      · have hlt : x < sumN (wB k n T lb len baA len) (v + 1) := by rw [sumN]; omega
        have hsel := sel_eq hle hlt (n - 1) (by omega)
        have hmono := sumN_mono (wB k n T lb len baA len) (a := v + 1) (b := n) (by omega)
        rw [if_pos (by omega), opN, hsel] at C
        subst hnn
        refine v_aload_n C (oX4_openWord.at 23 rfl) rfl ?_
        refine v_aload_n C (oX4_openWord.at 24 rfl) rfl ?_
        refine v_iload C (oX4_openWord.at 25 rfl) rfl ?_
        refine v_iload_n C (oX4_openWord.at 26 rfl) rfl ?_
        refine v_callV C (oX4_openWord.at 27 rfl) cX4_49 hP1.1 (k_walk hR1 hs hP1 hlen hlb baA_le hw1 (by omega) hc) rfl rfl rfl ⟨rfl, rfl⟩ rfl rfl (fun _ => rfl) (fun h' hp => ?_)
        rw [show h' = _ from hp]
        dsimp only [Option.toList, List.cons_append, List.nil_append]
        exact v_iret C (oX4_openWord.at 28 rfl) rfl rfl ⟨Nat.le_refl _, Nat.le_refl _⟩ ⟨rfl, ⟨Wf', hP1⟩, hfr⟩
theorem k_openWordNeg {w : Wt} {h : Hp} {p r : Nat} {x : Int32} (hx : x < 0) : ConN mX4_openWord 3 (0, 0) w [.ref p, .ref r, .int x] h (.inl (some (.int (-1)))) (fun h' => h' = h) := by
  refine conI (by decide +kernel) ⟨fun _ => rfl, rfl, by simp⟩ (fun X C => ?_)
  change V X (0, 0) w h 0 [some (.ref p), some (.ref r), some (.int x), none, none] []
  refine v_iload_n C (oX4_openWord.at 0 rfl) rfl ?_
  refine v_if_ge C (oX4_openWord.at 1 rfl) (tgt := 6) (by decide) (fun hc => ?_) (fun hc => ?_)
  · exact absurd hx (Int32.not_lt.mpr hc)
  · refine v_iconst C (oX4_openWord.at 2 rfl) (v := -1) rfl ?_
    exact v_iret C (oX4_openWord.at 3 rfl) rfl rfl ⟨Nat.le_refl _, Nat.le_refl _⟩ ⟨rfl, rfl⟩
theorem k_closedWordNo {w : Wt} {h : Hp} {p r len : Nat} {a b : Int32} {lf : Nat → Int32} {Wf : Nat → Nat → Int32} {x : Int32} (hP : PaOK h p a b len lf Wf) (hlen : len ≤ 14) (hx : x < 0 ∨ len = 0) : ConN mX4_closedWord 4 (0, 0) w [.ref p, .ref r, .int x] h (.inl (some (.int (-1)))) (fun h' => h' = h) := by
  refine conI (by decide +kernel) ⟨fun _ => rfl, rfl, by simp⟩ (fun X C => ?_)
  change V X (0, 0) w h 0 [some (.ref p), some (.ref r), some (.int x), none, none, none] []
  refine v_iload_n C (oX4_closedWord.at 0 rfl) rfl ?_
  refine v_if_lt C (oX4_closedWord.at 1 rfl) (tgt := 11) (by decide) (fun hc => ?_) (fun hc => ?_)
  · refine v_iconst C (oX4_closedWord.at 5 rfl) (v := -1) rfl ?_
    exact v_iret C (oX4_closedWord.at 6 rfl) rfl rfl ⟨Nat.le_refl _, Nat.le_refl _⟩ ⟨rfl, rfl⟩
  · refine v_aload_n C (oX4_closedWord.at 2 rfl) rfl ?_
    refine v_getf C (oX4_closedWord.at 3 rfl) fX4_22 hP.1 rfl ?_
    refine v_if_neN C (oX4_closedWord.at 4 rfl) (tgt := 13) (by decide) (by omega) (fun hc => ?_) (fun hc => ?_)
    · rcases hx with hx | hx
      · exact absurd hx (by assumption)
      · exact absurd hx hc
    · refine v_iconst C (oX4_closedWord.at 5 rfl) (v := -1) rfl ?_
      exact v_iret C (oX4_closedWord.at 6 rfl) rfl rfl ⟨Nat.le_refl _, Nat.le_refl _⟩ ⟨rfl, rfl⟩
theorem k_closedWord {w : Wt} {h : Hp} {p r k wd len x : Nat} {a b : Int32} {T lb : Nat → Nat} {lf : Nat → Int32} {Wf : Nat → Nat → Int32} (hR : RuleOK h r k wd T) (hs : SZ k wd) (hP : PaOK h p a b len lf Wf) (hsep : r + 5 < p) (hlen : len ≤ 14) (hl0 : 0 < len) (hlb : ∀ i, i < len → lf i = nI (lb i) ∧ lb i < 3) (hx : x < 2 ^ 31) : ConN mX4_closedWord 4 (0, 0) w [.ref p, .ref r, .int (nI x)] h (.inl (some (.int (if x < sumN (clW k (k ^ (wd - 1)) T lb len) (k ^ (wd - 1)) then nI (clN k (k ^ (wd - 1)) T lb len x) else -1)))) (PaCh h p a b len lf) := by
  have hn9 := hs.n
  have hk := hs.k
  have hw2 := hs.w
  have hbd : ∀ v, clW k (k ^ (wd - 1)) T lb len v ≤ 4782969 := fun v => Nat.le_trans (wB_le (baT_le v) len v) (pw_le hk (b := 14) hlen)
  refine conI (by decide +kernel) ⟨fun _ => rfl, rfl, by simp⟩ (fun X C => ?_)
  change V X (0, 0) w h 0 [some (.ref p), some (.ref r), some (.int (nI x)), none, none, none] []
  refine v_iload_n C (oX4_closedWord.at 0 rfl) rfl ?_
  refine v_if_ltN C (oX4_closedWord.at 1 rfl) (tgt := 11) (by decide) (by omega) ?_
  refine v_aload_n C (oX4_closedWord.at 2 rfl) rfl ?_
  refine v_getf C (oX4_closedWord.at 3 rfl) fX4_22 hP.1 rfl ?_
  refine v_if_neN C (oX4_closedWord.at 4 rfl) (tgt := 13) (by decide) (by omega) (fun hc => ?_) (fun hc => ?_)
  · refine v_iload_n C (oX4_closedWord.at 7 rfl) rfl ?_
    refine v_istore_n C (oX4_closedWord.at 8 rfl) rfl ?_
    refine v_iconst C (oX4_closedWord.at 9 rfl) (v := nI 0) rfl ?_
    refine v_istore C (oX4_closedWord.at 10 rfl) rfl ?_
    dsimp only [sto1, sto2, killL]
    suffices H : ∀ d v h1 Wf1 l5, v + d = k ^ (wd - 1) → PaOK h1 p a b len lf Wf1 → (∀ j, (j < p ∨ p + 17 < j) → h1 j = h j) → sumN (clW k (k ^ (wd - 1)) T lb len) v ≤ x → V X (0, 0) w h1 18 [some (.ref p), some (.ref r), some (.int (nI x)), some (.int (nI (x - sumN (clW k (k ^ (wd - 1)) T lb len) v))), some (.int (nI v)), l5] [] from H (k ^ (wd - 1)) 0 h Wf none (by omega) hP (fun _ _ => rfl) (Nat.zero_le _)
    intro d
    induction d with
    | zero =>
      intro v h1 Wf1 l5 hv hP1 hfr hle
      have hr1 : h1 r = RO r k wd (k ^ (wd - 1)) (k ^ wd) := (hfr r (by omega)).trans hR.ro
      refine v_iload C (oX4_closedWord.at 11 rfl) rfl ?_
      refine v_aload_n C (oX4_closedWord.at 12 rfl) rfl ?_
      refine v_getf C (oX4_closedWord.at 13 rfl) fX4_42 hr1 rfl ?_
      refine v_icmp_geN C (oX4_closedWord.at 14 rfl) (tgt := 68) (by decide) (by omega) (by omega) (fun hc => ?_) (fun hc => ?_)
      · have e : v = k ^ (wd - 1) := by omega
        subst e
        rw [if_neg (by omega)] at C
        refine v_iconst C (oX4_closedWord.at 38 rfl) (v := -1) rfl ?_
        exact v_iret C (oX4_closedWord.at 39 rfl) rfl rfl ⟨Nat.le_refl _, Nat.le_refl _⟩ ⟨rfl, ⟨Wf1, hP1⟩, hfr⟩
      · exact absurd hc (by omega)
    | succ d ih =>
      intro v h1 Wf1 l5 hv hP1 hfr hle
      have hr1 : h1 r = RO r k wd (k ^ (wd - 1)) (k ^ wd) := (hfr r (by omega)).trans hR.ro
      have hR1 : RuleOK h1 r k wd T := hR.eq (fun j e1 e2 => hfr j (by omega))
      have hbv := hbd v
      refine v_iload C (oX4_closedWord.at 11 rfl) rfl ?_
      refine v_aload_n C (oX4_closedWord.at 12 rfl) rfl ?_
      refine v_getf C (oX4_closedWord.at 13 rfl) fX4_42 hr1 rfl ?_
      refine v_icmp_geN C (oX4_closedWord.at 14 rfl) (tgt := 68) (by decide) (by omega) (by omega) (fun hc => ?_) (fun hc => ?_)
      · exact absurd hc (by omega)
      · refine v_aload_n C (oX4_closedWord.at 15 rfl) rfl ?_
        refine v_aload_n C (oX4_closedWord.at 16 rfl) rfl ?_
        refine v_iload C (oX4_closedWord.at 17 rfl) rfl ?_
        refine v_iload C (oX4_closedWord.at 18 rfl) rfl ?_
        refine v_callV C (oX4_closedWord.at 19 rfl) cX4_45 hP1.1 (k_countBetween hR1 hs hP1 hsep hlen hlb (first := v) (last := v) (by omega) (by omega)) rfl rfl rfl ⟨rfl, rfl⟩ rfl rfl (fun _ => rfl) (fun h' hp => ?_)
        dsimp only [Option.toList, List.cons_append, List.nil_append]
        obtain ⟨⟨Wf', hP2, hw2'⟩, hfr2⟩ := hp
        have hR2 : RuleOK h' r k wd T := hR1.eq (fun j e1 e2 => hfr2 j (by omega))
        change V X (0, 0) w h' _ _ [.int (nI (clW k (k ^ (wd - 1)) T lb len v))]
        refine v_istore C (oX4_closedWord.at 20 rfl) rfl ?_
        refine v_iload_n C (oX4_closedWord.at 21 rfl) rfl ?_
        refine v_iload C (oX4_closedWord.at 22 rfl) rfl ?_
        dsimp only [sto1, sto2, killL]
        refine v_icmp_geN C (oX4_closedWord.at 23 rfl) (tgt := 57) (by decide) (by omega) (by omega) (fun hc => ?_) (fun hc => ?_)
        · refine v_iload_n C (oX4_closedWord.at 32 rfl) rfl ?_
          refine v_iload C (oX4_closedWord.at 33 rfl) rfl ?_
          refine v_isubN C (oX4_closedWord.at 34 rfl) (by omega) ?_
          refine v_istore_n C (oX4_closedWord.at 35 rfl) rfl ?_
          refine v_iincN C (oX4_closedWord.at 36 rfl) rfl ?_
          refine v_goto C (oX4_closedWord.at 37 rfl) (tgt := 18) (by decide) ?_
          dsimp only [sto1, sto2, killL]
          have := ih (v + 1) h' Wf' (some (.int (nI (clW k (k ^ (wd - 1)) T lb len v)))) (by omega) hP2 (fun j hj => (hfr2 j hj).trans (hfr j hj)) (by rw [sumN]; omega)
          rw [sumN, ← Nat.sub_sub] at this
          exact this
        · have hlt : x < sumN (clW k (k ^ (wd - 1)) T lb len) (v + 1) := by rw [sumN]; omega
          have hsel := sel_eq hle hlt (k ^ (wd - 1) - 1) (by omega)
          have hmono := sumN_mono (clW k (k ^ (wd - 1)) T lb len) (a := v + 1) (b := k ^ (wd - 1)) (by omega)
          rw [if_pos (by omega), clN, hsel] at C
          have hwl : wkW k (k ^ (wd - 1)) T lb len (baT v) len v v (x - sumN (clW k (k ^ (wd - 1)) T lb len) v) < 2 ^ 31 := by
            have h1 := wkW_lt (n := k ^ (wd - 1)) (T := T) (lb := lb) (len := len) (B := baT v) (by omega : 0 < k) len v v (x - sumN (clW k (k ^ (wd - 1)) T lb len) v) (k ^ (wd - 1)) (by omega)
            rw [← Nat.pow_add] at h1
            have h2 := pw14 hk (n := wd - 1 + len) (by omega)
            omega
          refine v_aload_n C (oX4_closedWord.at 24 rfl) rfl ?_
          refine v_aload_n C (oX4_closedWord.at 25 rfl) rfl ?_
          refine v_aload_n C (oX4_closedWord.at 26 rfl) rfl ?_
          refine v_iload C (oX4_closedWord.at 27 rfl) rfl ?_
          refine v_iload_n C (oX4_closedWord.at 28 rfl) rfl ?_
          refine v_callV C (oX4_closedWord.at 29 rfl) cX4_49 hP2.1 (k_walk hR2 hs hP2 hlen hlb (baT_le v) hw2' (by omega) hc) rfl rfl rfl ⟨rfl, rfl⟩ rfl rfl (fun _ => rfl) (fun h' hp => ?_)
          rw [show h' = _ from hp]
          dsimp only [Option.toList, List.cons_append, List.nil_append]
          refine v_callS C (oX4_closedWord.at 30 rfl) cX4_52 (k_withoutEnd hR2.ro hs hwl) rfl rfl rfl ⟨rfl, rfl⟩ rfl rfl (fun _ => rfl) (fun h' hp => ?_)
          rw [show h' = _ from hp]
          dsimp only [Option.toList, List.cons_append, List.nil_append]
          exact v_iret C (oX4_closedWord.at 31 rfl) rfl rfl ⟨Nat.le_refl _, Nat.le_refl _⟩ ⟨rfl, ⟨Wf', hP2⟩, fun j hj => (hfr2 j hj).trans (hfr j hj)⟩
  · exact absurd hc (by omega)
