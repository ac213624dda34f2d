/-! ===== words in base k, images ===== -/
def SZ (k wd : Nat) : Prop := (k = 2 ∧ 2 ≤ wd ∧ wd ≤ 4) ∨ (k = 3 ∧ 2 ≤ wd ∧ wd ≤ 3)
theorem SZ.k {k wd : Nat} (h : SZ k wd) : k = 2 ∨ k = 3 := by rcases h with ⟨h, _⟩ | ⟨h, _⟩ <;> omega
theorem SZ.w {k wd : Nat} (h : SZ k wd) : 2 ≤ wd ∧ wd ≤ 4 := by rcases h with ⟨_, h⟩ | ⟨_, h⟩ <;> omega
theorem SZ.cases {k wd : Nat} (h : SZ k wd) {Q : Nat → Nat → Prop} (h22 : Q 2 2) (h23 : Q 2 3) (h24 : Q 2 4) (h32 : Q 3 2) (h33 : Q 3 3) : Q k wd := by
  rcases h with ⟨rfl, h1, h2⟩ | ⟨rfl, h1, h2⟩
  · rcases (by omega : wd = 2 ∨ wd = 3 ∨ wd = 4) with rfl | rfl | rfl <;> assumption
  · rcases (by omega : wd = 2 ∨ wd = 3) with rfl | rfl <;> assumption
theorem SZ.m {k wd : Nat} (h : SZ k wd) : k ^ wd ≤ 27 := h.cases (Q := fun k wd => k ^ wd ≤ 27) (by decide) (by decide) (by decide) (by decide) (by decide)
theorem SZ.n {k wd : Nat} (h : SZ k wd) : k ^ (wd - 1) ≤ 9 := h.cases (Q := fun k wd => k ^ (wd - 1) ≤ 9) (by decide) (by decide) (by decide) (by decide) (by decide)
theorem SZ.nk {k wd : Nat} (h : SZ k wd) : k ^ (wd - 1) * k = k ^ wd := h.cases (Q := fun k wd => k ^ (wd - 1) * k = k ^ wd) (by decide) (by decide) (by decide) (by decide) (by decide)
theorem SZ.n0 {k wd : Nat} (h : SZ k wd) : 0 < k ^ (wd - 1) := Nat.pow_pos (by have := h.k; omega)
theorem pw_le {k n : Nat} (hk : k = 2 ∨ k = 3) {b : Nat} (hn : n ≤ b) : k ^ n ≤ 3 ^ b := Nat.le_trans (Nat.pow_le_pow_left (by omega) n) (Nat.pow_le_pow_right (by decide) hn)
theorem pw14 {k n : Nat} (hk : k = 2 ∨ k = 3) (hn : n ≤ 17) : k ^ n ≤ 129140163 := pw_le hk (b := 17) hn
/-- the number of the d cells from i on -/
def hw (k : Nat) (c : Nat → Nat) (i : Nat) : Nat → Nat
  | 0 => 0
  | d + 1 => hw k c i d * k + c (i + d)
theorem hw_lt {k : Nat} {c : Nat → Nat} : ∀ (i d : Nat), (∀ j, j < d → c (i + j) < k) → hw k c i d < k ^ d
  | i, 0, _ => by simp [hw]
  | i, d + 1, h => by
    have h1 := hw_lt i d (fun j hj => h j (by omega))
    have h2 := h d (by omega)
    have h3 : (hw k c i d + 1) * k ≤ k ^ d * k := Nat.mul_le_mul_right k h1
    rw [Nat.add_mul, Nat.one_mul] at h3
    rw [Nat.pow_succ, hw]
    omega
theorem hw_s (k : Nat) (c : Nat → Nat) (i : Nat) : ∀ d, hw k c i (d + 1) = c i * k ^ d + hw k c (i + 1) d
  | 0 => by simp [hw]
  | d + 1 => by
    rw [hw, hw_s k c i d, Nat.add_mul, Nat.mul_assoc, ← Nat.pow_succ, Nat.add_assoc]
    congr 1
    rw [hw, show i + (d + 1) = i + 1 + d by omega]
theorem hw_drop {k : Nat} {c : Nat → Nat} {i d : Nat} (h : ∀ j, j < d → c (i + 1 + j) < k) : hw k c i (d + 1) % k ^ d = hw k c (i + 1) d := by
  rw [hw_s, Nat.mul_comm, Nat.mul_add_mod, Nat.mod_eq_of_lt (hw_lt (i + 1) d h)]
theorem hw_congr {k : Nat} {c c' : Nat → Nat} {i i' : Nat} : ∀ d, (∀ j, j < d → c (i + j) = c' (i' + j)) → hw k c i d = hw k c' i' d
  | 0, _ => rfl
  | d + 1, h => by rw [hw, hw, hw_congr d (fun j hj => h j (by omega)), h d (by omega)]
theorem cel_lt {k len x i : Nat} (hk : 0 < k) : cel k len x i < k := Nat.mod_lt _ hk
theorem mod_mul_s (y k d : Nat) : y % k ^ (d + 1) = y / k % k ^ d * k + y % k := by
  rw [Nat.pow_succ, Nat.mul_comm, Nat.mod_mul, Nat.mul_comm k, Nat.add_comm]
theorem hw_cel (k L x c : Nat) : ∀ d, c + d ≤ L → hw k (cel k L x) c d = x / k ^ (L - d - c) % k ^ d
  | 0, _ => by simp [hw, Nat.mod_one]
  | d + 1, h => by
    rw [hw, hw_cel k L x c d (by omega), mod_mul_s]
    unfold cel
    rw [show L - 1 - (c + d) = L - (d + 1) - c by omega, ndiv_s, show L - (d + 1) - c + 1 = L - d - c by omega]
/-- the image's number: n cells of it -/
def img (k wd : Nat) (T c : Nat → Nat) : Nat → Nat
  | 0 => 0
  | i + 1 => img k wd T c i * k + T (hw k c i wd)
theorem img_lt {k wd : Nat} {T c : Nat → Nat} (hT : ∀ i, i < k ^ wd → T i < k) : ∀ n, (∀ j, j < n + wd - 1 → c j < k) → img k wd T c n < k ^ n
  | 0, _ => by simp [img]
  | n + 1, h => by
    have h1 := img_lt hT n (fun j hj => h j (by omega))
    have h2 := hT (hw k c n wd) (hw_lt n wd (fun j hj => h _ (by omega)))
    have h3 : (img k wd T c n + 1) * k ≤ k ^ n * k := Nat.mul_le_mul_right k h1
    rw [Nat.add_mul, Nat.one_mul] at h3
    rw [Nat.pow_succ, img]
    omega
def cimg (k wd : Nat) (T : Nat → Nat) (L x : Nat) : Nat := img k wd T (fun i => cel k L x (i % L)) L
def limg (k wd : Nat) (T : Nat → Nat) (L x : Nat) : Nat := img k wd T (cel k L x) (L - wd + 1)
theorem cimg_lt {k wd : Nat} {T : Nat → Nat} (hk : 0 < k) (hT : ∀ i, i < k ^ wd → T i < k) (L x : Nat) : cimg k wd T L x < k ^ L := img_lt hT L (fun j _ => cel_lt hk)
theorem limg_lt {k wd : Nat} {T : Nat → Nat} (hk : 0 < k) (hT : ∀ i, i < k ^ wd → T i < k) (L x : Nat) : limg k wd T L x < k ^ (L - wd + 1) := img_lt hT _ (fun j _ => cel_lt hk)
/-- a rule in the heap: sizes, table, targets, first cells -/
def RuleOK (h : Hp) (r k wd : Nat) (T : Nat → Nat) : Prop := ∃ f g e v t, h r = RO r k wd (k ^ (wd - 1)) (k ^ wd) ∧ h (r + 1) = io 27 f ∧ (∀ i, i < k ^ wd → f i = nI (T i) ∧ T i < k) ∧ h (r + 2) = io 27 g ∧ (∀ i, i < k ^ wd → g i = nI (i % k ^ (wd - 1))) ∧ h (r + 3) = io 27 e ∧ (∀ i, i < k ^ wd → e i = nI (i / k ^ (wd - 1))) ∧ h (r + 4) = io 4 v ∧ h (r + 5) = io 3 t
theorem RuleOK.eq {h h' : Hp} {r k wd : Nat} {T : Nat → Nat} (hR : RuleOK h r k wd T) (he : ∀ j, r ≤ j → j ≤ r + 5 → h' j = h j) : RuleOK h' r k wd T := by
  obtain ⟨f, g, e, v, t, h0, h1, h2, h3, h4, h5, h6, h7, h8⟩ := hR
  exact ⟨f, g, e, v, t, (he _ (by omega) (by omega)).trans h0, (he _ (by omega) (by omega)).trans h1, h2, (he _ (by omega) (by omega)).trans h3, h4, (he _ (by omega) (by omega)).trans h5, h6, (he _ (by omega) (by omega)).trans h7, (he _ (by omega) (by omega)).trans h8⟩
theorem RuleOK.hu {h : Hp} {r k wd : Nat} {T : Nat → Nat} {q : Nat} {c : PE} (hR : RuleOK h r k wd T) (hq : q < r ∨ r + 5 < q) : RuleOK (hu h q c) r k wd T := hR.eq (fun j h1 h2 => hu_n _ _ (by omega))
theorem RuleOK.T {h : Hp} {r k wd : Nat} {T : Nat → Nat} (hR : RuleOK h r k wd T) : ∀ i, i < k ^ wd → T i < k := by
  obtain ⟨f, g, e, v, t, h0, h1, h2, h3, h4, h5, h6, h7, h8⟩ := hR
  exact fun i hi => (h2 i hi).2
theorem RuleOK.ro {h : Hp} {r k wd : Nat} {T : Nat → Nat} (hR : RuleOK h r k wd T) : h r = RO r k wd (k ^ (wd - 1)) (k ^ wd) := by
  obtain ⟨f, g, e, v, t, h0, h1, h2, h3, h4, h5, h6, h7, h8⟩ := hR
  exact h0
/-! Images -/
abbrev IO1 (im : Nat) (a b : Int32) : PE := ob 1 [.int a, .int b, .ref (im + 1), .ref (im + 2)]
theorem k_readLabels {w : Wt} {h : Hp} {im r k wd n : Nat} {a b : Int32} {T c : Nat → Nat} {cf : Nat → Int32} (hi : h im = IO1 im a b) (hR : RuleOK h r k wd T) (hs : SZ k wd) (hca : h (im + 1) = io 17 cf) (hn : n + wd - 1 ≤ 17) (hcf : ∀ j, j < n + wd - 1 → cf j = nI (c j) ∧ c j < k) : ConN mX1_readLabels 0 (0, 0) w [.ref im, .ref r, .int (nI n)] h (.inl (some (.int (nI (img k wd T c n))))) (fun h' => h' = h) := by
  obtain ⟨f, g, e, v, t, hr, ht, hT, hg, hG, -⟩ := hR
  have hw2 := hs.w
  have hk := hs.k
  have hm := hs.m
  refine conI (by decide +kernel) ⟨fun _ => rfl, rfl, by simp⟩ (fun X C => ?_)
  change V X (0, 0) w h 0 [some (.ref im), some (.ref r), some (.int (nI n)), none, none, none, none] []
  refine v_iconst C (oX1_readLabels.at 0 rfl) (v := nI 0) rfl ?_
  refine v_istore_n C (oX1_readLabels.at 1 rfl) rfl ?_
  refine v_iconst C (oX1_readLabels.at 2 rfl) (v := nI 0) rfl ?_
  refine v_istore C (oX1_readLabels.at 3 rfl) rfl ?_
  dsimp only [sto1, sto2, killL]
  suffices H2 : ∀ j i l6, i + j = n → V X (0, 0) w h 43 [some (.ref im), some (.ref r), some (.int (nI n)), some (.int (nI (hw k c i (wd - 1)))), some (.int (nI (img k wd T c i))), some (.int (nI i)), l6] [] by
    suffices H : ∀ j i, i + j = wd - 1 → V X (0, 0) w h 5 [some (.ref im), some (.ref r), some (.int (nI n)), some (.int (nI (hw k c 0 i))), some (.int (nI i)), none, none] [] from H (wd - 1) 0 (by omega)
    intro j
    induction j with
    | zero =>
      intro i hi'
      refine v_iload C (oX1_readLabels.at 4 rfl) rfl ?_
      refine v_aload_n C (oX1_readLabels.at 5 rfl) rfl ?_
      refine v_getf C (oX1_readLabels.at 6 rfl) fX1_24 hr rfl ?_
      refine v_iconst C (oX1_readLabels.at 7 rfl) (v := nI 1) rfl ?_
      refine v_isubN C (oX1_readLabels.at 8 rfl) (by omega) ?_
      refine v_icmp_geN C (oX1_readLabels.at 9 rfl) (tgt := 37) (by decide) (by omega) (by omega) (fun hc => ?_) (fun hc => ?_)
      · have e1 : i = wd - 1 := by omega
        subst e1
        refine v_iconst C (oX1_readLabels.at 22 rfl) (v := nI 0) rfl ?_
        refine v_istore C (oX1_readLabels.at 23 rfl) rfl ?_
        refine v_iconst C (oX1_readLabels.at 24 rfl) (v := nI 0) rfl ?_
        refine v_istore C (oX1_readLabels.at 25 rfl) rfl ?_
        dsimp only [sto1, sto2, killL]
        exact H2 n 0 none (by omega)
      · exact absurd hc (by omega)
    | succ j ih =>
      intro i hi'
      refine v_iload C (oX1_readLabels.at 4 rfl) rfl ?_
      refine v_aload_n C (oX1_readLabels.at 5 rfl) rfl ?_
      refine v_getf C (oX1_readLabels.at 6 rfl) fX1_24 hr rfl ?_
      refine v_iconst C (oX1_readLabels.at 7 rfl) (v := nI 1) rfl ?_
      refine v_isubN C (oX1_readLabels.at 8 rfl) (by omega) ?_
      refine v_icmp_geN C (oX1_readLabels.at 9 rfl) (tgt := 37) (by decide) (by omega) (by omega) (fun hc => ?_) (fun hc => ?_)
      · exact absurd hc (by omega)
      · refine v_iload_n C (oX1_readLabels.at 10 rfl) rfl ?_
        refine v_aload_n C (oX1_readLabels.at 11 rfl) rfl ?_
        refine v_getf C (oX1_readLabels.at 12 rfl) fX1_32 hr rfl ?_
        refine v_imulN C (oX1_readLabels.at 13 rfl) ?_
        refine v_aload_n C (oX1_readLabels.at 14 rfl) rfl ?_
        refine v_getf C (oX1_readLabels.at 15 rfl) fX1_11 hi rfl ?_
        refine v_iload C (oX1_readLabels.at 16 rfl) rfl ?_
        refine v_iald C (oX1_readLabels.at 17 rfl) hca (by decide) rfl (by omega) (hcf _ (by omega)).1 ?_
        refine v_iaddN C (oX1_readLabels.at 18 rfl) ?_
        refine v_istore_n C (oX1_readLabels.at 19 rfl) rfl ?_
        refine v_iincN C (oX1_readLabels.at 20 rfl) rfl ?_
        refine v_goto C (oX1_readLabels.at 21 rfl) (tgt := 5) (by decide) ?_
        dsimp only [sto1, sto2, killL]
        have := ih (i + 1) (by omega)
        rw [hw, Nat.zero_add] at this
        exact this
  intro j
  induction j with
  | zero =>
    intro i l6 hi'
    refine v_iload C (oX1_readLabels.at 26 rfl) rfl ?_
    refine v_iload_n C (oX1_readLabels.at 27 rfl) rfl ?_
    refine v_icmp_geN C (oX1_readLabels.at 28 rfl) (tgt := 103) (by decide) (by omega) (by omega) (fun hc => ?_) (fun hc => ?_)
    · have e1 : i = n := by omega
      subst e1
      refine v_iload C (oX1_readLabels.at 61 rfl) rfl ?_
      exact v_iret C (oX1_readLabels.at 62 rfl) rfl rfl ⟨Nat.le_refl _, Nat.le_refl _⟩ ⟨rfl, rfl⟩
    · exact absurd hc (by omega)
  | succ j ih =>
    intro i l6 hi'
    have hlt : hw k c i (wd - 1) * k + c (i + wd - 1) < k ^ wd := by
      have h1 := hw_lt (k := k) (c := c) i wd (fun j hj => (hcf _ (by omega)).2)
      rw [show wd = (wd - 1) + 1 by omega, hw] at h1
      rw [show i + wd - 1 = i + (wd - 1) by omega]
      rw [show wd - 1 + 1 = wd by omega] at h1
      exact h1
    have hnb : hw k c i (wd - 1) * k + c (i + wd - 1) = hw k c i wd := by
      conv => rhs; rw [show wd = (wd - 1) + 1 by omega, hw]
      rw [show i + wd - 1 = i + (wd - 1) by omega]
    refine v_iload C (oX1_readLabels.at 26 rfl) rfl ?_
    refine v_iload_n C (oX1_readLabels.at 27 rfl) rfl ?_
    refine v_icmp_geN C (oX1_readLabels.at 28 rfl) (tgt := 103) (by decide) (by omega) (by omega) (fun hc => ?_) (fun hc => ?_)
    · exact absurd hc (by omega)
    · refine v_iload_n C (oX1_readLabels.at 29 rfl) rfl ?_
      refine v_aload_n C (oX1_readLabels.at 30 rfl) rfl ?_
      refine v_getf C (oX1_readLabels.at 31 rfl) fX1_32 hr rfl ?_
      refine v_imulN C (oX1_readLabels.at 32 rfl) ?_
      refine v_aload_n C (oX1_readLabels.at 33 rfl) rfl ?_
      refine v_getf C (oX1_readLabels.at 34 rfl) fX1_11 hi rfl ?_
      refine v_iload C (oX1_readLabels.at 35 rfl) rfl ?_
      refine v_aload_n C (oX1_readLabels.at 36 rfl) rfl ?_
      refine v_getf C (oX1_readLabels.at 37 rfl) fX1_24 hr rfl ?_
      refine v_iaddN C (oX1_readLabels.at 38 rfl) ?_
      refine v_iconst C (oX1_readLabels.at 39 rfl) (v := nI 1) rfl ?_
      refine v_isubN C (oX1_readLabels.at 40 rfl) (by omega) ?_
      refine v_iald C (oX1_readLabels.at 41 rfl) hca (by decide) rfl (by omega) (hcf _ (by omega)).1 ?_
      refine v_iaddN C (oX1_readLabels.at 42 rfl) ?_
      refine v_istore C (oX1_readLabels.at 43 rfl) rfl ?_
      refine v_iload C (oX1_readLabels.at 44 rfl) rfl ?_
      refine v_aload_n C (oX1_readLabels.at 45 rfl) rfl ?_
      refine v_getf C (oX1_readLabels.at 46 rfl) fX1_32 hr rfl ?_
      refine v_imulN C (oX1_readLabels.at 47 rfl) ?_
      refine v_aload_n C (oX1_readLabels.at 48 rfl) rfl ?_
      refine v_getf C (oX1_readLabels.at 49 rfl) fX1_35 hr rfl ?_
      refine v_iload C (oX1_readLabels.at 50 rfl) rfl ?_
      refine v_iald C (oX1_readLabels.at 51 rfl) ht (by decide) rfl (by omega) (hT _ hlt).1 ?_
      refine v_iaddN C (oX1_readLabels.at 52 rfl) ?_
      refine v_istore C (oX1_readLabels.at 53 rfl) rfl ?_
      refine v_aload_n C (oX1_readLabels.at 54 rfl) rfl ?_
      refine v_getf C (oX1_readLabels.at 55 rfl) fX1_38 hr rfl ?_
      refine v_iload C (oX1_readLabels.at 56 rfl) rfl ?_
      refine v_iald C (oX1_readLabels.at 57 rfl) hg (by decide) rfl (by omega) (hG _ hlt) ?_
      refine v_istore_n C (oX1_readLabels.at 58 rfl) rfl ?_
      refine v_iincN C (oX1_readLabels.at 59 rfl) rfl ?_
      refine v_goto C (oX1_readLabels.at 60 rfl) (tgt := 43) (by decide) ?_
      dsimp only [sto1, sto2, killL]
      have := ih (i + 1) (some (.int (nI (hw k c i (wd - 1) * k + c (i + wd - 1))))) (by omega)
      rw [img, ← hnb] at this
      have e1 : (hw k c i (wd - 1) * k + c (i + wd - 1)) % k ^ (wd - 1) = hw k c (i + 1) (wd - 1) := by
        rw [hnb]
        conv => lhs; rw [show wd = (wd - 1) + 1 by omega]
        rw [show wd - 1 + 1 - 1 = wd - 1 by omega]
        exact hw_drop (fun j hj => (hcf _ (by omega)).2)
      rw [e1]
      exact this
