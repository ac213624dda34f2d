/-! ===== SubsetAutomaton: orphans ===== -/
theorem k_isWithout1 {w : Wt} {h : Hp} {p N : Nat} {A : Nat → Nat → Int32} (hA : SaOK h p N A) (h2 : A 2 0 = -1) : ConN mX7_isWithoutOrphans 0 (0, 0) w [.ref p] h (.inl (some (.int (bI true)))) (fun h' => h' = h) := by
  refine conI (by decide +kernel) ⟨fun _ => rfl, rfl, by simp⟩ (fun X C => ?_)
  change V X (0, 0) w h 0 [some (.ref p)] []
  refine v_aload_n C (oX7_isWithoutOrphans.at 0 rfl) rfl ?_
  refine v_getf C (oX7_isWithoutOrphans.at 1 rfl) fX7_17 hA.1 rfl ?_
  refine v_iconst C (oX7_isWithoutOrphans.at 2 rfl) (v := nI 0) rfl ?_
  refine v_iald C (oX7_isWithoutOrphans.at 3 rfl) hA.a2 (by decide) rfl (by omega) h2 ?_
  refine v_if_ge C (oX7_isWithoutOrphans.at 4 rfl) (tgt := 13) (by decide) (fun hc => ?_) (fun hc => ?_)
  · exact absurd hc (by decide)
  · refine v_iconst C (oX7_isWithoutOrphans.at 5 rfl) (v := nI 1) rfl ?_
    refine v_goto C (oX7_isWithoutOrphans.at 6 rfl) (tgt := 14) (by decide) ?_
    exact v_zret1 C (oX7_isWithoutOrphans.at 8 rfl) rfl rfl ⟨Nat.le_refl _, Nat.le_refl _⟩ ⟨rfl, rfl⟩
theorem k_isWithout0 {w : Wt} {h : Hp} {p N j : Nat} {A : Nat → Nat → Int32} (hA : SaOK h p N A) (h2 : A 2 0 = nI j) (hj : j < 2 ^ 31) : ConN mX7_isWithoutOrphans 0 (0, 0) w [.ref p] h (.inl (some (.int (bI false)))) (fun h' => h' = h) := by
  refine conI (by decide +kernel) ⟨fun _ => rfl, rfl, by simp⟩ (fun X C => ?_)
  change V X (0, 0) w h 0 [some (.ref p)] []
  refine v_aload_n C (oX7_isWithoutOrphans.at 0 rfl) rfl ?_
  refine v_getf C (oX7_isWithoutOrphans.at 1 rfl) fX7_17 hA.1 rfl ?_
  refine v_iconst C (oX7_isWithoutOrphans.at 2 rfl) (v := nI 0) rfl ?_
  refine v_iald C (oX7_isWithoutOrphans.at 3 rfl) hA.a2 (by decide) rfl (by omega) h2 ?_
  refine v_if_geN C (oX7_isWithoutOrphans.at 4 rfl) (tgt := 13) (by decide) (by omega) ?_
  refine v_iconst C (oX7_isWithoutOrphans.at 7 rfl) (v := nI 0) rfl ?_
  exact v_zret0 C (oX7_isWithoutOrphans.at 8 rfl) rfl rfl ⟨Nat.le_refl _, Nat.le_refl _⟩ ⟨rfl, rfl⟩
theorem k_orphanLength {w : Wt} {h : Hp} {p N j x : Nat} {A : Nat → Nat → Int32} (hA : SaOK h p N A) (h2 : A 2 0 = nI j) (hj : j < 512) (h3 : A 3 j = nI x) : ConN mX7_orphanLength 0 (0, 0) w [.ref p] h (.inl (some (.int (nI x)))) (fun h' => h' = h) := by
  refine conI (by decide +kernel) ⟨fun _ => rfl, rfl, by simp⟩ (fun X C => ?_)
  change V X (0, 0) w h 0 [some (.ref p)] []
  refine v_aload_n C (oX7_orphanLength.at 0 rfl) rfl ?_
  refine v_getf C (oX7_orphanLength.at 1 rfl) fX7_17 hA.1 rfl ?_
  refine v_iconst C (oX7_orphanLength.at 2 rfl) (v := nI 0) rfl ?_
  refine v_iald C (oX7_orphanLength.at 3 rfl) hA.a2 (by decide) rfl (by omega) h2 ?_
  refine v_if_geN C (oX7_orphanLength.at 4 rfl) (tgt := 13) (by decide) (by omega) ?_
  refine v_aload_n C (oX7_orphanLength.at 7 rfl) rfl ?_
  refine v_getf C (oX7_orphanLength.at 8 rfl) fX7_20 hA.1 rfl ?_
  refine v_aload_n C (oX7_orphanLength.at 9 rfl) rfl ?_
  refine v_getf C (oX7_orphanLength.at 10 rfl) fX7_17 hA.1 rfl ?_
  refine v_iconst C (oX7_orphanLength.at 11 rfl) (v := nI 0) rfl ?_
  refine v_iald C (oX7_orphanLength.at 12 rfl) hA.a2 (by decide) rfl (by omega) h2 ?_
  refine v_iald C (oX7_orphanLength.at 13 rfl) hA.a3 (by decide) rfl (by omega) h3 ?_
  exact v_iret C (oX7_orphanLength.at 14 rfl) rfl rfl ⟨Nat.le_refl _, Nat.le_refl _⟩ ⟨rfl, rfl⟩
theorem k_orphanIndex {w : Wt} {h : Hp} {p N j x : Nat} {A : Nat → Nat → Int32} (hA : SaOK h p N A) (h2 : A 2 0 = nI j) (hj : j < 512) (h3 : A 4 j = nI x) : ConN mX7_orphanIndex 0 (0, 0) w [.ref p] h (.inl (some (.int (nI x)))) (fun h' => h' = h) := by
  refine conI (by decide +kernel) ⟨fun _ => rfl, rfl, by simp⟩ (fun X C => ?_)
  change V X (0, 0) w h 0 [some (.ref p)] []
  refine v_aload_n C (oX7_orphanIndex.at 0 rfl) rfl ?_
  refine v_getf C (oX7_orphanIndex.at 1 rfl) fX7_17 hA.1 rfl ?_
  refine v_iconst C (oX7_orphanIndex.at 2 rfl) (v := nI 0) rfl ?_
  refine v_iald C (oX7_orphanIndex.at 3 rfl) hA.a2 (by decide) rfl (by omega) h2 ?_
  refine v_if_geN C (oX7_orphanIndex.at 4 rfl) (tgt := 13) (by decide) (by omega) ?_
  refine v_aload_n C (oX7_orphanIndex.at 7 rfl) rfl ?_
  refine v_getf C (oX7_orphanIndex.at 8 rfl) fX7_23 hA.1 rfl ?_
  refine v_aload_n C (oX7_orphanIndex.at 9 rfl) rfl ?_
  refine v_getf C (oX7_orphanIndex.at 10 rfl) fX7_17 hA.1 rfl ?_
  refine v_iconst C (oX7_orphanIndex.at 11 rfl) (v := nI 0) rfl ?_
  refine v_iald C (oX7_orphanIndex.at 12 rfl) hA.a2 (by decide) rfl (by omega) h2 ?_
  refine v_iald C (oX7_orphanIndex.at 13 rfl) hA.a4 (by decide) rfl (by omega) h3 ?_
  exact v_iret C (oX7_orphanIndex.at 14 rfl) rfl rfl ⟨Nat.le_refl _, Nat.le_refl _⟩ ⟨rfl, rfl⟩
def acN (k : Nat) (nx F : Nat → Nat) : Nat → Nat → Nat
  | 0, _ => 0
  | t + 1, u => acN k nx F t u + (if nx t = u then F (t / k) else 0)
theorem acN_skip {k : Nat} {nx F : Nat → Nat} {i u : Nat} (hF : nI (F i) = 0) : ∀ s, s ≤ k → nI (acN k nx F (i * k + s) u) = nI (acN k nx F (i * k) u)
  | 0, _ => rfl
  | s + 1, h => by
    rw [← Nat.add_assoc, acN, ← nI_add, acN_skip hF s (by omega), vk_div (by omega)]
    split
    · rw [hF]; exact Int32.add_zero _
    · rw [nI_0]; exact Int32.add_zero _
def cI (k e : Nat) (nx : Nat → Nat) : Nat → Nat → Nat
  | 0, u => baT 0 u
  | i + 1, u => acN k nx (cI k e nx i) (e * k) u
theorem k_countNext {w : Wt} {h : Hp} {p r k wd e : Nat} {T nx F : Nat → Nat} {A : Nat → Nat → Int32} (hR : RuleOK h r k wd T) (hs : SZ k wd) (hA : SaOK h p e A) (hsep : r + 5 < p) (he : e ≤ 512) (hnx : ∀ t, t < e * k → A 5 t = nI (nx t) ∧ nx t < e) (hF : ∀ u, u < e → A 7 u = nI (F u)) : ConN mX7_countNext 2 (0, 0) w [.ref p, .ref r] h (.inl none) (fun h' => (∃ g8 g7, SaOK h' p e (upW (upW A 8 g8) 7 g7) ∧ ∀ u, u < e → g7 u = nI (acN k nx F (e * k) u)) ∧ ∀ j, (j < p ∨ p + 8 < j) → h' j = h j) := by
  have hr := hR.ro
  have hk := hs.k
  have hek : e * k ≤ 512 * 3 := Nat.mul_le_mul he (by omega)
  refine conI (by decide +kernel) ⟨fun _ => rfl, rfl, by simp⟩ (fun X C => ?_)
  change V X (0, 0) w h 0 [some (.ref p), some (.ref r), none, none] []
  refine v_aload_n C (oX7_countNext.at 0 rfl) rfl ?_
  refine v_getf C (oX7_countNext.at 1 rfl) fX7_37 hA.1 rfl ?_
  refine v_iconst C (oX7_countNext.at 2 rfl) (v := nI 0) rfl ?_
  refine v_aload_n C (oX7_countNext.at 3 rfl) rfl ?_
  refine v_getf C (oX7_countNext.at 4 rfl) fX7_7 hA.1 rfl ?_
  refine v_iconst C (oX7_countNext.at 5 rfl) (v := nI 0) rfl ?_
  refine v_callS C (oX7_countNext.at 6 rfl) cX7_77 (k_fill4 (a := 0) hA.a8 (by decide) (Nat.zero_le _) he) rfl rfl rfl ⟨rfl, rfl⟩ rfl rfl (fun _ => rfl) (fun h' hp => ?_)
  rw [show h' = _ from hp]
  dsimp only [Option.toList, List.cons_append, List.nil_append]
  refine v_iconst C (oX7_countNext.at 7 rfl) (v := nI 0) rfl ?_
  refine v_istore_n C (oX7_countNext.at 8 rfl) rfl ?_
  dsimp only [sto1, sto2, killL]
  suffices H : ∀ d i g l3, i + d = e → (∀ u, u < e → g u = nI (acN k nx F (i * k) u)) → V X (0, 0) w (hu h (p + 8) (io 512 g)) 15 [some (.ref p), some (.ref r), some (.int (nI i)), l3] [] by
    refine H e 0 _ none (by omega) (fun u hu => ?_)
    unfold fil
    rw [if_pos (by omega), Nat.zero_mul, acN]
  intro d
  induction d with
  | zero =>
    intro i g l3 hi hg
    have e1 : i = e := by omega
    subst e1
    have hA1 : SaOK (hu h (p + 8) (io 512 g)) p i (upW A 8 g) := hA.up 8 (by decide) g
    refine v_iload_n C (oX7_countNext.at 9 rfl) rfl ?_
    refine v_aload_n C (oX7_countNext.at 10 rfl) rfl ?_
    refine v_getf C (oX7_countNext.at 11 rfl) fX7_7 hA1.1 rfl ?_
    refine v_icmp_geN C (oX7_countNext.at 12 rfl) (tgt := 81) (by decide) (by omega) (by omega) (fun hc => ?_) (fun hc => ?_)
    · refine v_aload_n C (oX7_countNext.at 47 rfl) rfl ?_
      refine v_getf C (oX7_countNext.at 48 rfl) fX7_37 hA1.1 rfl ?_
      refine v_iconst C (oX7_countNext.at 49 rfl) (v := nI 0) rfl ?_
      refine v_aload_n C (oX7_countNext.at 50 rfl) rfl ?_
      refine v_getf C (oX7_countNext.at 51 rfl) fX7_34 hA1.1 rfl ?_
      refine v_iconst C (oX7_countNext.at 52 rfl) (v := nI 0) rfl ?_
      refine v_aload_n C (oX7_countNext.at 53 rfl) rfl ?_
      refine v_getf C (oX7_countNext.at 54 rfl) fX7_7 hA1.1 rfl ?_
      refine v_acopy C (oX7_countNext.at 55 rfl) (tj6 42 (by rfl) rfl) hA1.a8 hA1.a7 he he (by omega) rfl rfl ?_
      rw [cpy_mix]
      have hA2 := hA1.up 7 (by decide) (mix (upW A 8 g 7) (upW A 8 g 8) i)
      refine v_vret C (oX7_countNext.at 56 rfl) rfl rfl ⟨Nat.le_refl _, Nat.le_refl _⟩ ⟨rfl, ⟨g, _, hA2, fun u hu => ?_⟩, fun j hj => ?_⟩
      · rw [mix_lt hu]; exact hg u hu
      · rw [hu_n _ _ (by omega), hu_n _ _ (by omega)]
    · exact absurd hc (by omega)
  | succ d ih =>
    intro i g l3 hi hg
    have hA1 : SaOK (hu h (p + 8) (io 512 g)) p e (upW A 8 g) := hA.up 8 (by decide) g
    have hik : (i + 1) * k ≤ e * k := Nat.mul_le_mul_right k (by omega)
    rw [Nat.add_mul, Nat.one_mul] at hik
    refine v_iload_n C (oX7_countNext.at 9 rfl) rfl ?_
    refine v_aload_n C (oX7_countNext.at 10 rfl) rfl ?_
    refine v_getf C (oX7_countNext.at 11 rfl) fX7_7 hA1.1 rfl ?_
    refine v_icmp_geN C (oX7_countNext.at 12 rfl) (tgt := 81) (by decide) (by omega) (by omega) (fun hc => ?_) (fun hc => ?_)
    · exact absurd hc (by omega)
    · refine v_aload_n C (oX7_countNext.at 13 rfl) rfl ?_
      refine v_getf C (oX7_countNext.at 14 rfl) fX7_34 hA1.1 rfl ?_
      refine v_iload_n C (oX7_countNext.at 15 rfl) rfl ?_
      refine v_iald C (oX7_countNext.at 16 rfl) hA1.a7 (by decide) rfl (by omega) (hF i (by omega)) ?_
      refine v_if_eq C (oX7_countNext.at 17 rfl) (tgt := 75) (by decide) (fun hc => ?_) (fun hc => ?_)
      · refine v_iincN C (oX7_countNext.at 45 rfl) rfl ?_
        refine v_goto C (oX7_countNext.at 46 rfl) (tgt := 15) (by decide) ?_
        dsimp only [sto1, sto2, killL]
        refine ih (i + 1) g _ (by omega) (fun u hu => ?_)
        rw [Nat.add_mul, Nat.one_mul, acN_skip hc k (Nat.le_refl _)]
        exact hg u hu
      · refine v_iconst C (oX7_countNext.at 18 rfl) (v := nI 0) rfl ?_
        refine v_istore_n C (oX7_countNext.at 19 rfl) rfl ?_
        dsimp only [sto1, sto2, killL]
        suffices H : ∀ d s g, s + d = k → (∀ u, u < e → g u = nI (acN k nx F (i * k + s) u)) → V X (0, 0) w (hu h (p + 8) (io 512 g)) 34 [some (.ref p), some (.ref r), some (.int (nI i)), some (.int (nI s))] [] from H k 0 g (by omega) hg
        intro d2
        induction d2 with
        | zero =>
          intro s g hsd hg
          refine v_iload_n C (oX7_countNext.at 20 rfl) rfl ?_
          refine v_aload_n C (oX7_countNext.at 21 rfl) rfl ?_
          refine v_getf C (oX7_countNext.at 22 rfl) fX7_57 ((hu_n _ _ (by omega)).trans hr) rfl ?_
          refine v_icmp_geN C (oX7_countNext.at 23 rfl) (tgt := 75) (by decide) (by omega) (by omega) (fun hc => ?_) (fun hc => ?_)
          · have e1 : s = k := by omega
            subst e1
            refine v_iincN C (oX7_countNext.at 45 rfl) rfl ?_
            refine v_goto C (oX7_countNext.at 46 rfl) (tgt := 15) (by decide) ?_
            dsimp only [sto1, sto2, killL]
            refine ih (i + 1) g _ (by omega) (fun u hu => ?_)
            rw [Nat.add_mul, Nat.one_mul]
            exact hg u hu
          · exact absurd hc (by omega)
        | succ d2 ih2 =>
          intro s g hsd hg
          have hA1 : SaOK (hu h (p + 8) (io 512 g)) p e (upW A 8 g) := hA.up 8 (by decide) g
          have hn := hnx (i * k + s) (by omega)
          refine v_iload_n C (oX7_countNext.at 20 rfl) rfl ?_
          refine v_aload_n C (oX7_countNext.at 21 rfl) rfl ?_
          refine v_getf C (oX7_countNext.at 22 rfl) fX7_57 ((hu_n _ _ (by omega)).trans hr) rfl ?_
          refine v_icmp_geN C (oX7_countNext.at 23 rfl) (tgt := 75) (by decide) (by omega) (by omega) (fun hc => ?_) (fun hc => ?_)
          · exact absurd hc (by omega)
          · refine v_aload_n C (oX7_countNext.at 24 rfl) rfl ?_
            refine v_getf C (oX7_countNext.at 25 rfl) fX7_37 hA1.1 rfl ?_
            refine v_aload_n C (oX7_countNext.at 26 rfl) rfl ?_
            refine v_getf C (oX7_countNext.at 27 rfl) fX7_28 hA1.1 rfl ?_
            refine v_iload_n C (oX7_countNext.at 28 rfl) rfl ?_
            refine v_aload_n C (oX7_countNext.at 29 rfl) rfl ?_
            refine v_getf C (oX7_countNext.at 30 rfl) fX7_57 ((hu_n _ _ (by omega)).trans hr) rfl ?_
            refine v_imulN C (oX7_countNext.at 31 rfl) ?_
            refine v_iload_n C (oX7_countNext.at 32 rfl) rfl ?_
            refine v_iaddN C (oX7_countNext.at 33 rfl) ?_
            refine v_iald C (oX7_countNext.at 34 rfl) hA1.a5 (by decide) rfl (by omega) hn.1 ?_
            refine v_dup2 C (oX7_countNext.at 35 rfl) rfl rfl ?_
            refine v_iald C (oX7_countNext.at 36 rfl) (hu_s _ _ _) (by decide) rfl (by omega) (hg _ hn.2) ?_
            refine v_aload_n C (oX7_countNext.at 37 rfl) rfl ?_
            refine v_getf C (oX7_countNext.at 38 rfl) fX7_34 hA1.1 rfl ?_
            refine v_iload_n C (oX7_countNext.at 39 rfl) rfl ?_
            refine v_iald C (oX7_countNext.at 40 rfl) hA1.a7 (by decide) rfl (by omega) (hF i (by omega)) ?_
            refine v_iaddN C (oX7_countNext.at 41 rfl) ?_
            refine v_iast C (oX7_countNext.at 42 rfl) (hu_s _ _ _) (by decide) rfl (by omega) ?_
            rw [hu_hu]
            refine v_iincN C (oX7_countNext.at 43 rfl) rfl ?_
            refine v_goto C (oX7_countNext.at 44 rfl) (tgt := 34) (by decide) ?_
            dsimp only [sto1, sto2, killL]
            refine ih2 (s + 1) _ (by omega) (fun u hu => ?_)
            rw [← Nat.add_assoc, acN, vk_div (by omega)]
            by_cases e1 : u = nx (i * k + s)
            · subst e1; rw [pk_us, if_pos rfl]
            · rw [pk_un e1, hg u hu, if_neg (Ne.symm e1), Nat.add_zero]
theorem k_countOrphans0 {w : Wt} {h : Hp} {p r N : Nat} {A : Nat → Nat → Int32} {x : Int32} (hA : SaOK h p N A) (h2 : A 2 0 = -1) : ConN mX7_countOrphans 3 (0, 0) w [.ref p, .ref r, .int x] h (.inl (some (.int (nI 0)))) (fun h' => h' = h) := by
  refine conI (by decide +kernel) ⟨fun _ => rfl, rfl, by simp⟩ (fun X C => ?_)
  change V X (0, 0) w h 0 [some (.ref p), some (.ref r), some (.int x), none] []
  refine v_aload_n C (oX7_countOrphans.at 0 rfl) rfl ?_
  refine v_callV C (oX7_countOrphans.at 1 rfl) cX7_70 hA.1 (k_isWithout1 hA h2) rfl rfl rfl ⟨rfl, rfl⟩ rfl rfl (fun _ => rfl) (fun h' hp => ?_)
  rw [show h' = _ from hp]
  dsimp only [Option.toList, List.cons_append, List.nil_append]
  refine v_if_eqB C (oX7_countOrphans.at 2 rfl) (tgt := 9) (by decide) (fun hc => ?_) (fun hc => ?_)
  · cases hc
  · refine v_iconst C (oX7_countOrphans.at 3 rfl) (v := nI 0) rfl ?_
    exact v_iret C (oX7_countOrphans.at 4 rfl) rfl rfl ⟨Nat.le_refl _, Nat.le_refl _⟩ ⟨rfl, rfl⟩
theorem k_countOrphans {w : Wt} {h : Hp} {p r k wd e j0 L : Nat} {T nx : Nat → Nat} {A : Nat → Nat → Int32} (hR : RuleOK h r k wd T) (hs : SZ k wd) (hA : SaOK h p e A) (hsep : r + 5 < p) (he : e ≤ 512) (hnx : ∀ t, t < e * k → A 5 t = nI (nx t) ∧ nx t < e) (h2 : A 2 0 = nI j0) (hj0 : j0 < e) (hL : L ≤ 12) : ConN mX7_countOrphans 3 (0, 0) w [.ref p, .ref r, .int (nI L)] h (.inl (some (.int (nI (cI k e nx L j0))))) (fun h' => (∃ A', SaOK h' p e A') ∧ ∀ j, (j < p ∨ p + 8 < j) → h' j = h j) := by
  refine conI (by decide +kernel) ⟨fun _ => rfl, rfl, by simp⟩ (fun X C => ?_)
  change V X (0, 0) w h 0 [some (.ref p), some (.ref r), some (.int (nI L)), none] []
  refine v_aload_n C (oX7_countOrphans.at 0 rfl) rfl ?_
  refine v_callV C (oX7_countOrphans.at 1 rfl) cX7_70 hA.1 (k_isWithout0 hA h2 (by omega)) rfl rfl rfl ⟨rfl, rfl⟩ rfl rfl (fun _ => rfl) (fun h' hp => ?_)
  rw [show h' = _ from hp]
  dsimp only [Option.toList, List.cons_append, List.nil_append]
  refine v_if_eqB C (oX7_countOrphans.at 2 rfl) (tgt := 9) (by decide) (fun hc => ?_) (fun hc => ?_)
  · refine v_aload_n C (oX7_countOrphans.at 5 rfl) rfl ?_
    refine v_getf C (oX7_countOrphans.at 6 rfl) fX7_34 hA.1 rfl ?_
    refine v_iconst C (oX7_countOrphans.at 7 rfl) (v := nI 0) rfl ?_
    refine v_callS C (oX7_countOrphans.at 8 rfl) cX7_44 (k_fill hA.a7 (by decide)) rfl rfl rfl ⟨rfl, rfl⟩ rfl rfl (fun _ => rfl) (fun h' hp => ?_)
    rw [show h' = _ from hp]
    dsimp only [Option.toList, List.cons_append, List.nil_append]
    have hA1 : SaOK (hu h (p + 7) (io 512 (mix (A 7) (fun _ => nI 0) 512))) p e (upW A 7 (mix (A 7) (fun _ => nI 0) 512)) := hA.up 7 (by decide) _
    refine v_aload_n C (oX7_countOrphans.at 9 rfl) rfl ?_
    refine v_getf C (oX7_countOrphans.at 10 rfl) fX7_34 hA1.1 rfl ?_
    refine v_iconst C (oX7_countOrphans.at 11 rfl) (v := nI 0) rfl ?_
    refine v_iconst C (oX7_countOrphans.at 12 rfl) (v := nI 1) rfl ?_
    refine v_iast C (oX7_countOrphans.at 13 rfl) (hu_s _ _ _) (by decide) rfl (by omega) ?_
    refine v_iconst C (oX7_countOrphans.at 14 rfl) (v := nI 0) rfl ?_
    refine v_istore_n C (oX7_countOrphans.at 15 rfl) rfl ?_
    dsimp only [sto1, sto2, killL]
    rw [hu_hu]
    have hA2 : SaOK (hu h (p + 7) (io 512 (upd (mix (A 7) (fun _ => nI 0) 512) 0 (nI 1)))) p e (upW A 7 (upd (mix (A 7) (fun _ => nI 0) 512) 0 (nI 1))) := hA.up 7 (by decide) _
    suffices H : ∀ d i h1 A1, i + d = L → SaOK h1 p e A1 → (∀ j, (j < p ∨ p + 8 < j) → h1 j = h j) → A1 5 = A 5 → A1 2 = A 2 → (∀ u, u < e → A1 7 u = nI (cI k e nx i u)) → V X (0, 0) w h1 26 [some (.ref p), some (.ref r), some (.int (nI L)), some (.int (nI i))] [] by
      refine H L 0 _ _ (by omega) hA2 (fun j hj => hu_n _ _ (by omega)) rfl rfl (fun u hu => ?_)
      show upd _ _ _ _ = _
      rw [cI]
      unfold baT
      by_cases e1 : u = 0
      · subst e1; rw [pk_us, if_pos rfl]
      · rw [pk_un e1, if_neg e1, mix_lt (by omega)]
    intro d
    induction d with
    | zero =>
      intro i h1 A1 hi hA1 hf h5 h2' h7
      have e1 : i = L := by omega
      subst e1
      have hv2 : A1 2 0 = nI j0 := by rw [h2']; exact h2
      refine v_iload_n C (oX7_countOrphans.at 16 rfl) rfl ?_
      refine v_iload_n C (oX7_countOrphans.at 17 rfl) rfl ?_
      refine v_icmp_geN C (oX7_countOrphans.at 18 rfl) (tgt := 42) (by decide) (by omega) (by omega) (fun hc => ?_) (fun hc => ?_)
      · refine v_aload_n C (oX7_countOrphans.at 24 rfl) rfl ?_
        refine v_getf C (oX7_countOrphans.at 25 rfl) fX7_34 hA1.1 rfl ?_
        refine v_aload_n C (oX7_countOrphans.at 26 rfl) rfl ?_
        refine v_getf C (oX7_countOrphans.at 27 rfl) fX7_17 hA1.1 rfl ?_
        refine v_iconst C (oX7_countOrphans.at 28 rfl) (v := nI 0) rfl ?_
        refine v_iald C (oX7_countOrphans.at 29 rfl) hA1.a2 (by decide) rfl (by omega) hv2 ?_
        refine v_iald C (oX7_countOrphans.at 30 rfl) hA1.a7 (by decide) rfl (by omega) (h7 _ hj0) ?_
        exact v_iret C (oX7_countOrphans.at 31 rfl) rfl rfl ⟨Nat.le_refl _, Nat.le_refl _⟩ ⟨rfl, ⟨A1, hA1⟩, hf⟩
      · exact absurd hc (by omega)
    | succ d ih =>
      intro i h1 A1 hi hA1 hf h5 h2' h7
      have hR1 : RuleOK h1 r k wd T := hR.eq (fun q e1 e2 => hf q (by omega))
      refine v_iload_n C (oX7_countOrphans.at 16 rfl) rfl ?_
      refine v_iload_n C (oX7_countOrphans.at 17 rfl) rfl ?_
      refine v_icmp_geN C (oX7_countOrphans.at 18 rfl) (tgt := 42) (by decide) (by omega) (by omega) (fun hc => ?_) (fun hc => ?_)
      · exact absurd hc (by omega)
      · refine v_aload_n C (oX7_countOrphans.at 19 rfl) rfl ?_
        refine v_aload_n C (oX7_countOrphans.at 20 rfl) rfl ?_
        refine v_callV C (oX7_countOrphans.at 21 rfl) cX7_74 hA1.1 (k_countNext (nx := nx) (F := cI k e nx i) hR1 hs hA1 hsep he (by rw [h5]; exact hnx) h7) rfl rfl rfl ⟨rfl, rfl⟩ rfl rfl (fun _ => rfl) (fun h' hp => ?_)
        dsimp only [Option.toList, List.cons_append, List.nil_append]
        obtain ⟨⟨g8, g7, hA3, hg⟩, hf3⟩ := hp
        refine v_iincN C (oX7_countOrphans.at 22 rfl) rfl ?_
        refine v_goto C (oX7_countOrphans.at 23 rfl) (tgt := 26) (by decide) ?_
        dsimp only [sto1, sto2, killL]
        exact ih (i + 1) h' _ (by omega) hA3 (fun j hj => (hf3 j hj).trans (hf j hj)) h5 h2' hg
  · cases hc
