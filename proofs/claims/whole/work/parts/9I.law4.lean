/-! ===== the law's loop ===== -/
theorem sub5 {N i : Nat} (hN : N ≤ 2560) (hi : i ≤ 2565) (h : ¬ (nI N - nI 5 < nI i)) : i + 5 ≤ N := by
  rw [Int32.lt_iff_toInt_lt, Int32.toInt_sub, nI_toInt (by omega), nI_toInt (by decide), nI_toInt (by omega)] at h
  rw [Int.bmod_def] at h
  omega
theorem and63 (x : Int32) : ∃ m : Nat, m < 64 ∧ (x &&& nI 63).toInt = m := by
  have h1 : (x &&& nI 63).toBitVec.toNat < 64 := by
    show (x.toBitVec &&& (nI 63).toBitVec).toNat < 64
    rw [BitVec.toNat_and]
    exact Nat.lt_of_le_of_lt Nat.and_le_right (by decide)
  refine ⟨(x &&& nI 63).toBitVec.toNat, h1, ?_⟩
  show (x &&& nI 63).toBitVec.toInt = _
  rw [BitVec.toInt_eq_toNat_of_lt (by omega)]
theorem law_loop {X : CT} {P : Wt → Hp → Prop} (C : Cx X mL_law [] 10 zL (.inl (some (.int (bI true)))) P) {w : Wt} {N : Nat} {xs : Nat → Int32} (hs : SC X w N xs) (hN : N ≤ 2560) (hP : ∀ h, P w h) : ∀ (n i : Nat) (z : Nat × Nat) (h : Hp) (S : Sc) (sv : Bool) (Z : Sc) (F : Sf), N ≤ i + 5 * n → i ≤ 2565 → z.1 + n ≤ 603072 ∧ z.2 + 6 * n ≤ 7157866 → JI2 h S sv Z F → V X z w h 23 (LL i) [] := by
  intro n
  induction n with
  | zero =>
    intro i z h S sv Z F h1 h2 h3 hJ
    refine v_iload C dL_law_23 rfl ?_
    refine v_aload_n C dL_law_25 rfl ?_
    refine v_slen C hs dL_law_26 ?_
    refine v_iconst C dL_law_27 (v := nI 5) rfl ?_
    refine v_isub C dL_law_28 ?_
    refine v_icmp_gt C dL_law_29 (tgt := 2102) (by decide) (fun _ => ?_) (fun hc => ?_)
    · refine v_iconst C dL_law_2102 (v := bI true) rfl ?_
      exact v_zret C dL_law_2103 rfl rfl ⟨by show z.1 ≤ 603072; omega, by show z.2 ≤ 7157866; omega⟩ (hP h)
    · have := sub5 hN h2 hc
      omega
  | succ n ih =>
    intro i z h S sv Z F h1 h2 h3 hJ
    refine v_iload C dL_law_23 rfl ?_
    refine v_aload_n C dL_law_25 rfl ?_
    refine v_slen C hs dL_law_26 ?_
    refine v_iconst C dL_law_27 (v := nI 5) rfl ?_
    refine v_isub C dL_law_28 ?_
    refine v_icmp_gt C dL_law_29 (tgt := 2102) (by decide) (fun _ => ?_) (fun hc => ?_)
    · refine v_iconst C dL_law_2102 (v := bI true) rfl ?_
      exact v_zret C dL_law_2103 rfl rfl ⟨by show z.1 ≤ 603072; omega, by show z.2 ≤ 7157866; omega⟩ (hP h)
    · have hi := sub5 hN h2 hc
      have hz : z.1 + 1 ≤ 603072 ∧ z.2 + 6 ≤ 7157866 := ⟨by omega, by omega⟩
      have K : ∀ h' S' sv' Z' F' z', JI2 h' S' sv' Z' F' → z'.1 ≤ z.1 + 1 ∧ z'.2 ≤ z.2 + 6 → V X z' w h' 2096 (LL i) [] := by
        intro h' S' sv' Z' F' z' hJ' hzz
        refine v_iinc C dL_law_2096 (v := nI (i + 5)) rfl (nI_add i 5) ?_
        dsimp only [sto1, sto2, killL]
        exact v_goto C dL_law_2099 (tgt := 23) (by decide) (ih (i + 5) z' h' S' sv' Z' F' (by omega) (by omega) ⟨by omega, by omega⟩ hJ')
      refine v_aload_n C dL_law_32 rfl ?_
      refine v_iload C dL_law_33 rfl ?_
      refine v_sld C hs hN (by omega) dL_law_35 ?_
      refine v_bipush C dL_law_36 (v := nI 63) rfl ?_
      refine v_iand C dL_law_38 ?_
      obtain ⟨m, hm, hx⟩ := and63 (xs i)
      by_cases h34 : m ≤ 34
      · match m, h34, hx with
        | 0, _, hx => exact v_tabI C dL_law_39 hx rfl (by decide) rfl (by decide) (lc_setSize C hs hN hi hz hJ K)
        | 1, _, hx => exact v_tabI C dL_law_39 hx rfl (by decide) rfl (by decide) (lc_size C hs hN hi hz hJ K)
        | 2, _, hx => exact v_tabI C dL_law_39 hx rfl (by decide) rfl (by decide) (lc_setOutput C hs hN hi hz hJ K)
        | 3, _, hx => exact v_tabI C dL_law_39 hx rfl (by decide) rfl (by decide) (lc_output C hs hN hi hz hJ K)
        | 4, _, hx => exact v_tabI C dL_law_39 hx rfl (by decide) rfl (by decide) (lc_setNumber C hs hN hi hz hJ K)
        | 5, _, hx => exact v_tabI C dL_law_39 hx rfl (by decide) rfl (by decide) (lc_number C hs hN hi hz hJ K)
        | 6, _, hx => exact v_tabI C dL_law_39 hx rfl (by decide) rfl (by decide) (lc_append C hs hN hi hz hJ K)
        | 7, _, hx => exact v_tabI C dL_law_39 hx rfl (by decide) rfl (by decide) (lc_compile C hs hN hi hz hJ K)
        | 8, _, hx => exact v_tabI C dL_law_39 hx rfl (by decide) rfl (by decide) (lc_error C hs hN hi hz hJ K)
        | 9, _, hx => exact v_tabI C dL_law_39 hx rfl (by decide) rfl (by decide) (lc_mirror C hs hN hi hz hJ K)
        | 10, _, hx => exact v_tabI C dL_law_39 hx rfl (by decide) rfl (by decide) (lc_complement C hs hN hi hz hJ K)
        | 11, _, hx => exact v_tabI C dL_law_39 hx rfl (by decide) rfl (by decide) (lc_leastNumber C hs hN hi hz hJ K)
        | 12, _, hx => exact v_tabI C dL_law_39 hx rfl (by decide) rfl (by decide) (lc_compose C hs hN hi hz hJ K)
        | 13, _, hx => exact v_tabI C dL_law_39 hx rfl (by decide) rfl (by decide) (lc_setWord C hs hN hi hz hJ K)
        | 14, _, hx => exact v_tabI C dL_law_39 hx rfl (by decide) rfl (by decide) (lc_wordLength C hs hN hi hz hJ K)
        | 15, _, hx => exact v_tabI C dL_law_39 hx rfl (by decide) rfl (by decide) (lc_wordIndex C hs hN hi hz hJ K)
        | 16, _, hx => exact v_tabI C dL_law_39 hx rfl (by decide) rfl (by decide) (lc_cell C hs hN hi hz hJ K)
        | 17, _, hx => exact v_tabI C dL_law_39 hx rfl (by decide) rfl (by decide) (lc_apply C hs hN hi hz hJ K)
        | 18, _, hx => exact v_tabI C dL_law_39 hx rfl (by decide) rfl (by decide) (lc_orbit C hs hN hi hz hJ K)
        | 19, _, hx => exact v_tabI C dL_law_39 hx rfl (by decide) rfl (by decide) (lc_preimageCount C hs hN hi hz hJ K)
        | 20, _, hx => exact v_tabI C dL_law_39 hx rfl (by decide) rfl (by decide) (lc_preimage C hs hN hi hz hJ K)
        | 21, _, hx => exact v_tabI C dL_law_39 hx rfl (by decide) rfl (by decide) (lc_preimagesBetween C hs hN hi hz hJ K)
        | 22, _, hx => exact v_tabI C dL_law_39 hx rfl (by decide) rfl (by decide) (lc_wordsWith C hs hN hi hz hJ K)
        | 23, _, hx => exact v_tabI C dL_law_39 hx rfl (by decide) rfl (by decide) (lc_mostPreimages C hs hN hi hz hJ K)
        | 24, _, hx => exact v_tabI C dL_law_39 hx rfl (by decide) rfl (by decide) (lc_fixedWords C hs hN hi hz hJ K)
        | 25, _, hx => exact v_tabI C dL_law_39 hx rfl (by decide) rfl (by decide) (lc_edge C hs hN hi hz hJ K)
        | 26, _, hx => exact v_tabI C dL_law_39 hx rfl (by decide) rfl (by decide) (lc_subsets C hs hN hi hz hJ K)
        | 27, _, hx => exact v_tabI C dL_law_39 hx rfl (by decide) rfl (by decide) (lc_orphans C hs hN hi hz hJ K)
        | 28, _, hx => exact v_tabI C dL_law_39 hx rfl (by decide) rfl (by decide) (lc_shortestOrphan C hs hN hi hz hJ K)
        | 29, _, hx => exact v_tabI C dL_law_39 hx rfl (by decide) rfl (by decide) (lc_has C hs hN hi hz hJ K)
        | 30, _, hx => exact v_tabI C dL_law_39 hx rfl (by decide) rfl (by decide) (lc_cyclicPairs C hs hN hi hz hJ K)
        | 31, _, hx => exact v_tabI C dL_law_39 hx rfl (by decide) rfl (by decide) (lc_inverse C hs hN hi hz hJ K)
        | 32, _, hx => exact v_tabI C dL_law_39 hx rfl (by decide) rfl (by decide) (lc_inverseOutput C hs hN hi hz hJ K)
        | 33, _, hx => exact v_tabI C dL_law_39 hx rfl (by decide) rfl (by decide) (lc_save C hs hN hi hz hJ K)
        | 34, _, hx => exact v_tabI C dL_law_39 hx rfl (by decide) rfl (by decide) (lc_restore C hs hN hi hz hJ K)
        | m + 35, h34, _ => exact absurd h34 (by omega)
      · exact v_tabO C dL_law_39 (.inr (by rw [hx]; omega)) (tgt := 2096) (by decide) (K h S sv Z F z hJ ⟨by omega, by omega⟩)
