/-! ===== the reference: append ===== -/
theorem sar_bits (x : BitVec 32) (n : Nat) (hn : n ≤ 24) : x.sshiftRight n &&& 255#32 = BitVec.ofNat 32 (x.toNat / 2 ^ n % 256) := by
  apply BitVec.eq_of_getLsbD_eq
  intro i hi
  rw [BitVec.getLsbD_and, BitVec.getLsbD_sshiftRight, BitVec.getLsbD_ofNat, BitVec.getLsbD_ofNat, show (256 : Nat) = 2 ^ 8 from rfl, Nat.testBit_mod_two_pow, Nat.testBit_div_two_pow, show (255 : Nat) = 2 ^ 8 - 1 from rfl, Nat.testBit_two_pow_sub_one]
  by_cases h8 : i < 8
  · have e1 : n + i < 32 := by omega
    simp [h8, hi, e1, BitVec.getLsbD, Nat.add_comm]
  · simp [h8]
theorem sar_b (x : Int32) {j : Nat} (hj : j < 4) : (x >>> (nI (8 * j) &&& 31)) &&& nI 255 = nI (byN x j) := by
  apply Int32.toBitVec_inj.mp
  rw [Int32.toBitVec_and, Int32.toBitVec_shiftRight, bv_nI, bv_nI]
  have : ((nI (8 * j) &&& 31).toBitVec.smod 32).toNat = 8 * j := by
    have h4 : j = 0 ∨ j = 1 ∨ j = 2 ∨ j = 3 := by omega
    rcases h4 with rfl | rfl | rfl | rfl <;> decide
  unfold BitVec.sshiftRight'
  rw [this]
  exact sar_bits _ _ (by omega)
theorem ap9_1 {w : Wt} {h : Hp} {x : Int32} {a j : Nat} {l4 : Option Value} {X : CT} {zR : Nat × Nat} {o : Oc} {P : Wt → Hp → Prop} (C : Cx X mX9_append [] 1 zR o P) (hj : j < 4) (hb : okB (byN x j)) (K : ∀ l4, V X (0, 0) w h 10 [some (.ref 62), some (.int x), some (.int (nI (a + nzB (byN x j)))), some (.int (shI j)), l4] []) : V X (0, 0) w h 10 [some (.ref 62), some (.int x), some (.int (nI a)), some (.int (shI (j + 1))), l4] [] := by
  have hl := byN_lt x j
  have hdec : nI (8 * j) + (-8) = shI j := by unfold shI; rw [Int32.sub_eq_add_neg]; rfl
  rw [shI_s]
  refine v_iload_n C (oX9_append.at 7 rfl) rfl ?_
  refine v_if_ltN C (oX9_append.at 8 rfl) (tgt := 65) (by decide) (by omega) ?_
  refine v_iload_n C (oX9_append.at 9 rfl) rfl ?_
  refine v_iload_n C (oX9_append.at 10 rfl) rfl ?_
  refine v_ishr C (oX9_append.at 11 rfl) ?_
  refine v_sipush C (oX9_append.at 12 rfl) (v := nI 255) rfl ?_
  refine v_iand C (oX9_append.at 13 rfl) ?_
  rw [sar_b x hj]
  refine v_istore C (oX9_append.at 14 rfl) rfl ?_
  refine v_iload C (oX9_append.at 15 rfl) rfl ?_
  dsimp only [sto1, sto2, killL]
  have fin : V X (0, 0) w h 46 [some (.ref 62), some (.int x), some (.int (nI a)), some (.int (nI (8 * j))), some (.int (nI (byN x j)))] [] := by
    unfold nzB at K
    refine v_iload_n C (oX9_append.at 26 rfl) rfl ?_
    refine v_iload C (oX9_append.at 27 rfl) rfl ?_
    refine v_if_neN C (oX9_append.at 28 rfl) (tgt := 56) (by decide) (by omega) (fun hc => ?_) (fun hc => ?_)
    · rw [if_neg hc] at K
      refine v_iconst C (oX9_append.at 31 rfl) (v := nI 1) rfl ?_
      refine v_iaddN C (oX9_append.at 32 rfl) ?_
      refine v_istore_n C (oX9_append.at 33 rfl) rfl ?_
      dsimp only [sto1, sto2, killL]
      refine v_iinc C (oX9_append.at 34 rfl) rfl hdec ?_
      refine v_goto C (oX9_append.at 35 rfl) (tgt := 10) (by decide) ?_
      dsimp only [sto1, sto2, killL]
      exact K _
    · rw [if_pos hc] at K
      refine v_iconst C (oX9_append.at 29 rfl) (v := nI 0) rfl ?_
      refine v_goto C (oX9_append.at 30 rfl) (tgt := 57) (by decide) ?_
      refine v_iaddN C (oX9_append.at 32 rfl) ?_
      refine v_istore_n C (oX9_append.at 33 rfl) rfl ?_
      dsimp only [sto1, sto2, killL]
      refine v_iinc C (oX9_append.at 34 rfl) rfl hdec ?_
      refine v_goto C (oX9_append.at 35 rfl) (tgt := 10) (by decide) ?_
      dsimp only [sto1, sto2, killL]
      exact K _
  refine v_if_eqN C (oX9_append.at 16 rfl) (tgt := 46) (by decide) (by omega) (fun hc => ?_) (fun hc => ?_)
  · exact fin
  · have hb2 : 33 ≤ byN x j ∧ byN x j ≤ 126 := by rcases hb with z | z; exact absurd z hc; exact z
    refine v_iload C (oX9_append.at 17 rfl) rfl ?_
    refine v_bipush C (oX9_append.at 18 rfl) (v := nI 33) rfl ?_
    refine v_bipush C (oX9_append.at 19 rfl) (v := nI 126) rfl ?_
    refine v_callS C (oX9_append.at 20 rfl) cX9_103 (isIn_n (q := true) (by omega) (by decide) (by decide) (by symm; exact decide_eq_true hb2)) rfl rfl rfl ⟨rfl, rfl⟩ rfl rfl (fun _ => rfl) (fun h' hp => ?_)
    rw [show h' = _ from hp]
    dsimp only [Option.toList, List.cons_append, List.nil_append]
    refine v_if_neB C (oX9_append.at 21 rfl) (tgt := 46) (by decide) (fun _ => ?_) (fun z => absurd z (by decide))
    exact fin
theorem ap9_1x {w : Wt} {G h : Hp} {S Z : Sc} {sv : Bool} {F : Sf} {x : Int32} {a j : Nat} {l4 : Option Value} {X : CT} {P : Wt → Hp → Prop} (C : Cx X mX9_append [] 1 (0, 0) (.inl (some (.int (nI 0)))) P) (hR : RF G h 0 S sv Z F) (hj : j < 4) (hb : ¬ okB (byN x j)) (hP : ∀ h', RF G h' 1 S sv Z F → P w h') : V X (0, 0) w h 10 [some (.ref 62), some (.int x), some (.int (nI a)), some (.int (shI (j + 1))), l4] [] := by
  obtain ⟨u, o0, o1, o2⟩ := hR.o
  have hl := byN_lt x j
  unfold okB at hb
  rw [shI_s]
  refine v_iload_n C (oX9_append.at 7 rfl) rfl ?_
  refine v_if_ltN C (oX9_append.at 8 rfl) (tgt := 65) (by decide) (by omega) ?_
  refine v_iload_n C (oX9_append.at 9 rfl) rfl ?_
  refine v_iload_n C (oX9_append.at 10 rfl) rfl ?_
  refine v_ishr C (oX9_append.at 11 rfl) ?_
  refine v_sipush C (oX9_append.at 12 rfl) (v := nI 255) rfl ?_
  refine v_iand C (oX9_append.at 13 rfl) ?_
  rw [sar_b x hj]
  refine v_istore C (oX9_append.at 14 rfl) rfl ?_
  refine v_iload C (oX9_append.at 15 rfl) rfl ?_
  dsimp only [sto1, sto2, killL]
  refine v_if_eqN C (oX9_append.at 16 rfl) (tgt := 46) (by decide) (by omega) (fun hc => ?_) (fun hc => ?_)
  · exact absurd (Or.inl hc) hb
  · refine v_iload C (oX9_append.at 17 rfl) rfl ?_
    refine v_bipush C (oX9_append.at 18 rfl) (v := nI 33) rfl ?_
    refine v_bipush C (oX9_append.at 19 rfl) (v := nI 126) rfl ?_
    refine v_callS C (oX9_append.at 20 rfl) cX9_103 (isIn_n (q := false) (by omega) (by decide) (by decide) (by symm; exact decide_eq_false (fun z => hb (Or.inr z)))) rfl rfl rfl ⟨rfl, rfl⟩ rfl rfl (fun _ => rfl) (fun h' hp => ?_)
    rw [show h' = _ from hp]
    dsimp only [Option.toList, List.cons_append, List.nil_append]
    refine v_if_neB C (oX9_append.at 21 rfl) (tgt := 46) (by decide) (fun z => absurd z (by decide)) (fun _ => ?_)
    refine v_aload_n C (oX9_append.at 22 rfl) rfl ?_
    refine v_iconst C (oX9_append.at 23 rfl) (v := nI 1) rfl ?_
    refine v_callV C (oX9_append.at 24 rfl) cX9_111 o0 (k9_noR hR) rfl rfl rfl ⟨rfl, rfl⟩ rfl rfl (fun _ => rfl) (fun h' hp => ?_)
    dsimp only [Option.toList, List.cons_append, List.nil_append]
    exact v_iret C (oX9_append.at 25 rfl) rfl rfl ⟨Nat.le_refl _, Nat.le_refl _⟩ (hP _ hp)
theorem RF.bf {G h : Hp} {th : Nat} {S Z : Sc} {sv : Bool} {F : Sf} (hR : RF G h th S sv Z F) : ∃ f, h 69 = io 40 f ∧ ∀ i, i < F.1 → f i = nI (F.2.2.2 i) := hR.2.2.2.2.2.2.2.1
theorem RF.fo {G h : Hp} {th : Nat} {S Z : Sc} {sv : Bool} {F : Sf} (hR : RF G h th S sv Z F) : SfOK F := hR.2.2.2.2.2.2.2.2.2.2.2.1
theorem RF.set_b {G h h' : Hp} {th th' : Nat} {S Z : Sc} {sv : Bool} {F F' : Sf} {u f : Nat → Int32} (hR : RF G h th S sv Z F) (h62 : h' 62 = MO u) (ht : u 0 = nI th') (hm : MuP S sv Z F' u) (h69 : h' 69 = io 40 f) (hb : ∀ i, i < F'.1 → f i = nI (F'.2.2.2 i)) (hF : SfOK F') (he : ∀ j, j ≠ 62 → j ≠ 69 → (j < 70 ∨ 87 < j) → h' j = h j) (hr : MrP h') : RF G h' th' S sv Z F' := by
  obtain ⟨p0, ⟨g1, a1, b1⟩, ⟨g2, a2, b2⟩, ⟨g3, a3, b3⟩, ⟨f4, a4, b4⟩, ⟨f5, a5, b5⟩, ⟨f6, a6, b6⟩, p7, p8, z1, z2, z3, z4⟩ := hR
  exact ⟨⟨u, h62, ht, hm⟩, ⟨g1, (he _ (by decide) (by decide) (by decide)).trans a1, b1⟩, ⟨g2, (he _ (by decide) (by decide) (by decide)).trans a2, b2⟩, ⟨g3, (he _ (by decide) (by decide) (by decide)).trans a3, b3⟩, ⟨f4, (he _ (by decide) (by decide) (by decide)).trans a4, b4⟩, ⟨f5, (he _ (by decide) (by decide) (by decide)).trans a5, b5⟩, ⟨f6, (he _ (by decide) (by decide) (by decide)).trans a6, b6⟩, ⟨f, h69, hb⟩, hr, z1, z2, hF, fun j hj => (he _ (by omega) (by omega) (by omega)).trans (z4 j hj)⟩
theorem ap9_2 {w : Wt} {G h : Hp} {S Z : Sc} {sv : Bool} {F : Sf} {x a : Int32} {j : Nat} {l4 : Option Value} {X : CT} {zR : Nat × Nat} {o : Oc} {P : Wt → Hp → Prop} (C : Cx X mX9_append [] 1 zR o P) (hR : RF G h 0 S sv Z F) (hj : j < 4) (hb : okB (byN x j)) (hF : F.1 + nzB (byN x j) ≤ 40) (K : ∀ h' l4, RF G h' 0 S sv Z (addF F (byN x j)) → V X (0, 0) w h' 85 [some (.ref 62), some (.int x), some (.int a), some (.int (shI j)), l4] []) : V X (0, 0) w h 85 [some (.ref 62), some (.int x), some (.int a), some (.int (shI (j + 1))), l4] [] := by
  obtain ⟨u, o0, o1, o2⟩ := hR.o
  have hl := byN_lt x j
  have hdec : nI (8 * j) + (-8) = shI j := by unfold shI; rw [Int32.sub_eq_add_neg]; rfl
  have hfo := hR.fo
  obtain ⟨f, hf, hB⟩ := hR.bf
  rw [shI_s]
  refine v_iload_n C (oX9_append.at 48 rfl) rfl ?_
  refine v_if_ltN C (oX9_append.at 49 rfl) (tgt := 133) (by decide) (by omega) ?_
  refine v_iload_n C (oX9_append.at 50 rfl) rfl ?_
  refine v_iload_n C (oX9_append.at 51 rfl) rfl ?_
  refine v_ishr C (oX9_append.at 52 rfl) ?_
  refine v_sipush C (oX9_append.at 53 rfl) (v := nI 255) rfl ?_
  refine v_iand C (oX9_append.at 54 rfl) ?_
  rw [sar_b x hj]
  refine v_istore C (oX9_append.at 55 rfl) rfl ?_
  refine v_iload C (oX9_append.at 56 rfl) rfl ?_
  dsimp only [sto1, sto2, killL]
  unfold addF at K
  refine v_if_neN C (oX9_append.at 57 rfl) (tgt := 106) (by decide) (by omega) (fun hc => ?_) (fun hc => ?_)
  · rw [if_neg hc] at K
    have hz : nzB (byN x j) = 1 := if_neg hc
    refine v_aload_n C (oX9_append.at 59 rfl) rfl ?_
    refine v_getf C (oX9_append.at 60 rfl) fX9_35 o0 rfl ?_
    refine v_aload_n C (oX9_append.at 61 rfl) rfl ?_
    refine v_getf C (oX9_append.at 62 rfl) fX9_149 o0 (congrArg (fun z => some (Value.int z)) (o2.2.2.2.2.1)) ?_
    refine v_iload C (oX9_append.at 63 rfl) rfl ?_
    refine v_iast C (oX9_append.at 64 rfl) hf (by decide) rfl (by omega) ?_
    refine v_aload_n C (oX9_append.at 65 rfl) rfl ?_
    refine v_dup C (oX9_append.at 66 rfl) rfl ?_
    refine v_getf C (oX9_append.at 67 rfl) fX9_149 ((hu_n _ _ (by decide)).trans o0) (congrArg (fun z => some (Value.int z)) (o2.2.2.2.2.1)) ?_
    refine v_iconst C (oX9_append.at 68 rfl) (v := nI 1) rfl ?_
    refine v_iaddN C (oX9_append.at 69 rfl) ?_
    refine v_put9 C (oX9_append.at 70 rfl) fX9_149 p9_12 ((hu_n _ _ (by decide)).trans o0) ⟨rfl, rfl, rfl⟩ ?_
    refine v_iinc C (oX9_append.at 71 rfl) rfl hdec ?_
    refine v_goto C (oX9_append.at 72 rfl) (tgt := 85) (by decide) ?_
    dsimp only [sto1, sto2, killL]
    refine K _ _ (hR.set_b (F' := (F.1 + 1, F.2.1, F.2.2.1, updN F.2.2.2 F.1 (byN x j))) (hu_s _ _ _) o1 ⟨o2.1, o2.2.1, o2.2.2.1, o2.2.2.2.1, rfl, o2.2.2.2.2.2⟩ ((hu_n _ _ (by decide)).trans (hu_s _ _ _)) (fun i hi => ?_) ⟨show F.1 + 1 ≤ 40 by omega, fun i hi => ?_, hfo.2.2⟩ (fun j h1 h2 _ => (hu_n _ _ h1).trans (hu_n _ _ h2)) (hR.2.2.2.2.2.2.2.2.1.eq (fun j _ _ => (hu_n _ _ (by omega)).trans (hu_n _ _ (by omega)))))
    · have hi : i < F.1 + 1 := hi
      show _ = nI (updN F.2.2.2 F.1 (byN x j) i)
      unfold updN
      by_cases e9 : i = F.1
      · rw [if_pos e9, e9, pk_us]
      · rw [if_neg e9, pk_un e9]; exact hB i (by omega)
    · show 33 ≤ updN _ _ _ i ∧ updN _ _ _ i ≤ 126
      have hi : i < F.1 + 1 := hi
      unfold updN
      by_cases e9 : i = F.1
      · rw [if_pos e9]
        rcases hb with z | z
        · exact absurd z hc
        · exact z
      · rw [if_neg e9]; exact hfo.2.1 i (by omega)
  · rw [if_pos hc] at K
    refine v_goto C (oX9_append.at 58 rfl) (tgt := 127) (by decide) ?_
    refine v_iinc C (oX9_append.at 71 rfl) rfl hdec ?_
    refine v_goto C (oX9_append.at 72 rfl) (tgt := 85) (by decide) ?_
    dsimp only [sto1, sto2, killL]
    exact K _ _ hR
theorem k9_appendX {w : Wt} {G h : Hp} {th : Nat} {S Z : Sc} {sv : Bool} {F : Sf} {x : Int32} (hR : RF G h th S sv Z F) (hx : ¬ ok4 x) : ConN mX9_append 1 (0, 0) w [.ref 62, .int x] h (.inl (some (.int (nI 0)))) (fun h' => RF G h' 1 S sv Z F) := by
  refine conI (by decide +kernel) ⟨fun _ => rfl, rfl, by simp⟩ (fun X C => ?_)
  change V X (0, 0) w h 0 [some (.ref 62), some (.int x), none, none, none] []
  refine v_aload_n C (oX9_append.at 0 rfl) rfl ?_
  refine v_iconst C (oX9_append.at 1 rfl) (v := nI 0) rfl ?_
  refine v_thr C (oX9_append.at 2 rfl) fX9_96 hR (fun h1 u1 hR1 q0 qt qm => ?_)
  refine v_iconst C (oX9_append.at 3 rfl) (v := nI 0) rfl ?_
  refine v_istore_n C (oX9_append.at 4 rfl) rfl ?_
  refine v_bipush C (oX9_append.at 5 rfl) (v := nI 24) rfl ?_
  refine v_istore_n C (oX9_append.at 6 rfl) rfl ?_
  dsimp only [sto1, sto2, killL]
  rw [show nI 24 = shI 4 from by decide]
  by_cases h3 : okB (byN x 3)
  · refine ap9_1 C (by decide) h3 (fun l4 => ?_)
    by_cases h2 : okB (byN x 2)
    · refine ap9_1 C (by decide) h2 (fun l4 => ?_)
      by_cases h1 : okB (byN x 1)
      · refine ap9_1 C (by decide) h1 (fun l4 => ?_)
        exact ap9_1x C hR1 (by decide) (fun h0 => hx ⟨h3, h2, h1, h0⟩) (fun h' hh => ⟨rfl, hh⟩)
      · exact ap9_1x C hR1 (by decide) h1 (fun h' hh => ⟨rfl, hh⟩)
    · exact ap9_1x C hR1 (by decide) h2 (fun h' hh => ⟨rfl, hh⟩)
  · exact ap9_1x C hR1 (by decide) h3 (fun h' hh => ⟨rfl, hh⟩)
theorem nz4_le (x : Int32) : nz4 x ≤ 4 := by
  have h1 : ∀ v, nzB v ≤ 1 := fun v => by unfold nzB; split <;> omega
  have := h1 (byN x 3)
  have := h1 (byN x 2)
  have := h1 (byN x 1)
  have := h1 (byN x 0)
  unfold nz4
  omega
theorem k9_appendF {w : Wt} {G h : Hp} {th : Nat} {S Z : Sc} {sv : Bool} {F : Sf} {x : Int32} (hR : RF G h th S sv Z F) (hx : ok4 x) (hF : 40 < F.1 + nz4 x) : ConN mX9_append 1 (0, 0) w [.ref 62, .int x] h (.inl (some (.int (nI 0)))) (fun h' => RF G h' 2 S sv Z F) := by
  obtain ⟨h3, h2, h1', h0⟩ := hx
  have hn := nz4_le x
  have hfo := hR.fo.1
  refine conI (by decide +kernel) ⟨fun _ => rfl, rfl, by simp⟩ (fun X C => ?_)
  change V X (0, 0) w h 0 [some (.ref 62), some (.int x), none, none, none] []
  refine v_aload_n C (oX9_append.at 0 rfl) rfl ?_
  refine v_iconst C (oX9_append.at 1 rfl) (v := nI 0) rfl ?_
  refine v_thr C (oX9_append.at 2 rfl) fX9_96 hR (fun h1 u1 hR1 q0 qt qm => ?_)
  refine v_iconst C (oX9_append.at 3 rfl) (v := nI 0) rfl ?_
  refine v_istore_n C (oX9_append.at 4 rfl) rfl ?_
  refine v_bipush C (oX9_append.at 5 rfl) (v := nI 24) rfl ?_
  refine v_istore_n C (oX9_append.at 6 rfl) rfl ?_
  dsimp only [sto1, sto2, killL]
  rw [show nI 24 = shI 4 from by decide]
  refine ap9_1 C (by decide) h3 (fun l4 => ?_)
  refine ap9_1 C (by decide) h2 (fun l4 => ?_)
  refine ap9_1 C (by decide) h1' (fun l4 => ?_)
  refine ap9_1 C (by decide) h0 (fun l4 => ?_)
  unfold nz4 at hF hn
  refine v_iload_n C (oX9_append.at 7 rfl) rfl ?_
  refine v_if_lt C (oX9_append.at 8 rfl) (tgt := 65) (by decide) (fun hc => ?_) (fun hc => absurd (by decide) hc)
  refine v_aload_n C (oX9_append.at 36 rfl) rfl ?_
  refine v_getf C (oX9_append.at 37 rfl) fX9_149 q0 (congrArg (fun z => some (Value.int z)) (qm.2.2.2.2.1)) ?_
  refine v_iload_n C (oX9_append.at 38 rfl) rfl ?_
  refine v_iaddN C (oX9_append.at 39 rfl) ?_
  refine v_bipush C (oX9_append.at 40 rfl) (v := nI 40) rfl ?_
  refine v_icmp_leN C (oX9_append.at 41 rfl) (tgt := 82) (by decide) (by omega) (by omega) (fun hc => absurd hc (by omega)) (fun hc => ?_)
  refine v_aload_n C (oX9_append.at 42 rfl) rfl ?_
  refine v_iconst C (oX9_append.at 43 rfl) (v := nI 2) rfl ?_
  refine v_callV C (oX9_append.at 44 rfl) cX9_111 q0 (k9_noR hR1) rfl rfl rfl ⟨rfl, rfl⟩ rfl rfl (fun _ => rfl) (fun h' hp => ?_)
  dsimp only [Option.toList, List.cons_append, List.nil_append]
  exact v_iret C (oX9_append.at 45 rfl) rfl rfl ⟨Nat.le_refl _, Nat.le_refl _⟩ ⟨rfl, hp⟩
theorem k9_append {w : Wt} {G h : Hp} {th : Nat} {S Z : Sc} {sv : Bool} {F : Sf} {x : Int32} (hR : RF G h th S sv Z F) (hx : ok4 x) (hF : F.1 + nz4 x ≤ 40) : ConN mX9_append 1 (0, 0) w [.ref 62, .int x] h (.inl (some (.int (nI (add4 F x).1)))) (fun h' => RF G h' 0 S sv Z (add4 F x)) := by
  obtain ⟨h3, h2, h1', h0⟩ := hx
  have hn := nz4_le x
  have hfo := hR.fo.1
  refine conI (by decide +kernel) ⟨fun _ => rfl, rfl, by simp⟩ (fun X C => ?_)
  change V X (0, 0) w h 0 [some (.ref 62), some (.int x), none, none, none] []
  refine v_aload_n C (oX9_append.at 0 rfl) rfl ?_
  refine v_iconst C (oX9_append.at 1 rfl) (v := nI 0) rfl ?_
  refine v_thr C (oX9_append.at 2 rfl) fX9_96 hR (fun h1 u1 hR1 q0 qt qm => ?_)
  refine v_iconst C (oX9_append.at 3 rfl) (v := nI 0) rfl ?_
  refine v_istore_n C (oX9_append.at 4 rfl) rfl ?_
  refine v_bipush C (oX9_append.at 5 rfl) (v := nI 24) rfl ?_
  refine v_istore_n C (oX9_append.at 6 rfl) rfl ?_
  dsimp only [sto1, sto2, killL]
  rw [show nI 24 = shI 4 from by decide]
  refine ap9_1 C (by decide) h3 (fun l4 => ?_)
  refine ap9_1 C (by decide) h2 (fun l4 => ?_)
  refine ap9_1 C (by decide) h1' (fun l4 => ?_)
  refine ap9_1 C (by decide) h0 (fun l4 => ?_)
  unfold nz4 at hF hn
  refine v_iload_n C (oX9_append.at 7 rfl) rfl ?_
  refine v_if_lt C (oX9_append.at 8 rfl) (tgt := 65) (by decide) (fun hc => ?_) (fun hc => absurd (by decide) hc)
  refine v_aload_n C (oX9_append.at 36 rfl) rfl ?_
  refine v_getf C (oX9_append.at 37 rfl) fX9_149 q0 (congrArg (fun z => some (Value.int z)) (qm.2.2.2.2.1)) ?_
  refine v_iload_n C (oX9_append.at 38 rfl) rfl ?_
  refine v_iaddN C (oX9_append.at 39 rfl) ?_
  refine v_bipush C (oX9_append.at 40 rfl) (v := nI 40) rfl ?_
  refine v_icmp_leN C (oX9_append.at 41 rfl) (tgt := 82) (by decide) (by omega) (by omega) (fun hc => ?_) (fun hc => absurd hc (by omega))
  refine v_bipush C (oX9_append.at 46 rfl) (v := nI 24) rfl ?_
  refine v_istore_n C (oX9_append.at 47 rfl) rfl ?_
  dsimp only [sto1, sto2, killL]
  rw [show nI 24 = shI 4 from by decide]
  have l1 := addF_len F (byN x 3)
  have l2 := addF_len (addF F (byN x 3)) (byN x 2)
  have l3 := addF_len (addF (addF F (byN x 3)) (byN x 2)) (byN x 1)
  refine ap9_2 C hR1 (by decide) h3 (by omega) (fun h' l4 hR2 => ?_)
  refine ap9_2 C hR2 (by decide) h2 (by omega) (fun h' l4 hR3 => ?_)
  refine ap9_2 C hR3 (by decide) h1' (by omega) (fun h' l4 hR4 => ?_)
  refine ap9_2 C hR4 (by decide) h0 (by omega) (fun h' l4 hR5 => ?_)
  obtain ⟨u5, r0, r1, r2⟩ := hR5.o
  refine v_iload_n C (oX9_append.at 48 rfl) rfl ?_
  refine v_if_lt C (oX9_append.at 49 rfl) (tgt := 133) (by decide) (fun hc => ?_) (fun hc => absurd (by decide) hc)
  refine v_aload_n C (oX9_append.at 73 rfl) rfl ?_
  refine v_getf C (oX9_append.at 74 rfl) fX9_149 r0 (congrArg (fun z => some (Value.int z)) (r2.2.2.2.2.1)) ?_
  exact v_iret C (oX9_append.at 75 rfl) rfl rfl ⟨Nat.le_refl _, Nat.le_refl _⟩ ⟨rfl, hR5⟩
