/-! ===== append ===== -/
/-- a byte of an int -/
def byN (x : Int32) (j : Nat) : Nat := x.toBitVec.toNat / 2 ^ (8 * j) % 256
theorem byN_lt (x : Int32) (j : Nat) : byN x j < 256 := Nat.mod_lt _ (by decide)
theorem i32_n (x : Int32) : x = nI x.toBitVec.toNat := Int32.toBitVec_inj.mp (by rw [bv_nI]; simp)
theorem k_byteAt {w : Wt} {h : Hp} {x : Int32} {j : Nat} (hj : j < 4) : ConN mX8_byteAt 0 (0, 0) w [.int x, .int (nI (8 * j))] h (.inl (some (.int (nI (byN x j))))) (fun h' => h' = h) := by
  have e1 : (x.toUInt32 >>> ((nI (8 * j)).toUInt32 &&& Int32.toUInt32 31)).toInt32 &&& nI 255 = nI (byN x j) := by
    conv => lhs; rw [i32_n x]
    rw [pk_ushrN x.toBitVec.isLt _ (8 * j) (sh31u _ (by omega)), nI_and, show (255 : Nat) = 2 ^ 8 - 1 from rfl, Nat.and_two_pow_sub_one_eq_mod]
    rfl
  rw [← e1]
  refine conI (by decide +kernel) ⟨fun _ => rfl, rfl, by simp⟩ (fun X C => ?_)
  change V X (0, 0) w h 0 [some (.int x), some (.int (nI (8 * j)))] []
  refine v_iload_n C (oX8_byteAt.at 0 rfl) rfl ?_
  refine v_iload_n C (oX8_byteAt.at 1 rfl) rfl ?_
  refine v_iushr C (oX8_byteAt.at 2 rfl) ?_
  refine v_sipush C (oX8_byteAt.at 3 rfl) (v := nI 255) rfl ?_
  refine v_iand C (oX8_byteAt.at 4 rfl) ?_
  exact v_iret C (oX8_byteAt.at 5 rfl) rfl rfl ⟨Nat.le_refl _, Nat.le_refl _⟩ ⟨rfl, rfl⟩
def shI (j : Nat) : Int32 := nI (8 * j) - nI 8
theorem shI_s (j : Nat) : shI (j + 1) = nI (8 * j) := by unfold shI; rw [pk_sub (by omega)]; congr 1
/-- a byte that may be appended -/
def okB (v : Nat) : Prop := v = 0 ∨ (33 ≤ v ∧ v ≤ 126)
def nzB (v : Nat) : Nat := if v = 0 then 0 else 1
theorem ap_1 {w : Wt} {h : Hp} {x : Int32} {a j : Nat} {l4 : Option Value} {X : CT} {d : Nat} {zR : Nat × Nat} {o : Oc} {P : Wt → Hp → Prop} (C : Cx X mX8_append [] (d + 1) zR o P) (hj : j < 4) (hb : okB (byN x j)) (K : ∀ l4, V X (0, 0) w h 5 [some (.ref 0), some (.int x), some (.int (nI (a + nzB (byN x j)))), some (.int (shI j)), l4] []) : V X (0, 0) w h 5 [some (.ref 0), some (.int x), some (.int (nI a)), some (.int (shI (j + 1))), l4] [] := by
  have hl := byN_lt x j
  have n1 : Nat.blt 0 (d + 1) = true := by simp [Nat.blt]
  have hdec : nI (8 * j) + (-8) = shI j := by unfold shI; rw [Int32.sub_eq_add_neg]; rfl
  rw [shI_s]
  refine v_iload_n C (oX8_append.at 4 rfl) rfl ?_
  refine v_if_ltN C (oX8_append.at 5 rfl) (tgt := 64) (by decide) (by omega) ?_
  refine v_iload_n C (oX8_append.at 6 rfl) rfl ?_
  refine v_iload_n C (oX8_append.at 7 rfl) rfl ?_
  refine v_callS C (oX8_append.at 8 rfl) cX8_145 (k_byteAt hj) rfl n1 rfl ⟨rfl, rfl⟩ rfl rfl (fun _ => rfl) (fun h' hp => ?_)
  rw [show h' = _ from hp]
  dsimp only [Option.toList, List.cons_append, List.nil_append]
  have fin : V X (0, 0) w h 45 [some (.ref 0), some (.int x), some (.int (nI a)), some (.int (nI (8 * j))), some (.int (nI (byN x j)))] [] := by
    unfold nzB at K
    refine v_iload_n C (oX8_append.at 23 rfl) rfl ?_
    refine v_iload C (oX8_append.at 24 rfl) rfl ?_
    refine v_if_neN C (oX8_append.at 25 rfl) (tgt := 55) (by decide) (by omega) (fun hc => ?_) (fun hc => ?_)
    · rw [if_neg hc] at K
      refine v_iconst C (oX8_append.at 28 rfl) (v := nI 1) rfl ?_
      refine v_iaddN C (oX8_append.at 29 rfl) ?_
      refine v_istore_n C (oX8_append.at 30 rfl) rfl ?_
      dsimp only [sto1, sto2, killL]
      refine v_iinc C (oX8_append.at 31 rfl) rfl hdec ?_
      refine v_goto C (oX8_append.at 32 rfl) (tgt := 5) (by decide) ?_
      dsimp only [sto1, sto2, killL]
      exact K _
    · rw [if_pos hc] at K
      refine v_iconst C (oX8_append.at 26 rfl) (v := nI 0) rfl ?_
      refine v_goto C (oX8_append.at 27 rfl) (tgt := 56) (by decide) ?_
      refine v_iaddN C (oX8_append.at 29 rfl) ?_
      refine v_istore_n C (oX8_append.at 30 rfl) rfl ?_
      dsimp only [sto1, sto2, killL]
      refine v_iinc C (oX8_append.at 31 rfl) rfl hdec ?_
      refine v_goto C (oX8_append.at 32 rfl) (tgt := 5) (by decide) ?_
      dsimp only [sto1, sto2, killL]
      exact K _
  refine v_istore C (oX8_append.at 9 rfl) rfl ?_
  dsimp only [sto1, sto2, killL]
  refine v_iload C (oX8_append.at 10 rfl) rfl ?_
  refine v_if_eqN C (oX8_append.at 11 rfl) (tgt := 45) (by decide) (by omega) (fun hc => ?_) (fun hc => ?_)
  · exact fin
  · refine v_iload C (oX8_append.at 12 rfl) rfl ?_
    refine v_bipush C (oX8_append.at 13 rfl) (v := nI 33) rfl ?_
    refine v_icmp_ltN C (oX8_append.at 14 rfl) (tgt := 35) (by decide) (by omega) (by omega) (fun hc => ?_) (fun hc => ?_)
    · rcases hb with z | z <;> exact absurd hc (by omega)
    · refine v_iload C (oX8_append.at 15 rfl) rfl ?_
      refine v_bipush C (oX8_append.at 16 rfl) (v := nI 126) rfl ?_
      refine v_icmp_leN C (oX8_append.at 17 rfl) (tgt := 45) (by decide) (by omega) (by omega) (fun hc => ?_) (fun hc => ?_)
      · exact fin
      · rcases hb with z | z <;> exact absurd hc (by omega)
theorem ap_1x {w : Wt} {h : Hp} {x : Int32} {a j : Nat} {l4 : Option Value} {X : CT} {d : Nat} {P : Wt → Hp → Prop} (C : Cx X mX8_append [] (d + 1) (1, 6) (.inr EIAE) P) (hj : j < 4) (hb : ¬ okB (byN x j)) (hP : P w h) : V X (0, 0) w h 5 [some (.ref 0), some (.int x), some (.int (nI a)), some (.int (shI (j + 1))), l4] [] := by
  have hl := byN_lt x j
  have n1 : Nat.blt 0 (d + 1) = true := by simp [Nat.blt]
  unfold okB at hb
  rw [shI_s]
  refine v_iload_n C (oX8_append.at 4 rfl) rfl ?_
  refine v_if_ltN C (oX8_append.at 5 rfl) (tgt := 64) (by decide) (by omega) ?_
  refine v_iload_n C (oX8_append.at 6 rfl) rfl ?_
  refine v_iload_n C (oX8_append.at 7 rfl) rfl ?_
  refine v_callS C (oX8_append.at 8 rfl) cX8_145 (k_byteAt hj) rfl n1 rfl ⟨rfl, rfl⟩ rfl rfl (fun _ => rfl) (fun h' hp => ?_)
  rw [show h' = _ from hp]
  dsimp only [Option.toList, List.cons_append, List.nil_append]
  have thr : V X (0, 0) w h 35 [some (.ref 0), some (.int x), some (.int (nI a)), some (.int (nI (8 * j))), some (.int (nI (byN x j)))] [] := v_throwS C rfl tIAE sr149 (oX8_append.at 18 rfl) (oX8_append.at 19 rfl) (oX8_append.at 20 rfl) (oX8_append.at 21 rfl) (oX8_append.at 22 rfl) rfl rfl hP
  refine v_istore C (oX8_append.at 9 rfl) rfl ?_
  dsimp only [sto1, sto2, killL]
  refine v_iload C (oX8_append.at 10 rfl) rfl ?_
  refine v_if_eqN C (oX8_append.at 11 rfl) (tgt := 45) (by decide) (by omega) (fun hc => ?_) (fun hc => ?_)
  · exact absurd (Or.inl hc) hb
  · refine v_iload C (oX8_append.at 12 rfl) rfl ?_
    refine v_bipush C (oX8_append.at 13 rfl) (v := nI 33) rfl ?_
    refine v_icmp_ltN C (oX8_append.at 14 rfl) (tgt := 35) (by decide) (by omega) (by omega) (fun hc => ?_) (fun hc => ?_)
    · exact thr
    · refine v_iload C (oX8_append.at 15 rfl) rfl ?_
      refine v_bipush C (oX8_append.at 16 rfl) (v := nI 126) rfl ?_
      refine v_icmp_leN C (oX8_append.at 17 rfl) (tgt := 45) (by decide) (by omega) (by omega) (fun hc => ?_) (fun hc => ?_)
      · exact absurd (Or.inr ⟨by omega, by omega⟩) hb
      · exact thr
def addF (F : Sf) (v : Nat) : Sf := if v = 0 then F else (F.1 + 1, F.2.1, F.2.2.1, updN F.2.2.2 F.1 v)
theorem addF_len (F : Sf) (v : Nat) : (addF F v).1 = F.1 + nzB v := by unfold addF nzB; split <;> rfl
theorem ap_2 {w : Wt} {G h : Hp} {S Z : Sc} {sv : Bool} {F : Sf} {x : Int32} {a : Value} {j : Nat} {l4 : Option Value} {X : CT} {d : Nat} {zR : Nat × Nat} {o : Oc} {P : Wt → Hp → Prop} (C : Cx X mX8_append [] (d + 1) zR o P) (hP : PA G h S sv Z F) (hj : j < 4) (hb : okB (byN x j)) (hF : F.1 + nzB (byN x j) ≤ 40) (K : ∀ h' l4, PA G h' S sv Z (addF F (byN x j)) → V X (0, 0) w h' 91 [some (.ref 0), some (.int x), some a, some (.int (shI j)), l4] []) (ha : ∃ n, a = .int n) : V X (0, 0) w h 91 [some (.ref 0), some (.int x), some a, some (.int (shI (j + 1))), l4] [] := by
  obtain ⟨an, rfl⟩ := ha
  have hl := byN_lt x j
  have n1 : Nat.blt 0 (d + 1) = true := by simp [Nat.blt]
  have hdec : nI (8 * j) + (-8) = shI j := by unfold shI; rw [Int32.sub_eq_add_neg]; rfl
  obtain ⟨c, t, hF1⟩ := hP.fm
  have hfo := hP.fo
  rw [shI_s]
  refine v_iload_n C (oX8_append.at 47 rfl) rfl ?_
  refine v_if_ltN C (oX8_append.at 48 rfl) (tgt := 122) (by decide) (by omega) ?_
  refine v_iload_n C (oX8_append.at 49 rfl) rfl ?_
  refine v_iload_n C (oX8_append.at 50 rfl) rfl ?_
  refine v_callS C (oX8_append.at 51 rfl) cX8_145 (k_byteAt hj) rfl n1 rfl ⟨rfl, rfl⟩ rfl rfl (fun _ => rfl) (fun h' hp => ?_)
  rw [show h' = _ from hp]
  dsimp only [Option.toList, List.cons_append, List.nil_append]
  refine v_istore C (oX8_append.at 52 rfl) rfl ?_
  dsimp only [sto1, sto2, killL]
  unfold addF at K
  refine v_iload C (oX8_append.at 53 rfl) rfl ?_
  refine v_if_eqN C (oX8_append.at 54 rfl) (tgt := 116) (by decide) (by omega) (fun hc => ?_) (fun hc => ?_)
  · rw [if_pos hc] at K
    refine v_iinc C (oX8_append.at 59 rfl) rfl hdec ?_
    refine v_goto C (oX8_append.at 60 rfl) (tgt := 91) (by decide) ?_
    dsimp only [sto1, sto2, killL]
    exact K _ _ hP
  · rw [if_neg hc] at K
    have hz : nzB (byN x j) = 1 := if_neg hc
    refine v_aload_n C (oX8_append.at 55 rfl) rfl ?_
    refine v_getf C (oX8_append.at 56 rfl) fX8_36 hP.ob rfl ?_
    refine v_iload C (oX8_append.at 57 rfl) rfl ?_
    refine v_callV C (oX8_append.at 58 rfl) cX8_159 hF1.o (k_add hF1 (by omega)) rfl n1 rfl ⟨rfl, rfl⟩ rfl rfl (fun _ => rfl) (fun h' hp => ?_)
    dsimp only [Option.toList, List.cons_append, List.nil_append]
    refine v_iinc C (oX8_append.at 59 rfl) rfl hdec ?_
    refine v_goto C (oX8_append.at 60 rfl) (tgt := 91) (by decide) ?_
    dsimp only [sto1, sto2, killL]
    refine K _ _ (hP.set_fm (F' := (F.1 + 1, F.2.1, F.2.2.1, updN F.2.2.2 F.1 (byN x j))) ⟨show F.1 + 1 ≤ 40 by omega, fun i hi => ?_, hfo.2.2⟩ (fun j hj => hp.2 j (by omega)) ⟨_, _, hp.1⟩)
    show 33 ≤ updN _ _ _ i ∧ updN _ _ _ i ≤ 126
    have hi : i < F.1 + 1 := hi
    unfold updN
    by_cases e9 : i = F.1
    · rw [if_pos e9]
      rcases hb with z | z
      · exact absurd z hc
      · exact z
    · rw [if_neg e9]; exact hfo.2.1 i (by omega)
def nz4 (x : Int32) : Nat := 0 + nzB (byN x 3) + nzB (byN x 2) + nzB (byN x 1) + nzB (byN x 0)
def ok4 (x : Int32) : Prop := okB (byN x 3) ∧ okB (byN x 2) ∧ okB (byN x 1) ∧ okB (byN x 0)
def add4 (F : Sf) (x : Int32) : Sf := addF (addF (addF (addF F (byN x 3)) (byN x 2)) (byN x 1)) (byN x 0)
theorem k8_appendX {w : Wt} {h : Hp} {x : Int32} (hx : ¬ ok4 x) : ConN mX8_append 1 (1, 6) w [.ref 0, .int x] h (.inr EIAE) (fun h' => h' = h) := by
  refine conI (by decide +kernel) ⟨fun _ => rfl, rfl, by simp⟩ (fun X C => ?_)
  change V X (0, 0) w h 0 [some (.ref 0), some (.int x), none, none, none] []
  refine v_iconst C (oX8_append.at 0 rfl) (v := nI 0) rfl ?_
  refine v_istore_n C (oX8_append.at 1 rfl) rfl ?_
  refine v_bipush C (oX8_append.at 2 rfl) (v := nI 24) rfl ?_
  refine v_istore_n C (oX8_append.at 3 rfl) rfl ?_
  dsimp only [sto1, sto2, killL]
  rw [show nI 24 = shI 4 from by decide]
  by_cases h3 : okB (byN x 3)
  · refine ap_1 C (by decide) h3 (fun l4 => ?_)
    by_cases h2 : okB (byN x 2)
    · refine ap_1 C (by decide) h2 (fun l4 => ?_)
      by_cases h1 : okB (byN x 1)
      · refine ap_1 C (by decide) h1 (fun l4 => ?_)
        by_cases h0 : okB (byN x 0)
        · exact absurd ⟨h3, h2, h1, h0⟩ hx
        · exact ap_1x C (by decide) h0 ⟨rfl, rfl⟩
      · exact ap_1x C (by decide) h1 ⟨rfl, rfl⟩
    · exact ap_1x C (by decide) h2 ⟨rfl, rfl⟩
  · exact ap_1x C (by decide) h3 ⟨rfl, rfl⟩
theorem nzB_le (v : Nat) : nzB v ≤ 1 := by unfold nzB; split <;> omega
theorem k8_appendF {w : Wt} {G h : Hp} {S Z : Sc} {sv : Bool} {F : Sf} {x : Int32} (hP : PA G h S sv Z F) (hx : ok4 x) (hF : 40 < F.1 + nz4 x) : ConN mX8_append 1 (1, 6) w [.ref 0, .int x] h (.inr EISE) (fun h' => h' = h) := by
  obtain ⟨c, t, hF1⟩ := hP.fm
  have hfo := hP.fo.1
  have z3 := nzB_le (byN x 3)
  have z2 := nzB_le (byN x 2)
  have z1 := nzB_le (byN x 1)
  have z0 := nzB_le (byN x 0)
  refine conI (by decide +kernel) ⟨fun _ => rfl, rfl, by simp⟩ (fun X C => ?_)
  change V X (0, 0) w h 0 [some (.ref 0), some (.int x), none, none, none] []
  refine v_iconst C (oX8_append.at 0 rfl) (v := nI 0) rfl ?_
  refine v_istore_n C (oX8_append.at 1 rfl) rfl ?_
  refine v_bipush C (oX8_append.at 2 rfl) (v := nI 24) rfl ?_
  refine v_istore_n C (oX8_append.at 3 rfl) rfl ?_
  dsimp only [sto1, sto2, killL]
  rw [show nI 24 = shI 4 from by decide]
  refine ap_1 C (by decide) hx.1 (fun l4 => ?_)
  refine ap_1 C (by decide) hx.2.1 (fun l4 => ?_)
  refine ap_1 C (by decide) hx.2.2.1 (fun l4 => ?_)
  refine ap_1 C (by decide) hx.2.2.2 (fun l4 => ?_)
  refine v_iload_n C (oX8_append.at 4 rfl) rfl ?_
  refine v_if_lt C (oX8_append.at 5 rfl) (tgt := 64) (by decide) (fun _ => ?_) (fun hc => absurd (by decide) hc)
  unfold nz4 at hF
  refine v_aload_n C (oX8_append.at 33 rfl) rfl ?_
  refine v_getf C (oX8_append.at 34 rfl) fX8_36 hP.ob rfl ?_
  refine v_getf C (oX8_append.at 35 rfl) fX8_151 hF1.o rfl ?_
  refine v_iload_n C (oX8_append.at 36 rfl) rfl ?_
  refine v_iaddN C (oX8_append.at 37 rfl) ?_
  refine v_bipush C (oX8_append.at 38 rfl) (v := nI 40) rfl ?_
  refine v_icmp_leN C (oX8_append.at 39 rfl) (tgt := 88) (by decide) (by omega) (by omega) (fun hc => ?_) (fun hc => ?_)
  · exact absurd hc (by omega)
  · exact v_throwS C rfl tISE sr156 (oX8_append.at 40 rfl) (oX8_append.at 41 rfl) (oX8_append.at 42 rfl) (oX8_append.at 43 rfl) (oX8_append.at 44 rfl) rfl rfl ⟨rfl, rfl⟩
theorem k8_append {w : Wt} {G h : Hp} {S Z : Sc} {sv : Bool} {F : Sf} {x : Int32} (hP : PA G h S sv Z F) (hx : ok4 x) (hF : F.1 + nz4 x ≤ 40) : ConN mX8_append 1 (0, 0) w [.ref 0, .int x] h (.inl (some (.int (nI (add4 F x).1)))) (fun h' => PA G h' S sv Z (add4 F x)) := by
  obtain ⟨c, t, hF1⟩ := hP.fm
  refine conI (by decide +kernel) ⟨fun _ => rfl, rfl, by simp⟩ (fun X C => ?_)
  change V X (0, 0) w h 0 [some (.ref 0), some (.int x), none, none, none] []
  refine v_iconst C (oX8_append.at 0 rfl) (v := nI 0) rfl ?_
  refine v_istore_n C (oX8_append.at 1 rfl) rfl ?_
  refine v_bipush C (oX8_append.at 2 rfl) (v := nI 24) rfl ?_
  refine v_istore_n C (oX8_append.at 3 rfl) rfl ?_
  dsimp only [sto1, sto2, killL]
  rw [show nI 24 = shI 4 from by decide]
  refine ap_1 C (by decide) hx.1 (fun l4 => ?_)
  refine ap_1 C (by decide) hx.2.1 (fun l4 => ?_)
  refine ap_1 C (by decide) hx.2.2.1 (fun l4 => ?_)
  refine ap_1 C (by decide) hx.2.2.2 (fun l4 => ?_)
  refine v_iload_n C (oX8_append.at 4 rfl) rfl ?_
  refine v_if_lt C (oX8_append.at 5 rfl) (tgt := 64) (by decide) (fun _ => ?_) (fun hc => absurd (by decide) hc)
  have hn4 : nz4 x = 0 + nzB (byN x 3) + nzB (byN x 2) + nzB (byN x 1) + nzB (byN x 0) := rfl
  refine v_aload_n C (oX8_append.at 33 rfl) rfl ?_
  refine v_getf C (oX8_append.at 34 rfl) fX8_36 hP.ob rfl ?_
  refine v_getf C (oX8_append.at 35 rfl) fX8_151 hF1.o rfl ?_
  refine v_iload_n C (oX8_append.at 36 rfl) rfl ?_
  refine v_iaddN C (oX8_append.at 37 rfl) ?_
  refine v_bipush C (oX8_append.at 38 rfl) (v := nI 40) rfl ?_
  refine v_icmp_leN C (oX8_append.at 39 rfl) (tgt := 88) (by decide) (by omega) (by omega) (fun hc => ?_) (fun hc => ?_)
  · refine v_bipush C (oX8_append.at 45 rfl) (v := nI 24) rfl ?_
    refine v_istore_n C (oX8_append.at 46 rfl) rfl ?_
    dsimp only [sto1, sto2, killL]
    rw [show nI 24 = shI 4 from by decide]
    refine ap_2 C hP (by decide) hx.1 (by omega) (fun h1 l4 hP1 => ?_) ⟨_, rfl⟩
    refine ap_2 C hP1 (by decide) hx.2.1 (by rw [addF_len]; omega) (fun h2 l4 hP2 => ?_) ⟨_, rfl⟩
    refine ap_2 C hP2 (by decide) hx.2.2.1 (by rw [addF_len, addF_len]; omega) (fun h3 l4 hP3 => ?_) ⟨_, rfl⟩
    refine ap_2 C hP3 (by decide) hx.2.2.2 (by rw [addF_len, addF_len, addF_len]; omega) (fun h4 l4 hP4 => ?_) ⟨_, rfl⟩
    obtain ⟨c4, t4, hF4⟩ := hP4.fm
    refine v_iload_n C (oX8_append.at 47 rfl) rfl ?_
    refine v_if_lt C (oX8_append.at 48 rfl) (tgt := 122) (by decide) (fun _ => ?_) (fun hc => absurd (by decide) hc)
    refine v_aload_n C (oX8_append.at 61 rfl) rfl ?_
    refine v_getf C (oX8_append.at 62 rfl) fX8_36 hP4.ob rfl ?_
    refine v_getf C (oX8_append.at 63 rfl) fX8_151 hF4.o rfl ?_
    exact v_iret C (oX8_append.at 64 rfl) rfl rfl ⟨Nat.le_refl _, Nat.le_refl _⟩ ⟨rfl, hP4⟩
  · exact absurd hc (by omega)
