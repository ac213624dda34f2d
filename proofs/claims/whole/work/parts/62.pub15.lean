/-! ===== append ===== -/
/-- a byte of an int -/
def byN (x : Int32) (j : Nat) : Nat := x.toBitVec.toNat / 2 ^ (8 * j) % 256
theorem byN_lt (x : Int32) (j : Nat) : byN x j < 256 := Nat.mod_lt _ (by decide)
theorem i32_n (x : Int32) : x = nI x.toBitVec.toNat := Int32.toBitVec_inj.mp (by rw [bv_nI]; simp)
theorem k_byteAt {w : Wt} {h : Hp} {x : Int32} {j : Nat} (hj : j < 4) : ConN mX8_byteAt 0 (0, 0) w [.int x, .int (nI (8 * j))] h (.inl (some (.int (nI (byN x j))))) (fun h' => h' = h) := by
  have e1 : (x.toUInt32 >>> ((nI (8 * j)).toUInt32 &&& Int32.toUInt32 31)).toInt32 &&& nI 255 = nI (byN x j) := by
    conv => lhs; rw [i32_n x]
    rw [pk_ushrN x.toBitVec.isLt _ (8 * j) (sh31u _ (by omega)), nI_and, show (255 : Nat) = 2 ^ 8 - 1 from rfl, Nat.and_two_pow_sub_one_eq_mod]
    rfl
  rw [← e1]
  refine conI (by decide +kernel) ⟨fun _ => rfl, rfl, by simp⟩ (fun X C => ?_)
  change V X (0, 0) w h 0 [some (.int x), some (.int (nI (8 * j)))] []
  refine v_iload_n C (oX8_byteAt.at 0 rfl) rfl ?_
  refine v_iload_n C (oX8_byteAt.at 1 rfl) rfl ?_
  refine v_iushr C (oX8_byteAt.at 2 rfl) ?_
  refine v_sipush C (oX8_byteAt.at 3 rfl) (v := nI 255) rfl ?_
  refine v_iand C (oX8_byteAt.at 4 rfl) ?_
  exact v_iret C (oX8_byteAt.at 5 rfl) rfl rfl ⟨Nat.le_refl _, Nat.le_refl _⟩ ⟨rfl, rfl⟩
def shI (j : Nat) : Int32 := nI (8 * j) - nI 8
theorem shI_s (j : Nat) : shI (j + 1) = nI (8 * j) := by unfold shI; rw [pk_sub (by omega)]; congr 1
/-- a byte that may be appended -/
def okB (v : Nat) : Prop := v = 0 ∨ (33 ≤ v ∧ v ≤ 126)
def nzB (v : Nat) : Nat := if v = 0 then 0 else 1
theorem ap_1 {w : Wt} {h : Hp} {x : Int32} {a j : Nat} {l4 : Option Value} {X : CT} {d : Nat} {zR : Nat × Nat} {o : Oc} {P : Wt → Hp → Prop} (C : Cx X mX8_append [] (d + 1) zR o P) (hj : j < 4) (hb : okB (byN x j)) (K : ∀ l4, V X (0, 0) w h 5 [some (.ref 0), some (.int x), some (.int (nI (a + nzB (byN x j)))), some (.int (shI j)), l4] []) : V X (0, 0) w h 5 [some (.ref 0), some (.int x), some (.int (nI a)), some (.int (shI (j + 1))), l4] [] := by
  have hl := byN_lt x j
  have n1 : Nat.blt 0 (d + 1) = true := by simp [Nat.blt]
  have hdec : nI (8 * j) + (-8) = shI j := by unfold shI; rw [Int32.sub_eq_add_neg]; rfl
  rw [shI_s]
  refine v_iload_n C (oX8_append.at 4 rfl) rfl ?_
  refine v_if_ltN C (oX8_append.at 5 rfl) (tgt := 64) (by decide) (by omega) ?_
  refine v_iload_n C (oX8_append.at 6 rfl) rfl ?_
  refine v_iload_n C (oX8_append.at 7 rfl) rfl ?_
  refine v_callS C (oX8_append.at 8 rfl) cX8_145 (k_byteAt hj) rfl n1 rfl ⟨rfl, rfl⟩ rfl rfl (fun _ => rfl) (fun h' hp => ?_)
  rw [show h' = _ from hp]
  dsimp only [Option.toList, List.cons_append, List.nil_append]
  have fin : V X (0, 0) w h 45 [some (.ref 0), some (.int x), some (.int (nI a)), some (.int (nI (8 * j))), some (.int (nI (byN x j)))] [] := by
    unfold nzB at K
    refine v_iload_n C (oX8_append.at 23 rfl) rfl ?_
    refine v_iload C (oX8_append.at 24 rfl) rfl ?_
    refine v_if_neN C (oX8_append.at 25 rfl) (tgt := 55) (by decide) (by omega) (fun hc => ?_) (fun hc => ?_)
    · rw [if_neg hc] at K
      refine v_iconst C (oX8_append.at 28 rfl) (v := nI 1) rfl ?_
      refine v_iaddN C (oX8_append.at 29 rfl) ?_
      refine v_istore_n C (oX8_append.at 30 rfl) rfl ?_
      dsimp only [sto1, sto2, killL]
      refine v_iinc C (oX8_append.at 31 rfl) rfl hdec ?_
      refine v_goto C (oX8_append.at 32 rfl) (tgt := 5) (by decide) ?_
      dsimp only [sto1, sto2, killL]
      exact K _
    · rw [if_pos hc] at K
      refine v_iconst C (oX8_append.at 26 rfl) (v := nI 0) rfl ?_
      refine v_goto C (oX8_append.at 27 rfl) (tgt := 56) (by decide) ?_
      refine v_iaddN C (oX8_append.at 29 rfl) ?_
      refine v_istore_n C (oX8_append.at 30 rfl) rfl ?_
      dsimp only [sto1, sto2, killL]
      refine v_iinc C (oX8_append.at 31 rfl) rfl hdec ?_
      refine v_goto C (oX8_append.at 32 rfl) (tgt := 5) (by decide) ?_
      dsimp only [sto1, sto2, killL]
      exact K _
  refine v_istore C (oX8_append.at 9 rfl) rfl ?_
  dsimp only [sto1, sto2, killL]
  refine v_iload C (oX8_append.at 10 rfl) rfl ?_
  refine v_if_eqN C (oX8_append.at 11 rfl) (tgt := 45) (by decide) (by omega) (fun hc => ?_) (fun hc => ?_)
  · exact fin
  · refine v_iload C (oX8_append.at 12 rfl) rfl ?_
    refine v_bipush C (oX8_append.at 13 rfl) (v := nI 33) rfl ?_
    refine v_icmp_ltN C (oX8_append.at 14 rfl) (tgt := 35) (by decide) (by omega) (by omega) (fun hc => ?_) (fun hc => ?_)
    · rcases hb with z | z <;> exact absurd hc (by omega)
    · refine v_iload C (oX8_append.at 15 rfl) rfl ?_
      refine v_bipush C (oX8_append.at 16 rfl) (v := nI 126) rfl ?_
      refine v_icmp_leN C (oX8_append.at 17 rfl) (tgt := 45) (by decide) (by omega) (by omega) (fun hc => ?_) (fun hc => ?_)
      · exact fin
      · rcases hb with z | z <;> exact absurd hc (by omega)
theorem ap_1x {w : Wt} {h : Hp} {x : Int32} {a j : Nat} {l4 : Option Value} {X : CT} {d : Nat} {P : Wt → Hp → Prop} (C : Cx X mX8_append [] (d + 1) (1, 6) (.inr EIAE) P) (hj : j < 4) (hb : ¬ okB (byN x j)) (hP : P w h) : V X (0, 0) w h 5 [some (.ref 0), some (.int x), some (.int (nI a)), some (.int (shI (j + 1))), l4] [] := by
  have hl := byN_lt x j
  have n1 : Nat.blt 0 (d + 1) = true := by simp [Nat.blt]
  unfold okB at hb
  rw [shI_s]
  refine v_iload_n C (oX8_append.at 4 rfl) rfl ?_
  refine v_if_ltN C (oX8_append.at 5 rfl) (tgt := 64) (by decide) (by omega) ?_
  refine v_iload_n C (oX8_append.at 6 rfl) rfl ?_
  refine v_iload_n C (oX8_append.at 7 rfl) rfl ?_
  refine v_callS C (oX8_append.at 8 rfl) cX8_145 (k_byteAt hj) rfl n1 rfl ⟨rfl, rfl⟩ rfl rfl (fun _ => rfl) (fun h' hp => ?_)
  rw [show h' = _ from hp]
  dsimp only [Option.toList, List.cons_append, List.nil_append]
  have thr : V X (0, 0) w h 35 [some (.ref 0), some (.int x), some (.int (nI a)), some (.int (nI (8 * j))), some (.int (nI (byN x j)))] [] := v_throwS C rfl tIAE sr149 (oX8_append.at 18 rfl) (oX8_append.at 19 rfl) (oX8_append.at 20 rfl) (oX8_append.at 21 rfl) (oX8_append.at 22 rfl) rfl rfl hP
  refine v_istore C (oX8_append.at 9 rfl) rfl ?_
  dsimp only [sto1, sto2, killL]
  refine v_iload C (oX8_append.at 10 rfl) rfl ?_
  refine v_if_eqN C (oX8_append.at 11 rfl) (tgt := 45) (by decide) (by omega) (fun hc => ?_) (fun hc => ?_)
  · exact absurd (Or.inl hc) hb
  · refine v_iload C (oX8_append.at 12 rfl) rfl ?_
    refine v_bipush C (oX8_append.at 13 rfl) (v := nI 33) rfl ?_
    refine v_icmp_ltN C (oX8_append.at 14 rfl) (tgt := 35) (by decide) (by omega) (by omega) (fun hc => ?_) (fun hc => ?_)
    · exact thr
    · refine v_iload C (oX8_append.at 15 rfl) rfl ?_
      refine v_bipush C (oX8_append.at 16 rfl) (v := nI 126) rfl ?_
      refine v_icmp_leN C (oX8_append.at 17 rfl) (tgt := 45) (by decide) (by omega) (by omega) (fun hc => ?_) (fun hc => ?_)
      · exact absurd (Or.inr ⟨by omega, by omega⟩) hb
      · exact thr
