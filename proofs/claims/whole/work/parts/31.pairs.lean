/-! ===== NodePairs: sets of pairs as bits of a long ===== -/
theorem wb_tb (n : Nat) : (lN n).toBitVec = BitVec.ofNat 64 n := rfl
theorem wb_inj {a b : Int64} (h : a.toBitVec = b.toBitVec) : a = b := Int64.toBitVec_inj.mp h
theorem wb_tn {n : Nat} (h : n < 2 ^ 64) : (lN n).toBitVec.toNat = n := by rw [wb_tb, BitVec.toNat_ofNat, Nat.mod_eq_of_lt h]
theorem wb_c : ∀ k, k < 64 → ((nI k).toInt64 &&& 63) = lN k := by decide +kernel
theorem wb_cu : ∀ k, k < 64 → ((nI k).toInt64.toUInt64 &&& Int64.toUInt64 63) = UInt64.ofNat k := by decide +kernel
theorem wb_sm : ∀ k, k < 64 → (BitVec.ofNat 64 k).smod 64 = BitVec.ofNat 64 k := by decide +kernel
theorem wb_shr {n k : Nat} (hn : n < 2 ^ 64) (hk : k < 64) : ((lN n).toUInt64 >>> ((nI k).toInt64.toUInt64 &&& Int64.toUInt64 63)).toInt64 = lN (n / 2 ^ k) := by
  rw [wb_cu k hk]
  apply wb_inj
  apply BitVec.eq_of_toNat_eq
  show ((lN n).toUInt64 >>> UInt64.ofNat k).toNat = (BitVec.ofNat 64 _).toNat
  have h1 : (UInt64.ofNat k).toNat = k := by
    show (BitVec.ofNat 64 k).toNat = k
    rw [BitVec.toNat_ofNat, Nat.mod_eq_of_lt (by omega)]
  have h2 : (lN n).toUInt64.toNat = n := wb_tn hn
  rw [UInt64.toNat_shiftRight, h1, h2, Nat.mod_eq_of_lt hk, Nat.shiftRight_eq_div_pow, BitVec.toNat_ofNat, Nat.mod_eq_of_lt (Nat.lt_of_le_of_lt (Nat.div_le_self _ _) hn)]
theorem wb_shl (n : Nat) {k : Nat} (hk : k < 64) : lN n <<< ((nI k).toInt64 &&& 63) = lN (n * 2 ^ k) := by
  rw [wb_c k hk]
  apply wb_inj
  rw [Int64.toBitVec_shiftLeft, wb_tb, wb_tb, wb_tb, wb_sm k hk]
  apply BitVec.eq_of_toNat_eq
  rw [BitVec.shiftLeft_eq', BitVec.toNat_shiftLeft, BitVec.toNat_ofNat, BitVec.toNat_ofNat, BitVec.toNat_ofNat, Nat.mod_eq_of_lt (show k < 2 ^ 64 by omega), Nat.shiftLeft_eq, Nat.mul_mod, Nat.mod_mod, ← Nat.mul_mod]
theorem wb_and {a b : Nat} (ha : a < 2 ^ 64) (hb : b < 2 ^ 64) : lN a &&& lN b = lN (a &&& b) := by
  apply wb_inj
  rw [Int64.toBitVec_and, wb_tb, wb_tb, wb_tb]
  apply BitVec.eq_of_toNat_eq
  rw [BitVec.toNat_and, BitVec.toNat_ofNat, BitVec.toNat_ofNat, BitVec.toNat_ofNat, Nat.mod_eq_of_lt ha, Nat.mod_eq_of_lt hb, Nat.mod_eq_of_lt (Nat.and_lt_two_pow _ hb)]
theorem wb_or {a b : Nat} (ha : a < 2 ^ 64) (hb : b < 2 ^ 64) : lN a ||| lN b = lN (a ||| b) := by
  apply wb_inj
  rw [Int64.toBitVec_or, wb_tb, wb_tb, wb_tb]
  apply BitVec.eq_of_toNat_eq
  rw [BitVec.toNat_or, BitVec.toNat_ofNat, BitVec.toNat_ofNat, BitVec.toNat_ofNat, Nat.mod_eq_of_lt ha, Nat.mod_eq_of_lt hb, Nat.mod_eq_of_lt (Nat.or_lt_two_pow ha hb)]
section VLB
variable {X : CT} {μ : Mi} {tab : List ExceptionTableEntry} {d : Nat} {zR : Nat × Nat} {o : Oc} {P : Wt → Hp → Prop} {z : Nat × Nat} {w : Wt} {h : Hp} {pc : Nat} {L : List (Option Value)} {st : List Value}
theorem v_lorN (C : Cx X μ tab d zR o P) {a b : Nat} (hd : decode μ.2.1 pc = .ok (.lor, 1)) (ha : a < 2 ^ 64) (hb : b < 2 ^ 64) (k : V X z w h (pc + 1) L (.long (lN (a ||| b)) :: st)) : V X z w h pc L (.long (lN b) :: .long (lN a) :: st) := v_lor C hd (by rw [wb_or ha hb]; exact k)
theorem v_landN (C : Cx X μ tab d zR o P) {a b : Nat} (hd : decode μ.2.1 pc = .ok (.land, 1)) (ha : a < 2 ^ 64) (hb : b < 2 ^ 64) (k : V X z w h (pc + 1) L (.long (lN (a &&& b)) :: st)) : V X z w h pc L (.long (lN b) :: .long (lN a) :: st) := v_land C hd (by rw [wb_and ha hb]; exact k)
theorem v_lshlN (C : Cx X μ tab d zR o P) {a b : Nat} (hd : decode μ.2.1 pc = .ok (.lshl, 1)) (hb : b < 64) (k : V X z w h (pc + 1) L (.long (lN (a * 2 ^ b)) :: st)) : V X z w h pc L (.int (nI b) :: .long (lN a) :: st) := v_lshl C hd (by rw [wb_shl a hb]; exact k)
theorem v_lushrN (C : Cx X μ tab d zR o P) {a b : Nat} (hd : decode μ.2.1 pc = .ok (.lushr, 1)) (hb : b < 64) (ha : a < 2 ^ 64) (k : V X z w h (pc + 1) L (.long (lN (a / 2 ^ b)) :: st)) : V X z w h pc L (.int (nI b) :: .long (lN a) :: st) := v_lushr C hd (by rw [wb_shr ha hb]; exact k)
end VLB
theorem cmp_eq0 {a b : Nat} (ha : a < 2 ^ 63) (hb : b < 2 ^ 63) : (lg_cmp (lN a) (lN b) = 0) ↔ a = b := by
  unfold lg_cmp
  by_cases h1 : b < a
  · rw [if_pos ((pk_lLT hb ha).mpr h1)]; exact ⟨fun q => absurd q (by decide), fun q => absurd q (by omega)⟩
  · rw [if_neg (fun e => h1 ((pk_lLT hb ha).mp e))]
    by_cases h2 : a = b
    · rw [if_pos (by rw [h2])]; exact ⟨fun _ => h2, fun _ => rfl⟩
    · rw [if_neg (fun e => h2 ((pk_lEQ ha hb).mp e))]; exact ⟨fun q => absurd q (by decide), fun q => absurd q h2⟩
theorem cmp_bit {a j : Nat} (ha : a < 2 ^ 63) : (lg_cmp (lN (a / 2 ^ j &&& 1)) (lN 0) = 0) ↔ a.testBit j = false := by
  rw [cmp_eq0 _ (by decide), bit1]
  rw [Nat.and_one_is_mod]
  omega
/-- the place of an unordered pair -/
def plc (p q : Nat) : Nat := max p q * (max p q + 1) / 2 + min p q
theorem plc_lt : ∀ p, p < 9 → ∀ q, q < 9 → plc p q < 45 := by decide
theorem plc_diag : ∀ n, n ≤ 9 → 0 < n → plc (n - 1) (n - 1) + 1 = n * (n + 1) / 2 := by decide
theorem plc_in : ∀ n, n ≤ 9 → ∀ p, p < n → ∀ q, q < n → plc p q < n * (n + 1) / 2 := by decide
def tri (p : Nat) : Nat := p * (p + 1) / 2
theorem tri_s (p : Nat) : tri (p + 1) = tri p + p + 1 := by
  unfold tri
  rw [show (p + 1) * (p + 1 + 1) = p * (p + 1) + (p + 1) * 2 from by rw [Nat.mul_add, Nat.mul_comm (p + 1) 1, Nat.mul_comm p, Nat.mul_add (p + 1) p 1]; omega, Nat.add_mul_div_right _ _ (by decide)]
  omega
theorem plc_le {p q : Nat} (h : q ≤ p) : plc p q = tri p + q := by unfold plc tri; rw [Nat.max_eq_left h, Nat.min_eq_right h]
theorem plc_ge {p q : Nat} (h : p ≤ q) : plc p q = tri q + p := by unfold plc tri; rw [Nat.max_eq_right h, Nat.min_eq_left h]
theorem plc_cm (p q : Nat) : plc p q = plc q p := by unfold plc; rw [Nat.max_comm, Nat.min_comm]
def hiP (i : Nat) : Nat := if i < 1 then 0 else if i < 3 then 1 else if i < 6 then 2 else if i < 10 then 3 else if i < 15 then 4 else if i < 21 then 5 else if i < 28 then 6 else if i < 36 then 7 else 8
def loP (i : Nat) : Nat := i - tri (hiP i)
theorem hl_p : ∀ p, p < 9 → ∀ q, q < p + 1 → hiP (tri p + q) = p ∧ loP (tri p + q) = q := by decide +kernel
theorem hl_i : ∀ i, i < 45 → tri (hiP i) + loP i = i ∧ loP i < hiP i + 1 ∧ hiP i < 9 := by decide +kernel
theorem hl_n : ∀ n, n < 10 → ∀ i, i < tri n → hiP i < n := by decide +kernel
theorem tri_le : ∀ n, n < 10 → tri n ≤ 45 := by decide +kernel
theorem k_place {w : Wt} {h : Hp} {p q : Nat} (hp : p < 9) (hq : q < 9) : ConN mX3_placeOf 1 (0, 0) w [.int (nI p), .int (nI q)] h (.inl (some (.int (nI (plc p q))))) (fun h' => h' = h) := by
  have hm : max p q < 9 := by omega
  have hmm : max p q * (max p q + 1) ≤ 9 * 10 := Nat.mul_le_mul (by omega) (by omega)
  refine conI (by decide +kernel) ⟨fun _ => rfl, rfl, by simp⟩ (fun X C => ?_)
  change V X (0, 0) w h 0 [some (.int (nI p)), some (.int (nI q)), none] []
  refine v_iload_n C (oX3_placeOf.at 0 rfl) rfl ?_
  refine v_iload_n C (oX3_placeOf.at 1 rfl) rfl ?_
  refine v_callS C (oX3_placeOf.at 2 rfl) cX3_27 (k_max (by omega) (by omega)) rfl rfl rfl ⟨rfl, rfl⟩ rfl rfl (fun _ => rfl) (fun h' hp => ?_)
  rw [show h' = _ from hp]
  dsimp only [Option.toList, List.cons_append, List.nil_append]
  refine v_istore_n C (oX3_placeOf.at 3 rfl) rfl ?_
  refine v_iload_n C (oX3_placeOf.at 4 rfl) rfl ?_
  refine v_iload_n C (oX3_placeOf.at 5 rfl) rfl ?_
  refine v_iconst C (oX3_placeOf.at 6 rfl) (v := nI 1) rfl ?_
  refine v_iaddN C (oX3_placeOf.at 7 rfl) ?_
  refine v_imulN C (oX3_placeOf.at 8 rfl) ?_
  refine v_iconst C (oX3_placeOf.at 9 rfl) (v := nI 2) rfl ?_
  refine v_idivN C (oX3_placeOf.at 10 rfl) (by omega) (by omega) (by omega) ?_
  refine v_iload_n C (oX3_placeOf.at 11 rfl) rfl ?_
  refine v_iload_n C (oX3_placeOf.at 12 rfl) rfl ?_
  dsimp only [sto1, sto2, killL]
  refine v_callS C (oX3_placeOf.at 13 rfl) cX3_32 (k_min (by omega) (by omega)) rfl rfl rfl ⟨rfl, rfl⟩ rfl rfl (fun _ => rfl) (fun h' hp => ?_)
  rw [show h' = _ from hp]
  dsimp only [Option.toList, List.cons_append, List.nil_append]
  refine v_iaddN C (oX3_placeOf.at 14 rfl) ?_
  exact v_iret C (oX3_placeOf.at 15 rfl) rfl rfl ⟨Nat.le_refl _, Nat.le_refl _⟩ ⟨rfl, rfl⟩
/-- the pairs that a pair of nodes steps to -/
def stp (k n : Nat) (T : Nat → Nat) (a b i j : Nat) : Nat := if T (a + i) = T (b + j) then 2 ^ plc ((a + i) % n) ((b + j) % n) else 0
def stps (k n : Nat) (T : Nat → Nat) (a b : Nat) : Nat := orN (fun i => orN (stp k n T a b i) k) k
theorem stp_lt {k n : Nat} {T : Nat → Nat} {a b i j : Nat} (hn : 0 < n) (hn9 : n ≤ 9) : stp k n T a b i j < 2 ^ 45 := by
  unfold stp
  split
  · have h1 := Nat.mod_lt (a + i) hn
    have h2 := Nat.mod_lt (b + j) hn
    exact Nat.pow_lt_pow_right (by decide) (plc_lt _ (by omega) _ (by omega))
  · decide
theorem stps_lt {k n : Nat} {T : Nat → Nat} {a b : Nat} (hn : 0 < n) (hn9 : n ≤ 9) : stps k n T a b < 2 ^ 45 := orN_lt k (fun _ _ => orN_lt k (fun _ _ => stp_lt hn hn9))
theorem k_stepsFrom {w : Wt} {h : Hp} {r k wd a b : Nat} {T : Nat → Nat} (hR : RuleOK h r k wd T) (hs : SZ k wd) (ha : a + k ≤ k ^ wd) (hb : b + k ≤ k ^ wd) : ConN mX3_stepsFrom 2 (0, 0) w [.ref r, .int (nI a), .int (nI b)] h (.inl (some (.long (lN (stps k (k ^ (wd - 1)) T a b))))) (fun h' => h' = h) := by
  have hn9 := hs.n
  have hn0 := hs.n0
  have hk := hs.k
  have hm := hs.m
  obtain ⟨f, gg, e, v, t, hr, ht, hT, hg, hG, he, hE, -⟩ := id hR
  generalize hnn : k ^ (wd - 1) = n at *
  have h45 : (2 : Nat) ^ 45 = 35184372088832 := by decide
  have o1 : ∀ i, orN (fun i => orN (stp k n T a b i) k) i < 2 ^ 45 := fun i => orN_lt i (fun _ _ => orN_lt k (fun _ _ => stp_lt hn0 hn9))
  have o2 : ∀ i j, orN (stp k n T a b i) j < 2 ^ 45 := fun i j => orN_lt j (fun _ _ => stp_lt hn0 hn9)
  refine conI (by decide +kernel) ⟨fun _ => rfl, rfl, by simp⟩ (fun X C => ?_)
  change V X (0, 0) w h 0 [some (.ref r), some (.int (nI a)), some (.int (nI b)), none, none, none, none] []
  refine v_lconst C (oX3_stepsFrom.at 0 rfl) (v := lN 0) rfl ?_
  refine v_lstore_n C (oX3_stepsFrom.at 1 rfl) rfl ?_
  refine v_iload_n C (oX3_stepsFrom.at 2 rfl) rfl ?_
  refine v_istore C (oX3_stepsFrom.at 3 rfl) rfl ?_
  dsimp only [sto1, sto2, killL]
  suffices H : ∀ d i l6, i + d = k → V X (0, 0) w h 5 [some (.ref r), some (.int (nI a)), some (.int (nI b)), some (.long (lN (orN (fun i => orN (stp k n T a b i) k) i))), none, some (.int (nI (a + i))), l6] [] by
    exact H k 0 none (by omega)
  intro d
  induction d with
  | zero =>
    intro i l6 hi
    refine v_iload C (oX3_stepsFrom.at 4 rfl) rfl ?_
    refine v_iload_n C (oX3_stepsFrom.at 5 rfl) rfl ?_
    refine v_aload_n C (oX3_stepsFrom.at 6 rfl) rfl ?_
    refine v_getf C (oX3_stepsFrom.at 7 rfl) fX3_35 hr rfl ?_
    refine v_iaddN C (oX3_stepsFrom.at 8 rfl) ?_
    refine v_icmp_geN C (oX3_stepsFrom.at 9 rfl) (tgt := 81) (by decide) (by omega) (by omega) (fun hc => ?_) (fun hc => ?_)
    · have e1 : i = k := by omega
      subst e1
      refine v_lload_n C (oX3_stepsFrom.at 45 rfl) rfl ?_
      exact v_lret C (oX3_stepsFrom.at 46 rfl) rfl rfl ⟨Nat.le_refl _, Nat.le_refl _⟩ ⟨rfl, rfl⟩
    · exact absurd hc (by omega)
  | succ d ih =>
    intro i l6 hi
    refine v_iload C (oX3_stepsFrom.at 4 rfl) rfl ?_
    refine v_iload_n C (oX3_stepsFrom.at 5 rfl) rfl ?_
    refine v_aload_n C (oX3_stepsFrom.at 6 rfl) rfl ?_
    refine v_getf C (oX3_stepsFrom.at 7 rfl) fX3_35 hr rfl ?_
    refine v_iaddN C (oX3_stepsFrom.at 8 rfl) ?_
    refine v_icmp_geN C (oX3_stepsFrom.at 9 rfl) (tgt := 81) (by decide) (by omega) (by omega) (fun hc => ?_) (fun hc => ?_)
    · exact absurd hc (by omega)
    · refine v_iload_n C (oX3_stepsFrom.at 10 rfl) rfl ?_
      refine v_istore C (oX3_stepsFrom.at 11 rfl) rfl ?_
      dsimp only [sto1, sto2, killL]
      suffices H : ∀ d j, j + d = k → V X (0, 0) w h 19 [some (.ref r), some (.int (nI a)), some (.int (nI b)), some (.long (lN (orN (fun i => orN (stp k n T a b i) k) i ||| orN (stp k n T a b i) j))), none, some (.int (nI (a + i))), some (.int (nI (b + j)))] [] by
        have := H k 0 (by omega)
        rw [show orN (stp k n T a b i) 0 = 0 from rfl, Nat.or_zero] at this
        exact this
      intro d2
      induction d2 with
      | zero =>
        intro j hj
        refine v_iload C (oX3_stepsFrom.at 12 rfl) rfl ?_
        refine v_iload_n C (oX3_stepsFrom.at 13 rfl) rfl ?_
        refine v_aload_n C (oX3_stepsFrom.at 14 rfl) rfl ?_
        refine v_getf C (oX3_stepsFrom.at 15 rfl) fX3_35 hr rfl ?_
        refine v_iaddN C (oX3_stepsFrom.at 16 rfl) ?_
        refine v_icmp_geN C (oX3_stepsFrom.at 17 rfl) (tgt := 75) (by decide) (by omega) (by omega) (fun hc => ?_) (fun hc => ?_)
        · have e1 : j = k := by omega
          subst e1
          refine v_iincN C (oX3_stepsFrom.at 43 rfl) rfl ?_
          refine v_goto C (oX3_stepsFrom.at 44 rfl) (tgt := 5) (by decide) ?_
          dsimp only [sto1, sto2, killL]
          exact ih (i + 1) _ (by omega)
        · exact absurd hc (by omega)
      | succ d2 ih2 =>
        intro j hj
        have hTi := hT (a + i) (by omega)
        have hTj := hT (b + j) (by omega)
        have hGi := hG (a + i) (by omega)
        have hGj := hG (b + j) (by omega)
        have hmi : (a + i) % n < n := Nat.mod_lt _ hn0
        have hmj : (b + j) % n < n := Nat.mod_lt _ hn0
        have hpl := plc_lt ((a + i) % n) (by omega) ((b + j) % n) (by omega)
        have hpo : 2 ^ plc ((a + i) % n) ((b + j) % n) < 2 ^ 45 := Nat.pow_lt_pow_right (by decide) hpl
        have ho1 := o1 i
        have ho2 := o2 i j
        have ho3 := Nat.or_lt_two_pow ho1 ho2
        refine v_iload C (oX3_stepsFrom.at 12 rfl) rfl ?_
        refine v_iload_n C (oX3_stepsFrom.at 13 rfl) rfl ?_
        refine v_aload_n C (oX3_stepsFrom.at 14 rfl) rfl ?_
        refine v_getf C (oX3_stepsFrom.at 15 rfl) fX3_35 hr rfl ?_
        refine v_iaddN C (oX3_stepsFrom.at 16 rfl) ?_
        refine v_icmp_geN C (oX3_stepsFrom.at 17 rfl) (tgt := 75) (by decide) (by omega) (by omega) (fun hc => ?_) (fun hc => ?_)
        · exact absurd hc (by omega)
        · refine v_aload_n C (oX3_stepsFrom.at 18 rfl) rfl ?_
          refine v_getf C (oX3_stepsFrom.at 19 rfl) fX3_42 hr rfl ?_
          refine v_iload C (oX3_stepsFrom.at 20 rfl) rfl ?_
          refine v_iald C (oX3_stepsFrom.at 21 rfl) ht (by decide) rfl (by omega) hTi.1 ?_
          refine v_aload_n C (oX3_stepsFrom.at 22 rfl) rfl ?_
          refine v_getf C (oX3_stepsFrom.at 23 rfl) fX3_42 hr rfl ?_
          refine v_iload C (oX3_stepsFrom.at 24 rfl) rfl ?_
          refine v_iald C (oX3_stepsFrom.at 25 rfl) ht (by decide) rfl (by omega) hTj.1 ?_
          refine v_icmp_neN C (oX3_stepsFrom.at 26 rfl) (tgt := 69) (by decide) (by omega) (by omega) (fun hc => ?_) (fun hc => ?_)
          · refine v_iincN C (oX3_stepsFrom.at 41 rfl) rfl ?_
            refine v_goto C (oX3_stepsFrom.at 42 rfl) (tgt := 19) (by decide) ?_
            dsimp only [sto1, sto2, killL]
            have := ih2 (j + 1) (by omega)
            rw [orN, stp, if_neg hc, Nat.or_zero] at this
            exact this
          · refine v_lload_n C (oX3_stepsFrom.at 27 rfl) rfl ?_
            refine v_lconst C (oX3_stepsFrom.at 28 rfl) (v := lN 1) rfl ?_
            refine v_aload_n C (oX3_stepsFrom.at 29 rfl) rfl ?_
            refine v_getf C (oX3_stepsFrom.at 30 rfl) fX3_46 hr rfl ?_
            refine v_iload C (oX3_stepsFrom.at 31 rfl) rfl ?_
            refine v_iald C (oX3_stepsFrom.at 32 rfl) hg (by decide) rfl (by omega) hGi ?_
            refine v_aload_n C (oX3_stepsFrom.at 33 rfl) rfl ?_
            refine v_getf C (oX3_stepsFrom.at 34 rfl) fX3_46 hr rfl ?_
            refine v_iload C (oX3_stepsFrom.at 35 rfl) rfl ?_
            refine v_iald C (oX3_stepsFrom.at 36 rfl) hg (by decide) rfl (by omega) hGj ?_
            refine v_callS C (oX3_stepsFrom.at 37 rfl) cX3_23 (k_place (by omega) (by omega)) rfl rfl rfl ⟨rfl, rfl⟩ rfl rfl (fun _ => rfl) (fun h' hp => ?_)
            rw [show h' = _ from hp]
            dsimp only [Option.toList, List.cons_append, List.nil_append]
            refine v_lshlN C (oX3_stepsFrom.at 38 rfl) (by omega) ?_
            rw [Nat.one_mul]
            refine v_lorN C (oX3_stepsFrom.at 39 rfl) (by omega) (by omega) ?_
            refine v_lstore_n C (oX3_stepsFrom.at 40 rfl) rfl ?_
            refine v_iincN C (oX3_stepsFrom.at 41 rfl) rfl ?_
            refine v_goto C (oX3_stepsFrom.at 42 rfl) (tgt := 19) (by decide) ?_
            dsimp only [sto1, sto2, killL]
            have := ih2 (j + 1) (by omega)
            rw [orN, stp, if_pos (by omega), ← Nat.or_assoc] at this
            exact this
/-- the rows of the pairs before the closure, and the closure's rows -/
def pr0 (k n : Nat) (T : Nat → Nat) (i : Nat) : Nat := stps k n T (hiP i * k) (loP i * k)
def wsh (R : Nat → Nat) : Nat → Nat → Nat
  | 0 => R
  | m + 1 => fun i => if (wsh R m i).testBit m then wsh R m i ||| wsh R m m else wsh R m i
theorem wsh_lt {R : Nat → Nat} {b : Nat} (h : ∀ i, R i < 2 ^ b) : ∀ m i, wsh R m i < 2 ^ b
  | 0, i => h i
  | m + 1, i => by
    unfold wsh
    split
    · exact Nat.or_lt_two_pow (wsh_lt h m i) (wsh_lt h m m)
    · exact wsh_lt h m i
theorem wsh_s (R : Nat → Nat) (m i : Nat) : wsh R (m + 1) i = if (wsh R m i).testBit m then wsh R m i ||| wsh R m m else wsh R m i := rfl
theorem wsh_mm (R : Nat → Nat) (m : Nat) : wsh R (m + 1) m = wsh R m m := by
  show (if _ then _ else _) = _
  split
  · exact Nat.or_self _
  · rfl
abbrev NP (p : Nat) : PE := ob 3 [.ref (p + 1)]
def PrOK (h : Hp) (p : Nat) : Prop := h p = NP p ∧ ∃ g, h (p + 1) = jo 45 g
theorem k_readSteps {w : Wt} {h : Hp} {p r k wd : Nat} {T : Nat → Nat} {g0 : Nat → Int64} (hR : RuleOK h r k wd T) (hs : SZ k wd) (hp : h p = NP p) (hg0 : h (p + 1) = jo 45 g0) (hsep : r + 5 < p) : ConN mX3_readSteps 3 (0, 0) w [.ref p, .ref r] h (.inl none) (fun h' => ∃ g, h' = hu h (p + 1) (jo 45 g) ∧ ∀ i, i < tri (k ^ (wd - 1)) → g i = lN (pr0 k (k ^ (wd - 1)) T i)) := by
  have hn9 := hs.n
  have hn0 := hs.n0
  have hk := hs.k
  have hm := hs.m
  have hnk := hs.nk
  have hRR : ∀ g, RuleOK (hu h (p + 1) (jo 45 g)) r k wd T := fun g => hR.eq (fun j a b => hu_n _ _ (by omega))
  have hro := fun g => (hRR g).ro
  have hpo : ∀ g, hu h (p + 1) (jo 45 g) p = NP p := fun g => (hu_n _ _ (by omega)).trans hp
  generalize hnn : k ^ (wd - 1) = n at *
  refine conI (by decide +kernel) ⟨fun _ => rfl, rfl, by simp⟩ (fun X C => ?_)
  change V X (0, 0) w h 0 [some (.ref p), some (.ref r), none, none] []
  refine v_iconst C (oX3_readSteps.at 0 rfl) (v := nI 0) rfl ?_
  refine v_istore_n C (oX3_readSteps.at 1 rfl) rfl ?_
  dsimp only [sto1, sto2, killL]
  suffices H : ∀ d a g l3, a + d = n → (∀ i, i < tri a → g i = lN (pr0 k n T i)) → V X (0, 0) w (hu h (p + 1) (jo 45 g)) 2 [some (.ref p), some (.ref r), some (.int (nI a)), l3] [] by
    have := H n 0 g0 none (by omega) (fun i hi => absurd hi (Nat.not_lt_zero i))
    rw [hu_id h hg0] at this
    exact this
  intro d
  induction d with
  | zero =>
    intro a g l3 ha hg
    refine v_iload_n C (oX3_readSteps.at 2 rfl) rfl ?_
    refine v_aload_n C (oX3_readSteps.at 3 rfl) rfl ?_
    refine v_getf C (oX3_readSteps.at 4 rfl) fX3_17 (hro _) rfl ?_
    refine v_icmp_geN C (oX3_readSteps.at 5 rfl) (tgt := 55) (by decide) (by omega) (by omega) (fun hc => ?_) (fun hc => ?_)
    · have e1 : a = n := by omega
      subst e1
      exact v_vret C (oX3_readSteps.at 31 rfl) rfl rfl ⟨Nat.le_refl _, Nat.le_refl _⟩ ⟨rfl, g, rfl, hg⟩
    · exact absurd hc (by omega)
  | succ d ih =>
    intro a g l3 ha hg
    have hak : (a + 1) * k ≤ n * k := Nat.mul_le_mul_right k (by omega)
    rw [Nat.add_mul, Nat.one_mul] at hak
    refine v_iload_n C (oX3_readSteps.at 2 rfl) rfl ?_
    refine v_aload_n C (oX3_readSteps.at 3 rfl) rfl ?_
    refine v_getf C (oX3_readSteps.at 4 rfl) fX3_17 (hro _) rfl ?_
    refine v_icmp_geN C (oX3_readSteps.at 5 rfl) (tgt := 55) (by decide) (by omega) (by omega) (fun hc => ?_) (fun hc => ?_)
    · exact absurd hc (by omega)
    · refine v_iconst C (oX3_readSteps.at 6 rfl) (v := nI 0) rfl ?_
      refine v_istore_n C (oX3_readSteps.at 7 rfl) rfl ?_
      dsimp only [sto1, sto2, killL]
      suffices H : ∀ d b g, b + d = a + 1 → (∀ i, i < tri a + b → g i = lN (pr0 k n T i)) → V X (0, 0) w (hu h (p + 1) (jo 45 g)) 12 [some (.ref p), some (.ref r), some (.int (nI a)), some (.int (nI b))] [] by
        exact H (a + 1) 0 g (by omega) hg
      intro d2
      induction d2 with
      | zero =>
        intro b g hb hg
        refine v_iload_n C (oX3_readSteps.at 8 rfl) rfl ?_
        refine v_iload_n C (oX3_readSteps.at 9 rfl) rfl ?_
        refine v_icmp_gtN C (oX3_readSteps.at 10 rfl) (tgt := 49) (by decide) (by omega) (by omega) (fun hc => ?_) (fun hc => ?_)
        · refine v_iincN C (oX3_readSteps.at 29 rfl) rfl ?_
          refine v_goto C (oX3_readSteps.at 30 rfl) (tgt := 2) (by decide) ?_
          dsimp only [sto1, sto2, killL]
          refine ih (a + 1) g _ (by omega) (fun i hi => hg i ?_)
          rw [tri_s] at hi
          omega
        · exact absurd hc (by omega)
      | succ d2 ih2 =>
        intro b g hb hg
        have hbk : (b + 1) * k ≤ n * k := Nat.mul_le_mul_right k (by omega)
        rw [Nat.add_mul, Nat.one_mul] at hbk
        have hpl := plc_lt a (by omega) b (by omega)
        have hpe := plc_le (p := a) (q := b) (by omega)
        have hS := k_stepsFrom (w := w) (a := a * k) (b := b * k) (hRR g) hs (by omega) (by omega)
        rw [hnn] at hS
        refine v_iload_n C (oX3_readSteps.at 8 rfl) rfl ?_
        refine v_iload_n C (oX3_readSteps.at 9 rfl) rfl ?_
        refine v_icmp_gtN C (oX3_readSteps.at 10 rfl) (tgt := 49) (by decide) (by omega) (by omega) (fun hc => ?_) (fun hc => ?_)
        · exact absurd hc (by omega)
        · refine v_aload_n C (oX3_readSteps.at 11 rfl) rfl ?_
          refine v_getf C (oX3_readSteps.at 12 rfl) fX3_9 (hpo _) rfl ?_
          refine v_iload_n C (oX3_readSteps.at 13 rfl) rfl ?_
          refine v_iload_n C (oX3_readSteps.at 14 rfl) rfl ?_
          refine v_callS C (oX3_readSteps.at 15 rfl) cX3_23 (k_place (by omega) (by omega)) rfl rfl rfl ⟨rfl, rfl⟩ rfl rfl (fun _ => rfl) (fun h' hp => ?_)
          rw [show h' = _ from hp]
          dsimp only [Option.toList, List.cons_append, List.nil_append]
          refine v_aload_n C (oX3_readSteps.at 16 rfl) rfl ?_
          refine v_iload_n C (oX3_readSteps.at 17 rfl) rfl ?_
          refine v_aload_n C (oX3_readSteps.at 18 rfl) rfl ?_
          refine v_getf C (oX3_readSteps.at 19 rfl) fX3_35 (hro _) rfl ?_
          refine v_imulN C (oX3_readSteps.at 20 rfl) ?_
          refine v_iload_n C (oX3_readSteps.at 21 rfl) rfl ?_
          refine v_aload_n C (oX3_readSteps.at 22 rfl) rfl ?_
          refine v_getf C (oX3_readSteps.at 23 rfl) fX3_35 (hro _) rfl ?_
          refine v_imulN C (oX3_readSteps.at 24 rfl) ?_
          refine v_callS C (oX3_readSteps.at 25 rfl) cX3_38 (hS) rfl rfl rfl ⟨rfl, rfl⟩ rfl rfl (fun _ => rfl) (fun h' hp => ?_)
          rw [show h' = _ from hp]
          dsimp only [Option.toList, List.cons_append, List.nil_append]
          refine v_last C (oX3_readSteps.at 26 rfl) (hu_s _ _ _) (by decide) rfl (by omega) ?_
          rw [hu_hu]
          refine v_iincN C (oX3_readSteps.at 27 rfl) rfl ?_
          refine v_goto C (oX3_readSteps.at 28 rfl) (tgt := 12) (by decide) ?_
          dsimp only [sto1, sto2, killL]
          refine ih2 (b + 1) _ (by omega) (fun i hi => ?_)
          rw [hpe]
          by_cases e : i = tri a + b
          · subst e
            have hh := hl_p a (by omega) b (by omega)
            rw [pk_uLs, pr0, hh.1, hh.2]
          · rw [pk_uLn e]
            exact hg i (by omega)
/-- the closure of the pairs of a rule, and the count of ordered pairs of different nodes on cycles -/
def clo2 (k n : Nat) (T : Nat → Nat) : Nat → Nat := wsh (pr0 k n T) (tri n)
def cy1 (k n : Nat) (T : Nat → Nat) (a b : Nat) : Nat := if (clo2 k n T (tri a + b)).testBit (tri a + b) then 2 else 0
def cycN (k n : Nat) (T : Nat → Nat) : Nat := sumN (fun a => sumN (cy1 k n T a) a) n
theorem k_countOnCycles {w : Wt} {h : Hp} {p r k wd : Nat} {T : Nat → Nat} (hR : RuleOK h r k wd T) (hs : SZ k wd) (hP : PrOK h p) (hsep : r + 5 < p) : ConN mX3_countOnCycles 4 (0, 0) w [.ref p, .ref r] h (.inl (some (.int (nI (cycN k (k ^ (wd - 1)) T))))) (fun h' => ∃ g, h' = hu h (p + 1) (jo 45 g)) := by
  have hn9 := hs.n
  have hn0 := hs.n0
  have hk := hs.k
  have hm := hs.m
  have hnk := hs.nk
  obtain ⟨hp, g0, hg0⟩ := hP
  have hRR : ∀ g, RuleOK (hu h (p + 1) (jo 45 g)) r k wd T := fun g => hR.eq (fun j a b => hu_n _ _ (by omega))
  have hro := fun g => (hRR g).ro
  have hpo : ∀ g, hu h (p + 1) (jo 45 g) p = NP p := fun g => (hu_n _ _ (by omega)).trans hp
  have hro0 := hR.ro
  have hread := k_readSteps (w := w) hR hs hp hg0 hsep
  have htl := tri_le (k ^ (wd - 1)) (by omega)
  have hdg := plc_diag (k ^ (wd - 1)) (by omega) hn0
  have hpr : ∀ i, pr0 k (k ^ (wd - 1)) T i < 2 ^ 45 := fun i => stps_lt hn0 hn9
  have hwl := wsh_lt hpr
  have h45 : (2 : Nat) ^ 45 = 35184372088832 := by decide
  generalize hnn : k ^ (wd - 1) = n at *
  rw [show n * (n + 1) / 2 = tri n from rfl] at hdg
  refine conI (by decide +kernel) ⟨fun _ => rfl, rfl, by simp⟩ (fun X C => ?_)
  change V X (0, 0) w h 0 [some (.ref p), some (.ref r), none, none, none, none, none] []
  refine v_aload_n C (oX3_countOnCycles.at 0 rfl) rfl ?_
  refine v_aload_n C (oX3_countOnCycles.at 1 rfl) rfl ?_
  refine v_callV C (oX3_countOnCycles.at 2 rfl) cX3_13 hp (hread) rfl rfl rfl ⟨rfl, rfl⟩ rfl rfl (fun _ => rfl) (fun h' hp => ?_)
  dsimp only [Option.toList, List.cons_append, List.nil_append]
  obtain ⟨g, rfl, hg⟩ := hp
  refine v_aload_n C (oX3_countOnCycles.at 3 rfl) rfl ?_
  refine v_getf C (oX3_countOnCycles.at 4 rfl) fX3_17 (hro _) rfl ?_
  refine v_iconst C (oX3_countOnCycles.at 5 rfl) (v := nI 1) rfl ?_
  refine v_isubN C (oX3_countOnCycles.at 6 rfl) (by omega) ?_
  refine v_aload_n C (oX3_countOnCycles.at 7 rfl) rfl ?_
  refine v_getf C (oX3_countOnCycles.at 8 rfl) fX3_17 (hro _) rfl ?_
  refine v_iconst C (oX3_countOnCycles.at 9 rfl) (v := nI 1) rfl ?_
  refine v_isubN C (oX3_countOnCycles.at 10 rfl) (by omega) ?_
  refine v_callS C (oX3_countOnCycles.at 11 rfl) cX3_23 (k_place (by omega) (by omega)) rfl rfl rfl ⟨rfl, rfl⟩ rfl rfl (fun _ => rfl) (fun h' hp => ?_)
  rw [show h' = _ from hp]
  dsimp only [Option.toList, List.cons_append, List.nil_append]
  refine v_iconst C (oX3_countOnCycles.at 12 rfl) (v := nI 1) rfl ?_
  refine v_iaddN C (oX3_countOnCycles.at 13 rfl) ?_
  refine v_istore_n C (oX3_countOnCycles.at 14 rfl) rfl ?_
  refine v_iconst C (oX3_countOnCycles.at 15 rfl) (v := nI 0) rfl ?_
  refine v_istore_n C (oX3_countOnCycles.at 16 rfl) rfl ?_
  dsimp only [sto1, sto2, killL]
  rw [hdg]
  suffices H : ∀ d m g l4, m + d = tri n → (∀ i, i < tri n → g i = lN (wsh (pr0 k n T) m i)) → V X (0, 0) w (hu h (p + 1) (jo 45 g)) 25 [some (.ref p), some (.ref r), some (.int (nI (tri n))), some (.int (nI m)), l4, none, none] [] by
    exact H (tri n) 0 g none (by omega) hg
  clear hp hg g
  intro d
  induction d with
  | zero =>
    intro m g l4 hmd hg
    refine v_iload_n C (oX3_countOnCycles.at 17 rfl) rfl ?_
    refine v_iload_n C (oX3_countOnCycles.at 18 rfl) rfl ?_
    refine v_icmp_geN C (oX3_countOnCycles.at 19 rfl) (tgt := 83) (by decide) (by omega) (by omega) (fun hc => ?_) (fun hc => ?_)
    · have e1 : m = tri n := by omega
      subst e1
      refine v_iconst C (oX3_countOnCycles.at 51 rfl) (v := nI 0) rfl ?_
      refine v_istore_n C (oX3_countOnCycles.at 52 rfl) rfl ?_
      refine v_iconst C (oX3_countOnCycles.at 53 rfl) (v := nI 0) rfl ?_
      refine v_istore C (oX3_countOnCycles.at 54 rfl) rfl ?_
      dsimp only [sto1, sto2, killL]
      suffices H : ∀ d a l5 l6, a + d = n → V X (0, 0) w (hu h (p + 1) (jo 45 g)) 88 [some (.ref p), some (.ref r), some (.int (nI (tri n))), some (.int (nI (sumN (fun a => sumN (cy1 k n T a) a) a))), some (.int (nI a)), l5, l6] [] by
        exact H n 0 none none (by omega)
      intro d
      induction d with
      | zero =>
        intro a l5 l6 had
        refine v_iload C (oX3_countOnCycles.at 55 rfl) rfl ?_
        refine v_aload_n C (oX3_countOnCycles.at 56 rfl) rfl ?_
        refine v_getf C (oX3_countOnCycles.at 57 rfl) fX3_17 (hro _) rfl ?_
        refine v_icmp_geN C (oX3_countOnCycles.at 58 rfl) (tgt := 153) (by decide) (by omega) (by omega) (fun hc => ?_) (fun hc => ?_)
        · have e1 : a = n := by omega
          subst e1
          refine v_iload_n C (oX3_countOnCycles.at 89 rfl) rfl ?_
          exact v_iret C (oX3_countOnCycles.at 90 rfl) rfl rfl ⟨Nat.le_refl _, Nat.le_refl _⟩ ⟨rfl, g, rfl⟩
        · exact absurd hc (by omega)
      | succ d ih =>
        intro a l5 l6 had
        refine v_iload C (oX3_countOnCycles.at 55 rfl) rfl ?_
        refine v_aload_n C (oX3_countOnCycles.at 56 rfl) rfl ?_
        refine v_getf C (oX3_countOnCycles.at 57 rfl) fX3_17 (hro _) rfl ?_
        refine v_icmp_geN C (oX3_countOnCycles.at 58 rfl) (tgt := 153) (by decide) (by omega) (by omega) (fun hc => ?_) (fun hc => ?_)
        · exact absurd hc (by omega)
        · refine v_iconst C (oX3_countOnCycles.at 59 rfl) (v := nI 0) rfl ?_
          refine v_istore C (oX3_countOnCycles.at 60 rfl) rfl ?_
          dsimp only [sto1, sto2, killL]
          suffices H : ∀ d b l6, b + d = a → V X (0, 0) w (hu h (p + 1) (jo 45 g)) 100 [some (.ref p), some (.ref r), some (.int (nI (tri n))), some (.int (nI (sumN (fun a => sumN (cy1 k n T a) a) a + sumN (cy1 k n T a) b))), some (.int (nI a)), some (.int (nI b)), l6] [] by
            exact H a 0 l6 (by omega)
          intro d2
          induction d2 with
          | zero =>
            intro b l6 hbd
            refine v_iload C (oX3_countOnCycles.at 61 rfl) rfl ?_
            refine v_iload C (oX3_countOnCycles.at 62 rfl) rfl ?_
            refine v_icmp_geN C (oX3_countOnCycles.at 63 rfl) (tgt := 147) (by decide) (by omega) (by omega) (fun hc => ?_) (fun hc => ?_)
            · have e1 : b = a := by omega
              subst e1
              refine v_iincN C (oX3_countOnCycles.at 87 rfl) rfl ?_
              refine v_goto C (oX3_countOnCycles.at 88 rfl) (tgt := 88) (by decide) ?_
              dsimp only [sto1, sto2, killL]
              exact ih (b + 1) _ _ (by omega)
            · exact absurd hc (by omega)
          | succ d2 ih2 =>
            intro b l6 hbd
            have hpe := plc_le (p := a) (q := b) (by omega)
            have hpi : tri a + b < tri n := by
              have := plc_in n hn9 a (by omega) b (by omega)
              rw [hpe] at this
              exact this
            have hb45 := hwl (tri n) (tri a + b)
            have hgv := hg (tri a + b) hpi
            have hbt : wsh (pr0 k n T) (tri n) (tri a + b) / 2 ^ (tri a + b) ≤ wsh (pr0 k n T) (tri n) (tri a + b) := Nat.div_le_self _ _
            refine v_iload C (oX3_countOnCycles.at 61 rfl) rfl ?_
            refine v_iload C (oX3_countOnCycles.at 62 rfl) rfl ?_
            refine v_icmp_geN C (oX3_countOnCycles.at 63 rfl) (tgt := 147) (by decide) (by omega) (by omega) (fun hc => ?_) (fun hc => ?_)
            · exact absurd hc (by omega)
            · refine v_iload C (oX3_countOnCycles.at 64 rfl) rfl ?_
              refine v_iload C (oX3_countOnCycles.at 65 rfl) rfl ?_
              refine v_callS C (oX3_countOnCycles.at 66 rfl) cX3_23 (k_place (by omega) (by omega)) rfl rfl rfl ⟨rfl, rfl⟩ rfl rfl (fun _ => rfl) (fun h' hp => ?_)
              rw [show h' = _ from hp]
              dsimp only [Option.toList, List.cons_append, List.nil_append]
              refine v_istore C (oX3_countOnCycles.at 67 rfl) rfl ?_
              dsimp only [sto1, sto2, killL]
              rw [hpe]
              refine v_iload_n C (oX3_countOnCycles.at 68 rfl) rfl ?_
              refine v_aload_n C (oX3_countOnCycles.at 69 rfl) rfl ?_
              refine v_getf C (oX3_countOnCycles.at 70 rfl) fX3_9 (hpo _) rfl ?_
              refine v_iload C (oX3_countOnCycles.at 71 rfl) rfl ?_
              refine v_lald C (oX3_countOnCycles.at 72 rfl) (hu_s _ _ _) (by decide) rfl (by omega) hgv ?_
              refine v_iload C (oX3_countOnCycles.at 73 rfl) rfl ?_
              refine v_lushrN C (oX3_countOnCycles.at 74 rfl) (by omega) (by omega) ?_
              refine v_lconst C (oX3_countOnCycles.at 75 rfl) (v := lN 1) rfl ?_
              refine v_landN C (oX3_countOnCycles.at 76 rfl) (by omega) (by omega) ?_
              refine v_lconst C (oX3_countOnCycles.at 77 rfl) (v := lN 0) rfl ?_
              refine v_lcmp C (oX3_countOnCycles.at 78 rfl) ?_
              refine v_if_eq C (oX3_countOnCycles.at 79 rfl) (tgt := 138) (by decide) (fun hc => ?_) (fun hc => ?_)
              · have hf := (cmp_bit (by omega)).mp hc
                refine v_iconst C (oX3_countOnCycles.at 82 rfl) (v := nI 0) rfl ?_
                refine v_iaddN C (oX3_countOnCycles.at 83 rfl) ?_
                refine v_istore_n C (oX3_countOnCycles.at 84 rfl) rfl ?_
                refine v_iincN C (oX3_countOnCycles.at 85 rfl) rfl ?_
                refine v_goto C (oX3_countOnCycles.at 86 rfl) (tgt := 100) (by decide) ?_
                dsimp only [sto1, sto2, killL]
                have := ih2 (b + 1) (some (.int (nI (tri a + b)))) (by omega)
                rw [sumN, cy1, clo2, if_neg (by rw [hf]; decide)] at this
                exact this
              · have hf : (wsh (pr0 k n T) (tri n) (tri a + b)).testBit (tri a + b) = true := by
                  cases h9 : (wsh (pr0 k n T) (tri n) (tri a + b)).testBit (tri a + b)
                  · exact absurd ((cmp_bit (by omega)).mpr h9) hc
                  · rfl
                refine v_iconst C (oX3_countOnCycles.at 80 rfl) (v := nI 2) rfl ?_
                refine v_goto C (oX3_countOnCycles.at 81 rfl) (tgt := 139) (by decide) ?_
                refine v_iaddN C (oX3_countOnCycles.at 83 rfl) ?_
                refine v_istore_n C (oX3_countOnCycles.at 84 rfl) rfl ?_
                refine v_iincN C (oX3_countOnCycles.at 85 rfl) rfl ?_
                refine v_goto C (oX3_countOnCycles.at 86 rfl) (tgt := 100) (by decide) ?_
                dsimp only [sto1, sto2, killL]
                have := ih2 (b + 1) (some (.int (nI (tri a + b)))) (by omega)
                rw [sumN, cy1, clo2, if_pos hf] at this
                exact this
    · exact absurd hc (by omega)
  | succ d ih =>
    intro m g l4 hmd hg
    have hbm := hwl m m
    refine v_iload_n C (oX3_countOnCycles.at 17 rfl) rfl ?_
    refine v_iload_n C (oX3_countOnCycles.at 18 rfl) rfl ?_
    refine v_icmp_geN C (oX3_countOnCycles.at 19 rfl) (tgt := 83) (by decide) (by omega) (by omega) (fun hc => ?_) (fun hc => ?_)
    · exact absurd hc (by omega)
    · refine v_iconst C (oX3_countOnCycles.at 20 rfl) (v := nI 0) rfl ?_
      refine v_istore C (oX3_countOnCycles.at 21 rfl) rfl ?_
      dsimp only [sto1, sto2, killL]
      suffices H : ∀ d i g, i + d = tri n → (∀ j, j < tri n → g j = lN (if j < i then wsh (pr0 k n T) (m + 1) j else wsh (pr0 k n T) m j)) → V X (0, 0) w (hu h (p + 1) (jo 45 g)) 33 [some (.ref p), some (.ref r), some (.int (nI (tri n))), some (.int (nI m)), some (.int (nI i)), none, none] [] by
        exact H (tri n) 0 g (by omega) hg
      intro d2
      induction d2 with
      | zero =>
        intro i g hid hg
        refine v_iload C (oX3_countOnCycles.at 22 rfl) rfl ?_
        refine v_iload_n C (oX3_countOnCycles.at 23 rfl) rfl ?_
        refine v_icmp_geN C (oX3_countOnCycles.at 24 rfl) (tgt := 77) (by decide) (by omega) (by omega) (fun hc => ?_) (fun hc => ?_)
        · refine v_iincN C (oX3_countOnCycles.at 49 rfl) rfl ?_
          refine v_goto C (oX3_countOnCycles.at 50 rfl) (tgt := 25) (by decide) ?_
          dsimp only [sto1, sto2, killL]
          refine ih (m + 1) g _ (by omega) (fun j hj => ?_)
          rw [hg j hj, if_pos (by omega)]
        · exact absurd hc (by omega)
      | succ d2 ih2 =>
        intro i g hid hg
        have hbi := hwl m i
        have hgi := hg i (by omega)
        rw [if_neg (by omega)] at hgi
        have hgm : g m = lN (wsh (pr0 k n T) m m) := by
          rw [hg m (by omega)]
          split
          · rw [wsh_mm]
          · rfl
        have hdi : wsh (pr0 k n T) m i / 2 ^ m ≤ wsh (pr0 k n T) m i := Nat.div_le_self _ _
        refine v_iload C (oX3_countOnCycles.at 22 rfl) rfl ?_
        refine v_iload_n C (oX3_countOnCycles.at 23 rfl) rfl ?_
        refine v_icmp_geN C (oX3_countOnCycles.at 24 rfl) (tgt := 77) (by decide) (by omega) (by omega) (fun hc => ?_) (fun hc => ?_)
        · exact absurd hc (by omega)
        · refine v_aload_n C (oX3_countOnCycles.at 25 rfl) rfl ?_
          refine v_getf C (oX3_countOnCycles.at 26 rfl) fX3_9 (hpo _) rfl ?_
          refine v_iload C (oX3_countOnCycles.at 27 rfl) rfl ?_
          refine v_lald C (oX3_countOnCycles.at 28 rfl) (hu_s _ _ _) (by decide) rfl (by omega) hgi ?_
          refine v_iload_n C (oX3_countOnCycles.at 29 rfl) rfl ?_
          refine v_lushrN C (oX3_countOnCycles.at 30 rfl) (by omega) (by omega) ?_
          refine v_lconst C (oX3_countOnCycles.at 31 rfl) (v := lN 1) rfl ?_
          refine v_landN C (oX3_countOnCycles.at 32 rfl) (by omega) (by omega) ?_
          refine v_lconst C (oX3_countOnCycles.at 33 rfl) (v := lN 0) rfl ?_
          refine v_lcmp C (oX3_countOnCycles.at 34 rfl) ?_
          refine v_if_eq C (oX3_countOnCycles.at 35 rfl) (tgt := 71) (by decide) (fun hc => ?_) (fun hc => ?_)
          · have hf := (cmp_bit (by omega)).mp hc
            refine v_iincN C (oX3_countOnCycles.at 47 rfl) rfl ?_
            refine v_goto C (oX3_countOnCycles.at 48 rfl) (tgt := 33) (by decide) ?_
            dsimp only [sto1, sto2, killL]
            refine ih2 (i + 1) g (by omega) (fun j hj => ?_)
            rw [hg j hj]
            by_cases e1 : j < i
            · rw [if_pos e1, if_pos (by omega)]
            · rw [if_neg e1]
              by_cases e2 : j = i
              · subst e2
                rw [if_pos (by omega), wsh_s, if_neg (by rw [hf]; decide)]
              · rw [if_neg (by omega)]
          · have hf : (wsh (pr0 k n T) m i).testBit m = true := by
              cases h9 : (wsh (pr0 k n T) m i).testBit m
              · exact absurd ((cmp_bit (by omega)).mpr h9) hc
              · rfl
            refine v_aload_n C (oX3_countOnCycles.at 36 rfl) rfl ?_
            refine v_getf C (oX3_countOnCycles.at 37 rfl) fX3_9 (hpo _) rfl ?_
            refine v_iload C (oX3_countOnCycles.at 38 rfl) rfl ?_
            refine v_dup2 C (oX3_countOnCycles.at 39 rfl) rfl rfl ?_
            refine v_lald C (oX3_countOnCycles.at 40 rfl) (hu_s _ _ _) (by decide) rfl (by omega) hgi ?_
            refine v_aload_n C (oX3_countOnCycles.at 41 rfl) rfl ?_
            refine v_getf C (oX3_countOnCycles.at 42 rfl) fX3_9 (hpo _) rfl ?_
            refine v_iload_n C (oX3_countOnCycles.at 43 rfl) rfl ?_
            refine v_lald C (oX3_countOnCycles.at 44 rfl) (hu_s _ _ _) (by decide) rfl (by omega) hgm ?_
            refine v_lorN C (oX3_countOnCycles.at 45 rfl) (by omega) (by omega) ?_
            refine v_last C (oX3_countOnCycles.at 46 rfl) (hu_s _ _ _) (by decide) rfl (by omega) ?_
            rw [hu_hu]
            refine v_iincN C (oX3_countOnCycles.at 47 rfl) rfl ?_
            refine v_goto C (oX3_countOnCycles.at 48 rfl) (tgt := 33) (by decide) ?_
            dsimp only [sto1, sto2, killL]
            refine ih2 (i + 1) _ (by omega) (fun j hj => ?_)
            by_cases e2 : j = i
            · subst e2
              rw [pk_uLs, if_pos (by omega), wsh_s, if_pos hf]
            · rw [pk_uLn e2, hg j hj]
              by_cases e1 : j < i
              · rw [if_pos e1, if_pos (by omega)]
              · rw [if_neg e1, if_neg (by omega)]
