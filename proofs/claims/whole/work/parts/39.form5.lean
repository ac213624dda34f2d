/-! ===== floorMod, Formula.evaluate, Formula.add ===== -/
def fmN (x : Int32) (k : Nat) : Nat := (x.toInt % (k : Int)).toNat
theorem fmN_lt {x : Int32} {k : Nat} (hk : 0 < k) : fmN x k < k := by
  unfold fmN
  have h1 := Int.emod_nonneg x.toInt (b := (k : Int)) (by omega)
  have h2 := Int.emod_lt_of_pos x.toInt (b := (k : Int)) (by omega)
  omega
theorem tdv (X : Int) (k : Int) (h0 : X < 0) : X.tdiv k = -((-X) / k) := by
  have e : X = -(-X) := by omega
  rw [e, Int.neg_tdiv, Int.tdiv_eq_ediv_of_nonneg (by omega), Int.neg_neg]
theorem rem23 {x : Int32} {k : Nat} (hk : k = 2 ∨ k = 3) : (x - x / nI k * nI k).toInt = if 0 ≤ x.toInt then x.toInt % k else -((-x.toInt) % k) := by
  have h1 := x.toInt_lt
  have h2 := x.le_toInt
  have hd : (x / nI k).toInt = x.toInt.tdiv k := by
    rw [Int32.toInt_div_of_ne_right _ _ (by rcases hk with rfl | rfl <;> decide), nI_toInt (by omega)]
  have hq : (0 ≤ x.toInt → x.toInt.tdiv k = x.toInt / k) ∧ (x.toInt < 0 → x.toInt.tdiv k = -((-x.toInt) / k)) := ⟨fun h => Int.tdiv_eq_ediv_of_nonneg h, fun h => tdv _ _ h⟩
  rw [Int32.toInt_sub, Int32.toInt_mul, hd, nI_toInt (by omega)]
  generalize x.toInt.tdiv k = Q at *
  generalize x.toInt = Y at *
  rcases hk with rfl | rfl
  · have e1 : (Q * (2 : Nat)).bmod (2 ^ 32) = Q * 2 := Int.bmod_eq_of_le (by omega) (by omega)
    rw [e1, Int.bmod_eq_of_le (by omega) (by omega)]
    split <;> omega
  · have e1 : (Q * (3 : Nat)).bmod (2 ^ 32) = Q * 3 := Int.bmod_eq_of_le (by omega) (by omega)
    rw [e1, Int.bmod_eq_of_le (by omega) (by omega)]
    split <;> omega
theorem xor_sg {x : Int32} {k : Nat} (hk : k = 2 ∨ k = 3) : (0 ≤ x ^^^ nI k) ↔ 0 ≤ x.toInt := by
  rw [Int32.le_iff_toInt_le, show (0 : Int32).toInt = 0 from by decide]
  have h1 : (x ^^^ nI k).toBitVec.msb = x.toBitVec.msb := by
    rw [Int32.toBitVec_xor, BitVec.msb_xor]
    rcases hk with rfl | rfl
    · rw [show (nI 2).toBitVec.msb = false from by decide, Bool.xor_false]
    · rw [show (nI 3).toBitVec.msb = false from by decide, Bool.xor_false]
  rw [BitVec.msb_eq_toInt, BitVec.msb_eq_toInt] at h1
  have h2 : ((x ^^^ nI k).toBitVec.toInt < 0) ↔ (x.toBitVec.toInt < 0) := by
    rw [← decide_eq_true_iff (p := (x ^^^ nI k).toBitVec.toInt < 0), ← decide_eq_true_iff (p := x.toBitVec.toInt < 0), h1]
  show 0 ≤ (x ^^^ nI k).toBitVec.toInt ↔ 0 ≤ x.toBitVec.toInt
  omega
theorem k_floorMod {w : Wt} {h : Hp} {x : Int32} {k : Nat} (hk : k = 2 ∨ k = 3) : ConN mJ9_floorMod_7cf53 0 (0, 0) w [.int x, .int (nI k)] h (.inl (some (.int (nI (fmN x k))))) (fun h' => h' = h) := by
  have hr := rem23 (x := x) hk
  have hx := xor_sg (x := x) hk
  have hf : fmN x k < k := fmN_lt (by omega)
  have hfi : (fmN x k : Int) = x.toInt % k := by
    unfold fmN
    have h1 := Int.emod_nonneg x.toInt (b := (k : Int)) (by omega)
    omega
  have hne : ¬ nI k = 0 := by rcases hk with rfl | rfl <;> decide
  have h0i : (0 : Int32).toInt = 0 := by decide
  refine conF (by decide +kernel) ⟨fun _ => rfl, rfl, by simp⟩ (fun X C => ?_)
  change V X (0, 0) w h 0 [some (.int x), some (.int (nI k)), none] []
  refine v_iload_n C (oJ9_floorMod_7cf53.at 0 rfl) rfl ?_
  refine v_iload_n C (oJ9_floorMod_7cf53.at 1 rfl) rfl ?_
  refine v_irem C (oJ9_floorMod_7cf53.at 2 rfl) hne ?_
  refine v_istore_n C (oJ9_floorMod_7cf53.at 3 rfl) rfl ?_
  dsimp only [sto1, sto2, killL]
  generalize x - x / nI k * nI k = r at *
  have fin : (0 ≤ x.toInt ∨ r = 0) → r = nI (fmN x k) := by
    intro hh
    apply Int32.toInt_inj.mp
    rw [nI_toInt (by omega), hfi, hr]
    rcases hh with a | a
    · rw [if_pos a]
    · rw [a, h0i] at hr
      split
      · rfl
      · next a2 =>
        rw [if_neg a2] at hr
        rcases hk with rfl | rfl <;> omega
  have fin2 : x.toInt < 0 → r ≠ 0 → r + nI k = nI (fmN x k) := by
    intro a b
    have b2 : r.toInt ≠ 0 := fun q => b (Int32.toInt_inj.mp (q.trans h0i.symm))
    apply Int32.toInt_inj.mp
    rw [nI_toInt (by omega), hfi, Int32.toInt_add, hr, nI_toInt (by omega), if_neg (by omega)]
    rw [hr, if_neg (by omega)] at b2
    generalize x.toInt = Y at *
    rcases hk with rfl | rfl
    · rw [Int.bmod_eq_of_le (by omega) (by omega)]; omega
    · rw [Int.bmod_eq_of_le (by omega) (by omega)]; omega
  refine v_iload_n C (oJ9_floorMod_7cf53.at 4 rfl) rfl ?_
  refine v_iload_n C (oJ9_floorMod_7cf53.at 5 rfl) rfl ?_
  refine v_ixor C (oJ9_floorMod_7cf53.at 6 rfl) ?_
  refine v_if_ge C (oJ9_floorMod_7cf53.at 7 rfl) (tgt := 18) (by decide) (fun hc => ?_) (fun hc => ?_)
  · rw [← fin (Or.inl (hx.mp hc))] at C
    refine v_iload_n C (oJ9_floorMod_7cf53.at 14 rfl) rfl ?_
    exact v_iret C (oJ9_floorMod_7cf53.at 15 rfl) rfl rfl ⟨Nat.le_refl _, Nat.le_refl _⟩ ⟨rfl, rfl⟩
  · refine v_iload_n C (oJ9_floorMod_7cf53.at 8 rfl) rfl ?_
    refine v_if_eq C (oJ9_floorMod_7cf53.at 9 rfl) (tgt := 18) (by decide) (fun hc => ?_) (fun hc => ?_)
    · rw [← fin (Or.inr hc)] at C
      refine v_iload_n C (oJ9_floorMod_7cf53.at 14 rfl) rfl ?_
      exact v_iret C (oJ9_floorMod_7cf53.at 15 rfl) rfl rfl ⟨Nat.le_refl _, Nat.le_refl _⟩ ⟨rfl, rfl⟩
    · rw [← fin2 (by
        apply Int.not_le.mp
        exact fun q => absurd (hx.mpr q) (by assumption)) hc] at C
      refine v_iload_n C (oJ9_floorMod_7cf53.at 10 rfl) rfl ?_
      refine v_iload_n C (oJ9_floorMod_7cf53.at 11 rfl) rfl ?_
      refine v_iadd C (oJ9_floorMod_7cf53.at 12 rfl) ?_
      exact v_iret C (oJ9_floorMod_7cf53.at 13 rfl) rfl rfl ⟨Nat.le_refl _, Nat.le_refl _⟩ ⟨rfl, rfl⟩
theorem FmOK.cells {h : Hp} {p len ek : Nat} {ep : Int32} {c t : List Nat} {tx : Nat → Nat} {g : Nat → Int32} (H : FmOK h p len ek ep c t tx) : FmOK (hu h (p + 5) (io 4 g)) p len ek ep c t tx := by
  obtain ⟨f1, f2, f3, f4, f5, a0, a1, a2, a3, a4, a5, a6, a7, a8, a9, a10⟩ := H
  exact ⟨f1, f2, f3, f4, g, (hu_n _ _ (by omega)).trans a0, (hu_n _ _ (by omega)).trans a1, a2, (hu_n _ _ (by omega)).trans a3, a4, a5, (hu_n _ _ (by omega)).trans a6, a7, a8, (hu_n _ _ (by omega)).trans a9, hu_s _ _ _⟩
theorem FmOK.eq {h h' : Hp} {p len ek : Nat} {ep : Int32} {c t : List Nat} {tx : Nat → Nat} (H : FmOK h p len ek ep c t tx) (he : ∀ j, p ≤ j → j ≤ p + 5 → h' j = h j) : FmOK h' p len ek ep c t tx := by
  obtain ⟨f1, f2, f3, f4, f5, a0, a1, a2, a3, a4, a5, a6, a7, a8, a9, a10⟩ := H
  exact ⟨f1, f2, f3, f4, f5, (he _ (by omega) (by omega)).trans a0, (he _ (by omega) (by omega)).trans a1, a2, (he _ (by omega) (by omega)).trans a3, a4, a5, (he _ (by omega) (by omega)).trans a6, a7, a8, (he _ (by omega) (by omega)).trans a9, (he _ (by omega) (by omega)).trans a10⟩
theorem FmOK.c5 {h : Hp} {p len ek : Nat} {ep : Int32} {c t : List Nat} {tx : Nat → Nat} (H : FmOK h p len ek ep c t tx) : ∃ f5, h (p + 5) = io 4 f5 := by
  obtain ⟨f1, f2, f3, f4, f5, a0, a1, a2, a3, a4, a5, a6, a7, a8, a9, a10⟩ := H
  exact ⟨f5, a10⟩
theorem evR_k {cl : Nat → Nat} : ∀ l, (evR cl l).1 ≤ 5
  | [] => Nat.zero_le _
  | x :: l => by
    have ih := evR_k (cl := cl) l
    rw [evR]
    split
    · unfold vst cmbK
      repeat' split
      all_goals (dsimp only; (try omega))
    · exact ih
theorem k_evaluate {w : Wt} {h : Hp} {p len wd r k n q e : Nat} {ep : Int32} {c t : List Nat} {tx : Nat → Nat} {f0 : Nat → Int32} (hF : FmOK h p len 0 ep c t tx) (hr : h r = RO r k wd n (k ^ wd)) (hs : SZ k wd) (hq : h q = io 27 f0) (hrp : r < p) (hqp : p + 5 < q) (hok : okc wd c) (h1 : hgt wd c = 1) (hl : c.length ≤ 40) (he : e ≤ k ^ wd) (hE : ∀ i, i < e → (evR (cel k wd i) c).1 = 0) (hE2 : e < k ^ wd → (evR (cel k wd e) c).1 ≠ 0) : ConN mX0_evaluate 3 (0, 0) w [.ref p, .ref r, .ref q] h (.inl none) (fun h' => ∃ f, h' q = io 27 f ∧ (∀ i, i < e → f i = nI (fmN ((evR (cel k wd i) c).2.headD 0) k)) ∧ FmOK h' p len (if e < k ^ wd then (evR (cel k wd e) c).1 else 0) (if e < k ^ wd then nI e else ep) c t tx ∧ ∀ j, (j < p ∨ p + 5 < j) → j ≠ q → h' j = h j) := by
  have hm := hs.m
  have hk := hs.k
  have hwd := hs.w
  refine conI (by decide +kernel) ⟨fun _ => rfl, rfl, by simp⟩ (fun X C => ?_)
  change V X (0, 0) w h 0 [some (.ref p), some (.ref r), some (.ref q), none, none] []
  refine v_iconst C (oX0_evaluate.at 0 rfl) (v := nI 0) rfl ?_
  refine v_istore_n C (oX0_evaluate.at 1 rfl) rfl ?_
  dsimp only [sto1, sto2, killL]
  suffices H : ∀ d i H f l4, i + d = e → H q = io 27 f → (∀ j, j < i → f j = nI (fmN ((evR (cel k wd j) c).2.headD 0) k)) → FmOK H p len 0 ep c t tx → (∀ j, (j < p ∨ p + 5 < j) → j ≠ q → H j = h j) → V X (0, 0) w H 2 [some (.ref p), some (.ref r), some (.ref q), some (.int (nI i)), l4] [] by
    exact H e 0 h f0 none (by omega) hq (fun j hj => by omega) hF (fun _ _ _ => rfl)
  have step : ∀ i H f, i < k ^ wd → H q = io 27 f → FmOK H p len 0 ep c t tx → (∀ j, (j < p ∨ p + 5 < j) → j ≠ q → H j = h j) → (∀ H2, FmOK H2 p len (evR (cel k wd i) c).1 ep c t tx → H2 q = io 27 f → (∀ j, (j < p ∨ p + 5 < j) → j ≠ q → H2 j = h j) → V X (0, 0) w H2 29 [some (.ref p), some (.ref r), some (.ref q), some (.int (nI i)), some (.int (if (evR (cel k wd i) c).1 = 0 then (evR (cel k wd i) c).2.headD 0 else 0))] []) → ∀ l4, V X (0, 0) w H 10 [some (.ref p), some (.ref r), some (.ref q), some (.int (nI i)), l4] [] := by
    intro i H f hi hHq hHF hfr K l4
    have hHr : H r = RO r k wd n (k ^ wd) := (hfr r (by omega) (by omega)).trans hr
    obtain ⟨f5, h5⟩ := hHF.c5
    have ks := k_spreadWord (w := w) (x := i) (len := wd) hHr hk (by omega) (by omega) (by decide) h5 (by omega)
    refine v_aload_n C (oX0_evaluate.at 6 rfl) rfl ?_
    refine v_iload_n C (oX0_evaluate.at 7 rfl) rfl ?_
    refine v_aload_n C (oX0_evaluate.at 8 rfl) rfl ?_
    refine v_getf C (oX0_evaluate.at 9 rfl) fX0_86 hHr rfl ?_
    refine v_aload_n C (oX0_evaluate.at 10 rfl) rfl ?_
    refine v_getf C (oX0_evaluate.at 11 rfl) fX0_34 hHF.o rfl ?_
    refine v_callV C (oX0_evaluate.at 12 rfl) cX0_89 hHr (ks) rfl rfl rfl ⟨rfl, rfl⟩ rfl rfl (fun _ => rfl) (fun h' hp => ?_)
    dsimp only [Option.toList, List.cons_append, List.nil_append]
    rw [show h' = _ from hp]
    have hF2 := hHF.cells (g := spw k wd i f5 0)
    have hsp : ∀ j, j < wd → spw k wd i f5 0 j = nI (cel k wd i j) := fun j hj => if_pos ⟨Nat.zero_le _, hj⟩
    have hq2 : hu H (p + 5) (io 4 (spw k wd i f5 0)) q = io 27 f := (hu_n _ _ (by omega)).trans hHq
    have hf2 : ∀ j, (j < p ∨ p + 5 < j) → j ≠ q → hu H (p + 5) (io 4 (spw k wd i f5 0)) j = h j := fun j a b => (hu_n _ _ (by omega)).trans (hfr j a b)
    have hc2 : hu H (p + 5) (io 4 (spw k wd i f5 0)) (p + 5) = io 4 (spw k wd i f5 0) := hu_s _ _ _
    generalize hu H (p + 5) (io 4 (spw k wd i f5 0)) = H1 at *
    have kv := k_value (w := w) hF2 hc2 hsp hok h1 hl
    refine v_aload_n C (oX0_evaluate.at 13 rfl) rfl ?_
    refine v_callV C (oX0_evaluate.at 14 rfl) cX0_93 hF2.o (kv) rfl rfl rfl ⟨rfl, rfl⟩ rfl rfl (fun _ => rfl) (fun h' hp => ?_)
    dsimp only [Option.toList, List.cons_append, List.nil_append]
    obtain ⟨b1, b2, b3⟩ := hp
    refine v_istore C (oX0_evaluate.at 15 rfl) rfl ?_
    dsimp only [sto1, sto2, killL]
    exact K _ b1 ((b2 q (by omega)).trans hq2) (fun j a b => (b2 j a).trans (hf2 j a b))
  intro d
  induction d with
  | zero =>
    intro i H f l4 hi hHq hf hHF hfr
    have hHr : H r = RO r k wd n (k ^ wd) := (hfr r (by omega) (by omega)).trans hr
    obtain rfl : i = e := by omega
    refine v_iload_n C (oX0_evaluate.at 2 rfl) rfl ?_
    refine v_aload_n C (oX0_evaluate.at 3 rfl) rfl ?_
    refine v_getf C (oX0_evaluate.at 4 rfl) fX0_83 hHr rfl ?_
    refine v_icmp_geN C (oX0_evaluate.at 5 rfl) (tgt := 74) (by decide) (by omega) (by omega) (fun hc => ?_) (fun hc => ?_)
    · rw [if_neg (by omega), if_neg (by omega)] at C
      exact v_vret C (oX0_evaluate.at 39 rfl) rfl rfl ⟨Nat.le_refl _, Nat.le_refl _⟩ ⟨rfl, f, hHq, hf, hHF, hfr⟩
    · refine step i H f hc hHq hHF hfr (fun H2 c1 c2 c3 => ?_) l4
      have hk5 := evR_k (cl := cel k wd i) c
      rw [if_pos hc, if_pos hc] at C
      have e0 := hE2 hc
      refine v_aload_n C (oX0_evaluate.at 16 rfl) rfl ?_
      refine v_getf C (oX0_evaluate.at 17 rfl) fX0_13 c1.o rfl ?_
      refine v_if_eqN C (oX0_evaluate.at 18 rfl) (tgt := 42) (by decide) (by omega) (fun hc => ?_) (fun hc => ?_)
      · exact absurd hc e0
      · refine v_aload_n C (oX0_evaluate.at 19 rfl) rfl ?_
        refine v_iload_n C (oX0_evaluate.at 20 rfl) rfl ?_
        refine v_putI C (oX0_evaluate.at 21 rfl) fX0_16 p0_2 c1.o rfl ?_
        refine v_vret C (oX0_evaluate.at 22 rfl) rfl rfl ⟨Nat.le_refl _, Nat.le_refl _⟩ ⟨rfl, f, (hu_n _ _ (by omega)).trans c2, hf, c1.fld, fun j a b => (hu_n _ _ (by omega)).trans (c3 j a b)⟩
  | succ d ih =>
    intro i H f l4 hi hHq hf hHF hfr
    have hHr : H r = RO r k wd n (k ^ wd) := (hfr r (by omega) (by omega)).trans hr
    refine v_iload_n C (oX0_evaluate.at 2 rfl) rfl ?_
    refine v_aload_n C (oX0_evaluate.at 3 rfl) rfl ?_
    refine v_getf C (oX0_evaluate.at 4 rfl) fX0_83 hHr rfl ?_
    refine v_icmp_geN C (oX0_evaluate.at 5 rfl) (tgt := 74) (by decide) (by omega) (by omega) (fun hc => ?_) (fun hc => ?_)
    · exact absurd hc (by omega)
    · refine step i H f hc hHq hHF hfr (fun H2 c1 c2 c3 => ?_) l4
      have e0 := hE i (by omega)
      rw [e0] at c1
      rw [if_pos e0]
      have fin : ∀ l4, V X (0, 0) w (hu H2 q (io 27 (upd f i (nI (fmN ((evR (cel k wd i) c).2.headD 0) k))))) 2 [some (.ref p), some (.ref r), some (.ref q), some (.int (nI (i + 1))), l4] [] := by
        intro l4
        refine ih (i + 1) _ _ l4 (by omega) (hu_s _ _ _) (fun j hj => ?_) (c1.eq (fun j a b => hu_n _ _ (by omega))) (fun j a b => (hu_n _ _ b).trans (c3 j a b))
        by_cases e1 : j = i
        · subst e1; rw [pk_us]
        · rw [pk_un e1]; exact hf j (by omega)
      have hHr2 : H2 r = RO r k wd n (k ^ wd) := (c3 r (by omega) (by omega)).trans hr
      refine v_aload_n C (oX0_evaluate.at 16 rfl) rfl ?_
      refine v_getf C (oX0_evaluate.at 17 rfl) fX0_13 c1.o rfl ?_
      refine v_if_eqN C (oX0_evaluate.at 18 rfl) (tgt := 42) (by decide) (by omega) (fun hc => ?_) (fun hc => ?_)
      · refine v_aload_n C (oX0_evaluate.at 23 rfl) rfl ?_
        refine v_iload_n C (oX0_evaluate.at 24 rfl) rfl ?_
        refine v_aload_n C (oX0_evaluate.at 25 rfl) rfl ?_
        refine v_getf C (oX0_evaluate.at 26 rfl) fX0_96 hHr2 rfl ?_
        refine v_iconst C (oX0_evaluate.at 27 rfl) (v := nI 2) rfl ?_
        refine v_icmp_neN C (oX0_evaluate.at 28 rfl) (tgt := 61) (by decide) (by omega) (by omega) (fun hc => ?_) (fun hc => ?_)
        · obtain rfl : k = 3 := by omega
          refine v_iload C (oX0_evaluate.at 33 rfl) rfl ?_
          refine v_iconst C (oX0_evaluate.at 34 rfl) (v := nI 3) rfl ?_
          refine v_callS C (oX0_evaluate.at 35 rfl) cX0_99 (k_floorMod (Or.inr rfl)) rfl rfl rfl ⟨rfl, rfl⟩ rfl rfl (fun _ => rfl) (fun h' hp => ?_)
          rw [show h' = _ from hp]
          dsimp only [Option.toList, List.cons_append, List.nil_append]
          refine v_iast C (oX0_evaluate.at 36 rfl) c2 (by decide) rfl (by omega) ?_
          refine v_iincN C (oX0_evaluate.at 37 rfl) rfl ?_
          refine v_goto C (oX0_evaluate.at 38 rfl) (tgt := 2) (by decide) ?_
          dsimp only [sto1, sto2, killL]
          exact fin _
        · obtain rfl : k = 2 := by omega
          refine v_iload C (oX0_evaluate.at 29 rfl) rfl ?_
          refine v_iconst C (oX0_evaluate.at 30 rfl) (v := nI 2) rfl ?_
          refine v_callS C (oX0_evaluate.at 31 rfl) cX0_99 (k_floorMod (Or.inl rfl)) rfl rfl rfl ⟨rfl, rfl⟩ rfl rfl (fun _ => rfl) (fun h' hp => ?_)
          rw [show h' = _ from hp]
          dsimp only [Option.toList, List.cons_append, List.nil_append]
          refine v_goto C (oX0_evaluate.at 32 rfl) (tgt := 67) (by decide) ?_
          refine v_iast C (oX0_evaluate.at 36 rfl) c2 (by decide) rfl (by omega) ?_
          refine v_iincN C (oX0_evaluate.at 37 rfl) rfl ?_
          refine v_goto C (oX0_evaluate.at 38 rfl) (tgt := 2) (by decide) ?_
          dsimp only [sto1, sto2, killL]
          exact fin _
      · exact absurd rfl hc
theorem k_add {w : Wt} {h : Hp} {p len ek s : Nat} {ep : Int32} {c t : List Nat} {tx : Nat → Nat} (hF : FmOK h p len ek ep c t tx) (hl : len < 40) : ConN mX0_add 0 (0, 0) w [.ref p, .int (nI s)] h (.inl none) (fun h' => FmOK h' p (len + 1) ek ep c t (updN tx len s) ∧ FmC h p h') := by
  obtain ⟨f1, f2, f3, f4, f5, a0, a1, a2, a3, a4, a5, a6, a7, a8, a9, a10⟩ := hF
  refine conI (by decide +kernel) ⟨fun _ => rfl, rfl, by simp⟩ (fun X C => ?_)
  change V X (0, 0) w h 0 [some (.ref p), some (.int (nI s))] []
  refine v_aload_n C (oX0_add.at 0 rfl) rfl ?_
  refine v_getf C (oX0_add.at 1 rfl) fX0_19 a0 rfl ?_
  refine v_aload_n C (oX0_add.at 2 rfl) rfl ?_
  refine v_getf C (oX0_add.at 3 rfl) fX0_7 a0 rfl ?_
  refine v_iload_n C (oX0_add.at 4 rfl) rfl ?_
  refine v_iast C (oX0_add.at 5 rfl) a1 (by decide) rfl (by omega) ?_
  have b0 : hu h (p + 1) (io 40 (upd f1 len (nI s))) p = FO p len ek ep c.length t.length := (hu_n _ _ (by omega)).trans a0
  refine v_aload_n C (oX0_add.at 6 rfl) rfl ?_
  refine v_dup C (oX0_add.at 7 rfl) rfl ?_
  refine v_getf C (oX0_add.at 8 rfl) fX0_7 b0 rfl ?_
  refine v_iconst C (oX0_add.at 9 rfl) (v := nI 1) rfl ?_
  refine v_iaddN C (oX0_add.at 10 rfl) ?_
  refine v_putI C (oX0_add.at 11 rfl) fX0_7 p0_0 b0 rfl ?_
  refine v_vret C (oX0_add.at 12 rfl) rfl rfl ⟨Nat.le_refl _, Nat.le_refl _⟩ ⟨rfl, ⟨_, f2, f3, f4, f5, hu_s _ _ _, (hu_n _ _ (by omega)).trans (hu_s _ _ _), fun i hi => ?_, ?_, a4, a5, ?_, a7, a8, ?_, ?_⟩, fun j hj => by rw [hu_n _ _ (by omega), hu_n _ _ (by omega)]⟩
  · unfold updN
    by_cases e : i = len
    · rw [e, pk_us, if_pos rfl]
    · rw [pk_un e, if_neg e]; exact a2 i (by omega)
  · rw [hu_n _ _ (by omega), hu_n _ _ (by omega)]; exact a3
  · rw [hu_n _ _ (by omega), hu_n _ _ (by omega)]; exact a6
  · rw [hu_n _ _ (by omega), hu_n _ _ (by omega)]; exact a9
  · rw [hu_n _ _ (by omega), hu_n _ _ (by omega)]; exact a10
