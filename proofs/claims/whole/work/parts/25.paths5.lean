/-! ===== Paths: surveys ===== -/
theorem hw_app (k : Nat) (c : Nat → Nat) (i a : Nat) : ∀ b, hw k c i (a + b) = hw k c i a * k ^ b + hw k c (i + a) b
  | 0 => by simp [hw]
  | b + 1 => by
    rw [← Nat.add_assoc, hw, hw_app k c i a b, hw, Nat.pow_succ, Nat.add_mul, Nat.mul_assoc, Nat.add_assoc, Nat.add_assoc]
theorem cel_hw {k : Nat} {c : Nat → Nat} {L i : Nat} (hi : i < L) (hc : ∀ j, j < L → c j < k) : cel k L (hw k c 0 L) i = c i := by
  have h1 := hw_app k c 0 (i + 1) (L - 1 - i)
  rw [show i + 1 + (L - 1 - i) = L by omega] at h1
  have h2 := hw_lt (k := k) (c := c) (0 + (i + 1)) (L - 1 - i) (fun j hj => hc _ (by omega))
  have hk : 0 < k := Nat.lt_of_le_of_lt (Nat.zero_le _) (hc i hi)
  unfold cel
  rw [h1, Nat.mul_comm, Nat.mul_add_div (Nat.pow_pos hk), Nat.div_eq_of_lt h2, Nat.add_zero, hw, Nat.zero_add, Nat.mul_comm, Nat.mul_add_mod, Nat.mod_eq_of_lt (hc i hi)]
theorem hw_cel0 {k L x : Nat} (hx : x < k ^ L) : hw k (cel k L x) 0 L = x := by
  rw [hw_cel k L x 0 L (by omega), show L - L - 0 = 0 by omega, Nat.pow_zero, Nat.div_one, Nat.mod_eq_of_lt hx]
theorem hw_zero (k : Nat) (c : Nat → Nat) (i : Nat) : ∀ d, (∀ j, j < d → c (i + j) = 0) → hw k c i d = 0
  | 0, _ => rfl
  | d + 1, h => by rw [hw, hw_zero k c i d (fun j hj => h j (by omega)), h d (by omega)]; simp
theorem hw_nine {k : Nat} (hk : 0 < k) (c : Nat → Nat) (i : Nat) : ∀ d, (∀ j, j < d → c (i + j) = k - 1) → hw k c i d + 1 = k ^ d
  | 0, _ => by simp [hw]
  | d + 1, h => by
    have h1 := hw_nine hk c i d (fun j hj => h j (by omega))
    rw [hw, h d (by omega), Nat.pow_succ, ← h1, Nat.add_mul]
    omega
/-- the word behind x: the digits from i + 1 on are the last state's, that at i is not -/
theorem cel_next {k L x i : Nat} (hk : 0 < k) (hx : x < k ^ L) (hi : i < L) (h1 : cel k L x i + 1 < k) (h2 : ∀ j, i < j → j < L → cel k L x j = k - 1) : ∀ j, j < L → cel k L (x + 1) j = if j < i then cel k L x j else if j = i then cel k L x i + 1 else 0 := by
  let c' : Nat → Nat := fun j => if j < i then cel k L x j else if j = i then cel k L x i + 1 else 0
  have hc' : ∀ j, j < L → c' j < k := fun j _ => by
    show (if j < i then cel k L x j else if j = i then cel k L x i + 1 else 0) < k
    split
    · exact cel_lt hk
    · split <;> omega
  have e0 : hw k c' 0 L = x + 1 := by
    have a1 := hw_app k c' 0 (i + 1) (L - 1 - i)
    have a2 := hw_app k (cel k L x) 0 (i + 1) (L - 1 - i)
    rw [show i + 1 + (L - 1 - i) = L by omega] at a1 a2
    rw [hw_cel0 hx] at a2
    have a3 := hw_nine hk (cel k L x) (0 + (i + 1)) (L - 1 - i) (fun j hj => h2 _ (by omega) (by omega))
    have a4 := hw_zero k c' (0 + (i + 1)) (L - 1 - i) (fun j hj => by
      show (if 0 + (i + 1) + j < i then _ else if 0 + (i + 1) + j = i then _ else 0) = 0
      rw [if_neg (by omega), if_neg (by omega)])
    have a5 : hw k c' 0 i = hw k (cel k L x) 0 i := hw_congr i (fun j hj => by
      show (if 0 + j < i then _ else _) = _
      rw [if_pos (by omega)])
    have a6 : c' (0 + i) = cel k L x (0 + i) + 1 := by
      show (if 0 + i < i then _ else if 0 + i = i then _ else 0) = _
      rw [if_neg (by omega), if_pos (by omega), Nat.zero_add]
    have a7 : hw k c' 0 (i + 1) = hw k (cel k L x) 0 (i + 1) + 1 := by
      rw [hw, hw, a5, a6, Nat.add_assoc]
    rw [a1, a4, a7, Nat.add_zero, Nat.add_mul, Nat.one_mul]
    omega
  intro j hj
  have := cel_hw (k := k) (c := c') hj hc'
  rw [e0] at this
  exact this
theorem cel_last {k L x : Nat} (hk : 0 < k) (hx : x < k ^ L) (h2 : ∀ j, j < L → cel k L x j = k - 1) : x + 1 = k ^ L := by
  have := hw_nine hk (cel k L x) 0 L (fun j hj => h2 _ (by omega))
  rw [hw_cel0 hx] at this
  exact this
theorem k_moveToNextWord {w : Wt} {h : Hp} {p r k wd len L x : Nat} {a b : Int32} {T : Nat → Nat} {lf : Nat → Int32} {Wf : Nat → Nat → Int32} (hR : RuleOK h r k wd T) (hs : SZ k wd) (hP : PaOK h p a b len lf Wf) (hsep : r + 5 < p) (hL : L ≤ 14) (hx : x < k ^ L) (hlb : ∀ i, i < L → lf i = nI (cel k L x i)) (fc : Nat) (hfc : (x + 1 = k ^ L ∧ fc = 0) ∨ (x + 1 < k ^ L ∧ fc < L ∧ cel k L x fc + 1 < k ∧ ∀ j, fc < j → j < L → cel k L x j = k - 1)) : ConN mX4_moveToNextWord 0 (0, 0) w [.ref p, .ref r, .int (nI L)] h (.inl (some (.int (nI fc)))) (fun h' => (∃ lf', PaOK h' p a b len lf' Wf ∧ (x + 1 < k ^ L → ∀ i, i < L → lf' i = nI (cel k L (x + 1) i))) ∧ ∀ j, (j < p ∨ p + 17 < j) → h' j = h j) := by
  have hr := hR.ro
  have hk := hs.k
  have hcl : ∀ i, cel k L x i < k := fun i => cel_lt (by omega)
  refine conI (by decide +kernel) ⟨fun _ => rfl, rfl, by simp⟩ (fun X C => ?_)
  change V X (0, 0) w h 0 [some (.ref p), some (.ref r), some (.int (nI L)), none] []
  refine v_iload_n C (oX4_moveToNextWord.at 0 rfl) rfl ?_
  refine v_iconst C (oX4_moveToNextWord.at 1 rfl) (v := nI 1) rfl ?_
  refine v_isubP C (oX4_moveToNextWord.at 2 rfl) ?_
  refine v_istore_n C (oX4_moveToNextWord.at 3 rfl) rfl ?_
  dsimp only [sto1, sto2, killL]
  suffices H : ∀ ai h1 lf1, ai ≤ L → PaOK h1 p a b len lf1 Wf → (∀ j, (j < p ∨ p + 17 < j) → h1 j = h j) → (∀ j, j < ai → lf1 j = nI (cel k L x j)) → (∀ j, ai ≤ j → j < L → lf1 j = nI 0 ∧ cel k L x j = k - 1) → V X (0, 0) w h1 4 [some (.ref p), some (.ref r), some (.int (nI L)), some (.int (pI ai))] [] from H L h lf (Nat.le_refl _) hP (fun _ _ => rfl) hlb (fun j e1 e2 => absurd e1 (by omega))
  intro ai
  induction ai with
  | zero =>
    intro h1 lf1 hai hP1 hfr hla hlz
    have e1 : x + 1 = k ^ L := cel_last (by omega) hx (fun j hj => (hlz j (Nat.zero_le _) hj).2)
    have e2 : fc = 0 := by
      rcases hfc with ⟨_, h0⟩ | ⟨h0, _⟩
      · exact h0
      · omega
    subst e2
    refine v_iload_n C (oX4_moveToNextWord.at 4 rfl) rfl ?_
    refine v_if_ltP C (oX4_moveToNextWord.at 5 rfl) (tgt := 48) (by decide) (by omega) (fun hc => ?_) (fun b hc => ?_)
    · refine v_iconst C (oX4_moveToNextWord.at 32 rfl) (v := nI 0) rfl ?_
      exact v_iret C (oX4_moveToNextWord.at 33 rfl) rfl rfl ⟨Nat.le_refl _, Nat.le_refl _⟩ ⟨rfl, ⟨lf1, hP1, fun h0 => absurd h0 (by omega)⟩, hfr⟩
    · cases hc
  | succ ai ih =>
    intro h1 lf1 hai hP1 hfr hla hlz
    have hr1 : h1 r = RO r k wd (k ^ (wd - 1)) (k ^ wd) := (hfr r (by omega)).trans hr
    have hci := hcl ai
    refine v_iload_n C (oX4_moveToNextWord.at 4 rfl) rfl ?_
    refine v_if_ltP C (oX4_moveToNextWord.at 5 rfl) (tgt := 48) (by decide) (by omega) (fun hc => ?_) (fun b hc => ?_)
    · cases hc
    · cases hc
      rw [pI_succ]
      refine v_aload_n C (oX4_moveToNextWord.at 6 rfl) rfl ?_
      refine v_getf C (oX4_moveToNextWord.at 7 rfl) fX4_9 hP1.1 rfl ?_
      refine v_iload_n C (oX4_moveToNextWord.at 8 rfl) rfl ?_
      refine v_iald C (oX4_moveToNextWord.at 9 rfl) hP1.2.1 (by decide) rfl (by omega) (hla _ (by omega)) ?_
      refine v_aload_n C (oX4_moveToNextWord.at 10 rfl) rfl ?_
      refine v_getf C (oX4_moveToNextWord.at 11 rfl) fX4_63 hr1 rfl ?_
      refine v_iconst C (oX4_moveToNextWord.at 12 rfl) (v := nI 1) rfl ?_
      refine v_isubN C (oX4_moveToNextWord.at 13 rfl) (by omega) ?_
      refine v_icmp_geN C (oX4_moveToNextWord.at 14 rfl) (tgt := 35) (by decide) (by omega) (by omega) (fun hc => ?_) (fun hc => ?_)
      · refine v_aload_n C (oX4_moveToNextWord.at 25 rfl) rfl ?_
        refine v_getf C (oX4_moveToNextWord.at 26 rfl) fX4_9 hP1.1 rfl ?_
        refine v_iload_n C (oX4_moveToNextWord.at 27 rfl) rfl ?_
        refine v_iconst C (oX4_moveToNextWord.at 28 rfl) (v := nI 0) rfl ?_
        refine v_iast C (oX4_moveToNextWord.at 29 rfl) hP1.2.1 (by decide) rfl (by omega) ?_
        refine v_idecP C (oX4_moveToNextWord.at 30 rfl) rfl ?_
        refine v_goto C (oX4_moveToNextWord.at 31 rfl) (tgt := 4) (by decide) ?_
        dsimp only [sto1, sto2, killL]
        refine ih _ (upd lf1 ai (nI 0)) (by omega) ⟨(hu_n _ _ (by omega)).trans hP1.1, hu_s _ _ _, (hu_n _ _ (by omega)).trans hP1.2.2.1, fun i hi => (hu_n _ _ (by omega)).trans (hP1.2.2.2 i hi)⟩ (fun j hj => (hu_n _ _ (by omega)).trans (hfr j hj)) (fun j hj => ?_) (fun j e1 e2 => ?_)
        · rw [pk_un (by omega)]; exact hla j (by omega)
        · by_cases e3 : j = ai
          · subst e3; rw [pk_us]; exact ⟨rfl, by omega⟩
          · rw [pk_un e3]; exact hlz j (by omega) e2
      · have e0 : x + 1 < k ^ L ∧ fc = ai := by
          rcases hfc with ⟨e1, e2⟩ | ⟨e1, e2, e3, e4⟩
          · exfalso
            have : ∀ j, j < L → cel k L x j = k - 1 := fun j hj => by
              have a3 := hw_nine (k := k) (by omega) (fun _ => k - 1) 0 L (fun _ _ => rfl)
              have a4 : x = hw k (fun _ => k - 1) 0 L := by omega
              rw [a4]
              exact cel_hw (c := fun _ => k - 1) hj (fun _ _ => by omega)
            have := this ai (by omega)
            omega
          · refine ⟨e1, ?_⟩
            rcases Nat.lt_trichotomy fc ai with e5 | e5 | e5
            · have := e4 ai e5 (by omega)
              omega
            · exact e5
            · have := (hlz fc (by omega) e2).2
              omega
        obtain ⟨e1, e2⟩ := e0
        subst e2
        have hnx := cel_next (i := fc) (by omega) hx (by omega) (by omega) (fun j h1 h2 => (hlz j (by omega) h2).2)
        refine v_aload_n C (oX4_moveToNextWord.at 15 rfl) rfl ?_
        refine v_getf C (oX4_moveToNextWord.at 16 rfl) fX4_9 hP1.1 rfl ?_
        refine v_iload_n C (oX4_moveToNextWord.at 17 rfl) rfl ?_
        refine v_dup2 C (oX4_moveToNextWord.at 18 rfl) rfl rfl ?_
        refine v_iald C (oX4_moveToNextWord.at 19 rfl) hP1.2.1 (by decide) rfl (by omega) (hla _ (by omega)) ?_
        refine v_iconst C (oX4_moveToNextWord.at 20 rfl) (v := nI 1) rfl ?_
        refine v_iaddN C (oX4_moveToNextWord.at 21 rfl) ?_
        refine v_iast C (oX4_moveToNextWord.at 22 rfl) hP1.2.1 (by decide) rfl (by omega) ?_
        refine v_iload_n C (oX4_moveToNextWord.at 23 rfl) rfl ?_
        exact v_iret C (oX4_moveToNextWord.at 24 rfl) rfl rfl ⟨Nat.le_refl _, Nat.le_refl _⟩ ⟨rfl, ⟨upd lf1 fc (nI (cel k L x fc + 1)), ⟨(hu_n _ _ (by omega)).trans hP1.1, hu_s _ _ _, (hu_n _ _ (by omega)).trans hP1.2.2.1, fun i hi => (hu_n _ _ (by omega)).trans (hP1.2.2.2 i hi)⟩, fun _ i hi => by rw [hnx i hi]; by_cases e3 : i = fc; (subst e3; rw [pk_us, if_neg (by omega), if_pos rfl]); (rw [pk_un e3]; by_cases e4 : i < fc; (rw [if_pos e4]; exact hla i (by omega)); (rw [if_neg e4, if_neg e3]; exact (hlz i (by omega) hi).1))⟩, fun j hj => (hu_n _ _ (by omega)).trans (hfr j hj)⟩
/-- the rows forwards by the labels c -/
def fwR (n k : Nat) (T c : Nat → Nat) : Nat → Nat → Nat
  | 0, _ => 1
  | j + 1, u => ac n k (fun t => decide (T t = c j)) (fwR n k T c j) (n * k) u
theorem fwR_congr {n k : Nat} {T c c' : Nat → Nat} : ∀ j, (∀ i, i < j → c i = c' i) → fwR n k T c j = fwR n k T c' j
  | 0, _ => rfl
  | j + 1, h => by
    funext u
    rw [fwR, fwR, fwR_congr j (fun i hi => h i (by omega)), h j (by omega)]
theorem fwR_le {n k : Nat} (hn : 0 < n) {T c : Nat → Nat} : ∀ j v, v < n → fwR n k T c j v ≤ k ^ j
  | 0, v, _ => by simp [fwR]
  | j + 1, v, h => by
    rw [fwR, Nat.pow_succ, Nat.mul_comm (k ^ j)]
    exact ac_full hn h (fun u hu => fwR_le hn j u hu)
def pcN (n k : Nat) (T : Nat → Nat) (L x : Nat) : Nat := sumN (fwR n k T (cel k L x) L) n
def maxN (f : Nat → Nat) : Nat → Nat
  | 0 => 0
  | n + 1 => max (maxN f n) (f n)
theorem k_surveyWords {w : Wt} {h : Hp} {p r k wd len L : Nat} {a b wt : Int32} {T : Nat → Nat} {lf : Nat → Int32} {Wf : Nat → Nat → Int32} (hR : RuleOK h r k wd T) (hs : SZ k wd) (hP : PaOK h p a b len lf Wf) (hsep : r + 5 < p) (hL : L ≤ 7) : ConN mX4_surveyWords 2 (0, 0) w [.ref p, .ref r, .int (nI L), .int wt] h (.inl none) (fun h' => (∃ lf' Wf', PaOK h' p (nI (cnt (fun x => decide (nI (pcN (k ^ (wd - 1)) k T L x) = wt)) (k ^ L))) (nI (maxN (pcN (k ^ (wd - 1)) k T L) (k ^ L))) len lf' Wf') ∧ ∀ j, (j < p ∨ p + 17 < j) → h' j = h j) := by
  have hr := hR.ro
  have hk := hs.k
  have hn9 := hs.n
  have hn0 := hs.n0
  have hnk := hs.nk
  have hkL : k ^ L ≤ 2187 := pw_le hk (b := 7) hL
  have hfb : ∀ c j v, j ≤ 7 → v < k ^ (wd - 1) → fwR (k ^ (wd - 1)) k T c j v ≤ 2187 := fun c j v hj hv => Nat.le_trans (fwR_le hn0 j v hv) (pw_le hk (b := 7) hj)
  have hpb : ∀ x, pcN (k ^ (wd - 1)) k T L x ≤ 9 * 2187 := fun x => Nat.le_trans (sumN_le _ (fun i hi => hfb _ L i hL hi)) (Nat.mul_le_mul_right _ hn9)
  have hmb : ∀ q, maxN (pcN (k ^ (wd - 1)) k T L) q ≤ 9 * 2187 := fun q => by
    induction q with
    | zero => exact Nat.zero_le _
    | succ q ih => rw [maxN]; exact Nat.max_le.mpr ⟨ih, hpb q⟩
  generalize hnn : k ^ (wd - 1) = n at *
  refine conI (by decide +kernel) ⟨fun _ => rfl, rfl, by simp⟩ (fun X C => ?_)
  change V X (0, 0) w h 0 [some (.ref p), some (.ref r), some (.int (nI L)), some (.int wt), none, none, none, none] []
  refine v_aload_n C (oX4_surveyWords.at 0 rfl) rfl ?_
  refine v_iconst C (oX4_surveyWords.at 1 rfl) (v := nI 0) rfl ?_
  refine v_putI C (oX4_surveyWords.at 2 rfl) fX4_84 p4_0 hP.1 rfl ?_
  refine v_aload_n C (oX4_surveyWords.at 3 rfl) rfl ?_
  refine v_iconst C (oX4_surveyWords.at 4 rfl) (v := nI 0) rfl ?_
  refine v_putI C (oX4_surveyWords.at 5 rfl) fX4_87 p4_1 (hu_s _ _ _) rfl ?_
  simp only [hu_hu, List.set]
  have hP1 : PaOK (hu h p (PO p (nI 0) (nI 0) len)) p (nI 0) (nI 0) len lf Wf := ⟨hu_s _ _ _, (hu_n _ _ (by omega)).trans hP.2.1, (hu_n _ _ (by omega)).trans hP.2.2.1, fun i hi => (hu_n _ _ (by omega)).trans (hP.2.2.2 i hi)⟩
  have hf1 : ∀ j, (j < p ∨ p + 17 < j) → (hu h p (PO p (nI 0) (nI 0) len)) j = h j := fun j hj => hu_n _ _ (by omega)
  generalize hu h p (PO p (nI 0) (nI 0) len) = h1 at *
  refine v_aload_n C (oX4_surveyWords.at 6 rfl) rfl ?_
  refine v_getf C (oX4_surveyWords.at 7 rfl) fX4_9 hP1.1 rfl ?_
  refine v_iconst C (oX4_surveyWords.at 8 rfl) (v := nI 0) rfl ?_
  refine v_callS C (oX4_surveyWords.at 9 rfl) cX4_72 (k_fill hP1.2.1 (by decide)) rfl rfl rfl ⟨rfl, rfl⟩ rfl rfl (fun _ => rfl) (fun h' hp => ?_)
  rw [show h' = _ from hp]
  dsimp only [Option.toList, List.cons_append, List.nil_append]
  have hP2 : PaOK (hu h1 (p + 1) (io 14 (mix lf (fun _ => nI 0) 14))) p (nI 0) (nI 0) len (mix lf (fun _ => nI 0) 14) Wf := ⟨(hu_n _ _ (by omega)).trans hP1.1, hu_s _ _ _, (hu_n _ _ (by omega)).trans hP1.2.2.1, fun i hi => (hu_n _ _ (by omega)).trans (hP1.2.2.2 i hi)⟩
  have hf2 : ∀ j, (j < p ∨ p + 17 < j) → (hu h1 (p + 1) (io 14 (mix lf (fun _ => nI 0) 14))) j = h j := fun j hj => (hu_n _ _ (by omega)).trans (hf1 j hj)
  generalize hu h1 (p + 1) (io 14 (mix lf (fun _ => nI 0) 14)) = h2 at *
  refine v_aload_n C (oX4_surveyWords.at 10 rfl) rfl ?_
  refine v_getf C (oX4_surveyWords.at 11 rfl) fX4_19 hP2.1 rfl ?_
  refine v_iconst C (oX4_surveyWords.at 12 rfl) (v := nI 0) rfl ?_
  refine v_aald C (oX4_surveyWords.at 13 rfl) hP2.2.2.1 (by decide) rfl (by omega) (rws_at (by omega)) ?_
  refine v_iconst C (oX4_surveyWords.at 14 rfl) (v := nI 1) rfl ?_
  refine v_callS C (oX4_surveyWords.at 15 rfl) cX4_72 (k_fill (hP2.2.2.2 0 (by omega)) (by decide)) rfl rfl rfl ⟨rfl, rfl⟩ rfl rfl (fun _ => rfl) (fun h' hp => ?_)
  rw [show h' = _ from hp]
  dsimp only [Option.toList, List.cons_append, List.nil_append]
  have hP3 := hP2.row (i := 0) (mix (Wf 0) (fun _ => nI 1) 9)
  have hf3 : ∀ j, (j < p ∨ p + 17 < j) → (hu h2 (p + 3 + 0) (io 9 (mix (Wf 0) (fun _ => nI 1) 9))) j = h j := fun j hj => (hu_n _ _ (by omega)).trans (hf2 j hj)
  have hr3 : (hu h2 (p + 3 + 0) (io 9 (mix (Wf 0) (fun _ => nI 1) 9))) r = RO r k wd n (k ^ wd) := (hf3 r (by omega)).trans hr
  have hz3 : ∀ v, v < n → upW Wf 0 (mix (Wf 0) (fun _ => nI 1) 9) 0 v = nI 1 := fun v hv => by
    unfold upW; rw [if_pos rfl, mix_lt (by omega)]
  generalize hu h2 (p + 3 + 0) (io 9 (mix (Wf 0) (fun _ => nI 1) 9)) = h3 at *
  generalize upW Wf 0 (mix (Wf 0) (fun _ => nI 1) 9) = Wf3 at *
  refine v_aload_n C (oX4_surveyWords.at 16 rfl) rfl ?_
  refine v_iload_n C (oX4_surveyWords.at 17 rfl) rfl ?_
  refine v_callV C (oX4_surveyWords.at 18 rfl) cX4_90 hr3 (k_countOfWords hr3 (by omega)) rfl rfl rfl ⟨rfl, rfl⟩ rfl rfl (fun _ => rfl) (fun h' hp => ?_)
  rw [show h' = _ from hp]
  dsimp only [Option.toList, List.cons_append, List.nil_append]
  refine v_istore C (oX4_surveyWords.at 19 rfl) rfl ?_
  refine v_iconst C (oX4_surveyWords.at 20 rfl) (v := nI 0) rfl ?_
  refine v_istore C (oX4_surveyWords.at 21 rfl) rfl ?_
  refine v_iconst C (oX4_surveyWords.at 22 rfl) (v := nI 0) rfl ?_
  refine v_istore C (oX4_surveyWords.at 23 rfl) rfl ?_
  dsimp only [sto1, sto2, killL]
  suffices H : ∀ d x h1 lf1 Wf1 fc l7, x + d = k ^ L → fc ≤ L → PaOK h1 p (nI (cnt (fun x => decide (nI (pcN n k T L x) = wt)) x)) (nI (maxN (pcN n k T L) x)) len lf1 Wf1 → (∀ j, (j < p ∨ p + 17 < j) → h1 j = h j) → (x < k ^ L → ∀ i, i < L → lf1 i = nI (cel k L x i)) → (x < k ^ L → ∀ j v, j ≤ fc → v < n → Wf1 j v = nI (fwR n k T (cel k L x) j v)) → V X (0, 0) w h1 41 [some (.ref p), some (.ref r), some (.int (nI L)), some (.int wt), some (.int (nI (k ^ L))), some (.int (nI fc)), some (.int (nI x)), l7] [] by
    refine H (k ^ L) 0 h3 (mix lf (fun _ => nI 0) 14) Wf3 0 none (by omega) (Nat.zero_le _) hP3 hf3 (fun _ i hi => ?_) (fun _ j v hj hv => ?_)
    · rw [mix_lt (by omega)]; unfold cel; simp
    · have e : j = 0 := by omega
      subst e
      exact hz3 v hv
  intro d
  induction d with
  | zero =>
    intro x h1 lf1 Wf1 fc l7 hx hfc hP1 hfr hla hro
    refine v_iload C (oX4_surveyWords.at 24 rfl) rfl ?_
    refine v_iload C (oX4_surveyWords.at 25 rfl) rfl ?_
    refine v_icmp_geN C (oX4_surveyWords.at 26 rfl) (tgt := 130) (by decide) (by omega) (by omega) (fun hc => ?_) (fun hc => ?_)
    · have e : x = k ^ L := by omega
      subst e
      exact v_vret C (oX4_surveyWords.at 69 rfl) rfl rfl ⟨Nat.le_refl _, Nat.le_refl _⟩ ⟨rfl, ⟨lf1, Wf1, hP1⟩, hfr⟩
    · exact absurd hc (by omega)
  | succ d ih =>
    intro x h1 lf1 Wf1 fc l7 hx hfc hP1 hfr hla hro
    have hxl : x < k ^ L := by omega
    replace hla := hla hxl
    replace hro := hro hxl
    refine v_iload C (oX4_surveyWords.at 24 rfl) rfl ?_
    refine v_iload C (oX4_surveyWords.at 25 rfl) rfl ?_
    refine v_icmp_geN C (oX4_surveyWords.at 26 rfl) (tgt := 130) (by decide) (by omega) (by omega) (fun hc => ?_) (fun hc => ?_)
    · exact absurd hc (by omega)
    · refine v_iload C (oX4_surveyWords.at 27 rfl) rfl ?_
      refine v_istore C (oX4_surveyWords.at 28 rfl) rfl ?_
      dsimp only [sto1, sto2, killL]
      suffices H : ∀ d j h1 Wf1, j + d = L → PaOK h1 p (nI (cnt (fun x => decide (nI (pcN n k T L x) = wt)) x)) (nI (maxN (pcN n k T L) x)) len lf1 Wf1 → (∀ j, (j < p ∨ p + 17 < j) → h1 j = h j) → (∀ i v, i ≤ j → v < n → Wf1 i v = nI (fwR n k T (cel k L x) i v)) → V X (0, 0) w h1 52 [some (.ref p), some (.ref r), some (.int (nI L)), some (.int wt), some (.int (nI (k ^ L))), some (.int (nI fc)), some (.int (nI x)), some (.int (nI j))] [] from H (L - fc) fc h1 Wf1 (by omega) hP1 hfr hro
      clear hro hfr hP1 Wf1 h1
      intro d2
      induction d2 with
      | succ d2 ih2 =>
        intro j h1 Wf1 hj hP1 hfr hro
        have hR1 : RuleOK h1 r k wd T := hR.eq (fun q e1 e2 => hfr q (by omega))
        refine v_iload C (oX4_surveyWords.at 29 rfl) rfl ?_
        refine v_iload_n C (oX4_surveyWords.at 30 rfl) rfl ?_
        refine v_icmp_geN C (oX4_surveyWords.at 31 rfl) (tgt := 71) (by decide) (by omega) (by omega) (fun hc => ?_) (fun hc => ?_)
        · exact absurd hc (by omega)
        · have hcl : cel k L x j < k := cel_lt (by omega)
          refine v_aload_n C (oX4_surveyWords.at 32 rfl) rfl ?_
          refine v_aload_n C (oX4_surveyWords.at 33 rfl) rfl ?_
          refine v_iload C (oX4_surveyWords.at 34 rfl) rfl ?_
          refine v_callV C (oX4_surveyWords.at 35 rfl) cX4_93 hP1.1 (k_stepForward (lv := cel k L x j) (F := fwR n k T (cel k L x) j) hR1 hs hP1 hsep (by omega) (hla j (by omega)) (by omega) (fun v hv => ⟨hro j v (Nat.le_refl _) (by omega), by have := hfb (cel k L x) j v (by omega) (by omega); omega⟩)) rfl rfl rfl ⟨rfl, rfl⟩ rfl rfl (fun _ => rfl) (fun h' hp => ?_)
          dsimp only [Option.toList, List.cons_append, List.nil_append]
          obtain ⟨⟨g, hP4, hg⟩, hf4⟩ := hp
          refine v_iincN C (oX4_surveyWords.at 36 rfl) rfl ?_
          refine v_goto C (oX4_surveyWords.at 37 rfl) (tgt := 52) (by decide) ?_
          dsimp only [sto1, sto2, killL]
          refine ih2 (j + 1) h' _ (by omega) hP4 (fun q hq => (hf4 q hq).trans (hfr q hq)) (fun i v hi hv => ?_)
          unfold upW
          by_cases e : i = j + 1
          · subst e
            rw [if_pos rfl, hg v (by omega), fwR, hnn, hnk]
          · rw [if_neg e]
            exact hro i v (by omega) hv
      | zero =>
        intro j h1 Wf1 hj hP1 hfr hro
        have hR1 : RuleOK h1 r k wd T := hR.eq (fun q e1 e2 => hfr q (by omega))
        have hr1 := hR1.ro
        rw [hnn] at hr1
        have e : j = L := by omega
        subst e
        refine v_iload C (oX4_surveyWords.at 29 rfl) rfl ?_
        refine v_iload_n C (oX4_surveyWords.at 30 rfl) rfl ?_
        refine v_icmp_geN C (oX4_surveyWords.at 31 rfl) (tgt := 71) (by decide) (by omega) (by omega) (fun hc => ?_) (fun hc => ?_)
        · have hpx := hpb x
          have hmx := hmb x
          have key : ∀ y : Nat, nI y = nI (if decide (nI (pcN n k T j x) = wt) then 1 else 0) → V X (0, 0) w h1 99 [some (.ref p), some (.ref r), some (.int (nI j)), some (.int wt), some (.int (nI (k ^ j))), some (.int (nI fc)), some (.int (nI x)), some (.int (nI (pcN n k T j x)))] [.int (nI y), .int (nI (cnt (fun x => decide (nI (pcN n k T j x) = wt)) x)), .ref p] := by
            intro y hy
            rw [hy]
            refine v_iaddN C (oX4_surveyWords.at 54 rfl) ?_
            refine v_putI C (oX4_surveyWords.at 55 rfl) fX4_84 p4_0 hP1.1 rfl ?_
            simp only [List.set]
            refine v_aload_n C (oX4_surveyWords.at 56 rfl) rfl ?_
            refine v_aload_n C (oX4_surveyWords.at 57 rfl) rfl ?_
            refine v_getf C (oX4_surveyWords.at 58 rfl) fX4_87 (hu_s _ _ _) rfl ?_
            refine v_iload C (oX4_surveyWords.at 59 rfl) rfl ?_
            refine v_callS C (oX4_surveyWords.at 60 rfl) cX4_96 (k_max (by omega) (by omega)) rfl rfl rfl ⟨rfl, rfl⟩ rfl rfl (fun _ => rfl) (fun h' hp => ?_)
            rw [show h' = _ from hp]
            dsimp only [Option.toList, List.cons_append, List.nil_append]
            refine v_putI C (oX4_surveyWords.at 61 rfl) fX4_87 p4_1 (hu_s _ _ _) rfl ?_
            simp only [hu_hu, List.set]
            have hP5 : PaOK (hu h1 p (PO p (nI (cnt (fun x => decide (nI (pcN n k T j x) = wt)) (x + 1))) (nI (maxN (pcN n k T j) (x + 1))) len)) p (nI (cnt (fun x => decide (nI (pcN n k T j x) = wt)) (x + 1))) (nI (maxN (pcN n k T j) (x + 1))) len lf1 Wf1 := ⟨hu_s _ _ _, (hu_n _ _ (by omega)).trans hP1.2.1, (hu_n _ _ (by omega)).trans hP1.2.2.1, fun i hi => (hu_n _ _ (by omega)).trans (hP1.2.2.2 i hi)⟩
            have hf5 : ∀ q, (q < p ∨ p + 17 < q) → (hu h1 p (PO p (nI (cnt (fun x => decide (nI (pcN n k T j x) = wt)) (x + 1))) (nI (maxN (pcN n k T j) (x + 1))) len)) q = h q := fun q hq => (hu_n _ _ (by omega)).trans (hfr q hq)
            change V X (0, 0) w (hu h1 p (PO p (nI (cnt (fun x => decide (nI (pcN n k T j x) = wt)) (x + 1))) (nI (maxN (pcN n k T j) (x + 1))) len)) _ _ _
            generalize hu h1 p (PO p (nI (cnt (fun x => decide (nI (pcN n k T j x) = wt)) (x + 1))) (nI (maxN (pcN n k T j) (x + 1))) len) = h5 at *
            have hR5 : RuleOK h5 r k wd T := hR.eq (fun q e1 e2 => hf5 q (by omega))
            have hfx : ∃ fc' : Nat, (x + 1 = k ^ j ∧ fc' = 0) ∨ (x + 1 < k ^ j ∧ fc' < j ∧ cel k j x fc' + 1 < k ∧ ∀ i, fc' < i → i < j → cel k j x i = k - 1) := by
              by_cases e9 : x + 1 = k ^ j
              · exact ⟨0, Or.inl ⟨e9, rfl⟩⟩
              · have hex : ∃ q, q < j ∧ cel k j x (j - 1 - q) ≠ k - 1 := by
                  apply Classical.byContradiction
                  intro hn
                  refine e9 (cel_last (by omega) hxl (fun i hi => ?_))
                  apply Classical.byContradiction
                  intro h9
                  exact hn ⟨j - 1 - i, by omega, by rw [show j - 1 - (j - 1 - i) = i by omega]; exact h9⟩
                obtain ⟨q, ⟨hq1, hq2⟩, hq3⟩ := pk_least (fun q => q < j ∧ cel k j x (j - 1 - q) ≠ k - 1) hex
                have hcq : cel k j x (j - 1 - q) < k := cel_lt (by omega)
                refine ⟨j - 1 - q, Or.inr ⟨by omega, by omega, by omega, fun i h8 h9 => ?_⟩⟩
                apply Classical.byContradiction
                intro h10
                exact hq3 (j - 1 - i) (by omega) ⟨by omega, by rw [show j - 1 - (j - 1 - i) = i by omega]; exact h10⟩
            obtain ⟨fc', hfc'⟩ := hfx
            refine v_aload_n C (oX4_surveyWords.at 62 rfl) rfl ?_
            refine v_aload_n C (oX4_surveyWords.at 63 rfl) rfl ?_
            refine v_iload_n C (oX4_surveyWords.at 64 rfl) rfl ?_
            refine v_callV C (oX4_surveyWords.at 65 rfl) cX4_102 hP5.1 (k_moveToNextWord hR5 hs hP5 hsep (by omega) hxl hla fc' hfc') rfl rfl rfl ⟨rfl, rfl⟩ rfl rfl (fun _ => rfl) (fun h' hp => ?_)
            dsimp only [Option.toList, List.cons_append, List.nil_append]
            obtain ⟨⟨lf6, hP6, hl6⟩, hf6⟩ := hp
            refine v_istore C (oX4_surveyWords.at 66 rfl) rfl ?_
            refine v_iincN C (oX4_surveyWords.at 67 rfl) rfl ?_
            refine v_goto C (oX4_surveyWords.at 68 rfl) (tgt := 41) (by decide) ?_
            dsimp only [sto1, sto2, killL]
            refine ih (x + 1) h' lf6 Wf1 fc' _ (by omega) (by omega) hP6 (fun q hq => (hf6 q hq).trans (hf5 q hq)) hl6 (fun h9 i v hi hv => ?_)
            have e10 : fwR n k T (cel k j x) i = fwR n k T (cel k j (x + 1)) i := fwR_congr i (fun q hq => by
              rcases hfc' with ⟨h8, _⟩ | ⟨h8, h9, h10, h11⟩
              · omega
              · rw [cel_next (by omega) hxl h9 h10 h11 q (by omega), if_pos (by omega)])
            rw [hro i v (by omega) hv, e10]
          refine v_aload_n C (oX4_surveyWords.at 38 rfl) rfl ?_
          refine v_aload_n C (oX4_surveyWords.at 39 rfl) rfl ?_
          refine v_getf C (oX4_surveyWords.at 40 rfl) fX4_19 hP1.1 rfl ?_
          refine v_iload_n C (oX4_surveyWords.at 41 rfl) rfl ?_
          refine v_aald C (oX4_surveyWords.at 42 rfl) hP1.2.2.1 (by decide) rfl (by omega) (rws_at (by omega)) ?_
          refine v_callS C (oX4_surveyWords.at 43 rfl) cX4_34 (k_sumOf hr1 hn9 (hP1.2.2.2 j (by omega)) (fun v hv => hro j v (Nat.le_refl _) hv)) rfl rfl rfl ⟨rfl, rfl⟩ rfl rfl (fun _ => rfl) (fun h' hp => ?_)
          rw [show h' = _ from hp]
          dsimp only [Option.toList, List.cons_append, List.nil_append]
          refine v_istore C (oX4_surveyWords.at 44 rfl) rfl ?_
          dsimp only [sto1, sto2, killL]
          change V X (0, 0) w h1 83 [some (.ref p), some (.ref r), some (.int (nI j)), some (.int wt), some (.int (nI (k ^ j))), some (.int (nI fc)), some (.int (nI x)), some (.int (nI (pcN n k T j x)))] []
          refine v_aload_n C (oX4_surveyWords.at 45 rfl) rfl ?_
          refine v_dup C (oX4_surveyWords.at 46 rfl) rfl ?_
          refine v_getf C (oX4_surveyWords.at 47 rfl) fX4_84 hP1.1 rfl ?_
          refine v_iload C (oX4_surveyWords.at 48 rfl) rfl ?_
          refine v_iload_n C (oX4_surveyWords.at 49 rfl) rfl ?_
          refine v_icmp_ne C (oX4_surveyWords.at 50 rfl) (tgt := 98) (by decide) (fun hc => ?_) (fun hc => ?_)
          · refine v_iconst C (oX4_surveyWords.at 53 rfl) (v := nI 0) rfl ?_
            exact key 0 (by simp [hc])
          · refine v_iconst C (oX4_surveyWords.at 51 rfl) (v := nI 1) rfl ?_
            refine v_goto C (oX4_surveyWords.at 52 rfl) (tgt := 99) (by decide) ?_
            exact key 1 (by simp [hc])
        · exact absurd hc (by omega)
