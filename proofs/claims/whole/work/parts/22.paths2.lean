/-! ===== Paths: counts and walks ===== -/
def baT (last : Nat) : Nat → Nat := fun v => if v = last then 1 else 0
def baA : Nat → Nat := fun _ => 1
/-- behind a count of ways with the last row B -/
def BWP (h : Hp) (p k wd : Nat) (T lb : Nat → Nat) (len : Nat) (a b : Int32) (lf : Nat → Int32) (B : Nat → Nat) (h' : Hp) : Prop := (∃ Wf', PaOK h' p a b len lf Wf' ∧ ∀ i v, i ≤ len → v < k ^ (wd - 1) → Wf' i v = nI (wB k (k ^ (wd - 1)) T lb len B (len - i) v)) ∧ ∀ j, (j < p ∨ p + 17 < j) → h' j = h j
theorem k_countTo {w : Wt} {h : Hp} {p r k wd len last : Nat} {a b : Int32} {T lb : Nat → Nat} {lf : Nat → Int32} {Wf : Nat → Nat → Int32} (hR : RuleOK h r k wd T) (hs : SZ k wd) (hP : PaOK h p a b len lf Wf) (hsep : r + 5 < p) (hlen : len ≤ 14) (hlb : ∀ i, i < len → lf i = nI (lb i) ∧ lb i < 3) (hla : last < k ^ (wd - 1)) : ConN mX4_countTo 2 (0, 0) w [.ref p, .ref r, .int (nI last)] h (.inl none) (BWP h p k wd T lb len a b lf (baT last)) := by
  have hn9 := hs.n
  refine conI (by decide +kernel) ⟨fun _ => rfl, rfl, by simp⟩ (fun X C => ?_)
  change V X (0, 0) w h 0 [some (.ref p), some (.ref r), some (.int (nI last))] []
  refine v_aload_n C (oX4_countTo.at 0 rfl) rfl ?_
  refine v_getf C (oX4_countTo.at 1 rfl) fX4_19 hP.1 rfl ?_
  refine v_aload_n C (oX4_countTo.at 2 rfl) rfl ?_
  refine v_getf C (oX4_countTo.at 3 rfl) fX4_22 hP.1 rfl ?_
  refine v_aald C (oX4_countTo.at 4 rfl) hP.2.2.1 (by decide) rfl (by omega) (rws_at (by omega)) ?_
  refine v_iconst C (oX4_countTo.at 5 rfl) (v := nI 0) rfl ?_
  refine v_callS C (oX4_countTo.at 6 rfl) cX4_72 (k_fill (hP.2.2.2 len (by omega)) (by decide)) rfl rfl rfl ⟨rfl, rfl⟩ rfl rfl (fun _ => rfl) (fun h' hp => ?_)
  rw [show h' = _ from hp]
  dsimp only [Option.toList, List.cons_append, List.nil_append]
  have hP1 := hP.row (i := len) (mix (Wf len) (fun _ => nI 0) 9)
  refine v_aload_n C (oX4_countTo.at 7 rfl) rfl ?_
  refine v_getf C (oX4_countTo.at 8 rfl) fX4_19 hP1.1 rfl ?_
  refine v_aload_n C (oX4_countTo.at 9 rfl) rfl ?_
  refine v_getf C (oX4_countTo.at 10 rfl) fX4_22 hP1.1 rfl ?_
  refine v_aald C (oX4_countTo.at 11 rfl) hP1.2.2.1 (by decide) rfl (by omega) (rws_at (by omega)) ?_
  refine v_iload_n C (oX4_countTo.at 12 rfl) rfl ?_
  refine v_iconst C (oX4_countTo.at 13 rfl) (v := nI 1) rfl ?_
  refine v_iast C (oX4_countTo.at 14 rfl) (hu_s _ _ _) (by decide) rfl (by omega) ?_
  rw [hu_hu]
  have hP2 := hP.row (i := len) (upd (mix (Wf len) (fun _ => nI 0) 9) last (nI 1))
  have hB : ∀ v, v < k ^ (wd - 1) → upW Wf len (upd (mix (Wf len) (fun _ => nI 0) 9) last (nI 1)) len v = nI (baT last v) := fun v hv => by
    unfold upW baT
    rw [if_pos rfl]
    by_cases e : v = last
    · subst e; rw [pk_us, if_pos rfl]
    · rw [pk_un e, if_neg e, mix_lt (by omega)]
  refine v_aload_n C (oX4_countTo.at 15 rfl) rfl ?_
  refine v_aload_n C (oX4_countTo.at 16 rfl) rfl ?_
  refine v_callV C (oX4_countTo.at 17 rfl) cX4_78 hP2.1 (k_countBackwards (lb := lb) (B := baT last) (hR.hu (by omega)) hs hP2 hsep hlen hlb hB) rfl rfl rfl ⟨rfl, rfl⟩ rfl rfl (fun _ => rfl) (fun h' hp => ?_)
  dsimp only [Option.toList, List.cons_append, List.nil_append]
  exact v_vret C (oX4_countTo.at 18 rfl) rfl rfl ⟨Nat.le_refl _, Nat.le_refl _⟩ ⟨rfl, hp.1, fun j hj => (hp.2 j hj).trans (hu_n _ _ (by omega))⟩
theorem k_countToAnywhere {w : Wt} {h : Hp} {p r k wd len : Nat} {a b : Int32} {T lb : Nat → Nat} {lf : Nat → Int32} {Wf : Nat → Nat → Int32} (hR : RuleOK h r k wd T) (hs : SZ k wd) (hP : PaOK h p a b len lf Wf) (hsep : r + 5 < p) (hlen : len ≤ 14) (hlb : ∀ i, i < len → lf i = nI (lb i) ∧ lb i < 3) : ConN mX4_countToAnywhere 2 (0, 0) w [.ref p, .ref r] h (.inl none) (BWP h p k wd T lb len a b lf baA) := by
  have hn9 := hs.n
  refine conI (by decide +kernel) ⟨fun _ => rfl, rfl, by simp⟩ (fun X C => ?_)
  change V X (0, 0) w h 0 [some (.ref p), some (.ref r)] []
  refine v_aload_n C (oX4_countToAnywhere.at 0 rfl) rfl ?_
  refine v_getf C (oX4_countToAnywhere.at 1 rfl) fX4_19 hP.1 rfl ?_
  refine v_aload_n C (oX4_countToAnywhere.at 2 rfl) rfl ?_
  refine v_getf C (oX4_countToAnywhere.at 3 rfl) fX4_22 hP.1 rfl ?_
  refine v_aald C (oX4_countToAnywhere.at 4 rfl) hP.2.2.1 (by decide) rfl (by omega) (rws_at (by omega)) ?_
  refine v_iconst C (oX4_countToAnywhere.at 5 rfl) (v := nI 1) rfl ?_
  refine v_callS C (oX4_countToAnywhere.at 6 rfl) cX4_72 (k_fill (hP.2.2.2 len (by omega)) (by decide)) rfl rfl rfl ⟨rfl, rfl⟩ rfl rfl (fun _ => rfl) (fun h' hp => ?_)
  rw [show h' = _ from hp]
  dsimp only [Option.toList, List.cons_append, List.nil_append]
  have hP2 := hP.row (i := len) (mix (Wf len) (fun _ => nI 1) 9)
  have hB : ∀ v, v < k ^ (wd - 1) → upW Wf len (mix (Wf len) (fun _ => nI 1) 9) len v = nI (baA v) := fun v hv => by
    unfold upW baA
    rw [if_pos rfl, mix_lt (by omega)]
  refine v_aload_n C (oX4_countToAnywhere.at 7 rfl) rfl ?_
  refine v_aload_n C (oX4_countToAnywhere.at 8 rfl) rfl ?_
  refine v_callV C (oX4_countToAnywhere.at 9 rfl) cX4_78 hP2.1 (k_countBackwards (lb := lb) (B := baA) (hR.hu (by omega)) hs hP2 hsep hlen hlb hB) rfl rfl rfl ⟨rfl, rfl⟩ rfl rfl (fun _ => rfl) (fun h' hp => ?_)
  dsimp only [Option.toList, List.cons_append, List.nil_append]
  exact v_vret C (oX4_countToAnywhere.at 10 rfl) rfl rfl ⟨Nat.le_refl _, Nat.le_refl _⟩ ⟨rfl, hp.1, fun j hj => (hp.2 j hj).trans (hu_n _ _ (by omega))⟩
theorem k_countAll {w : Wt} {h : Hp} {p r k wd len : Nat} {a b : Int32} {T lb : Nat → Nat} {lf : Nat → Int32} {Wf : Nat → Nat → Int32} (hR : RuleOK h r k wd T) (hs : SZ k wd) (hP : PaOK h p a b len lf Wf) (hsep : r + 5 < p) (hlen : len ≤ 14) (hlb : ∀ i, i < len → lf i = nI (lb i) ∧ lb i < 3) : ConN mX4_countAll 3 (0, 0) w [.ref p, .ref r] h (.inl (some (.int (nI (sumN (wB k (k ^ (wd - 1)) T lb len baA len) (k ^ (wd - 1))))))) (BWP h p k wd T lb len a b lf baA) := by
  refine conI (by decide +kernel) ⟨fun _ => rfl, rfl, by simp⟩ (fun X C => ?_)
  change V X (0, 0) w h 0 [some (.ref p), some (.ref r)] []
  refine v_aload_n C (oX4_countAll.at 0 rfl) rfl ?_
  refine v_aload_n C (oX4_countAll.at 1 rfl) rfl ?_
  refine v_callV C (oX4_countAll.at 2 rfl) cX4_30 hP.1 (k_countToAnywhere hR hs hP hsep hlen hlb) rfl rfl rfl ⟨rfl, rfl⟩ rfl rfl (fun _ => rfl) (fun h' hp => ?_)
  dsimp only [Option.toList, List.cons_append, List.nil_append]
  obtain ⟨⟨Wf', hP1, hw1⟩, hfr⟩ := hp
  have hr1 : h' r = RO r k wd (k ^ (wd - 1)) (k ^ wd) := (hfr r (by omega)).trans hR.ro
  refine v_aload_n C (oX4_countAll.at 3 rfl) rfl ?_
  refine v_aload_n C (oX4_countAll.at 4 rfl) rfl ?_
  refine v_getf C (oX4_countAll.at 5 rfl) fX4_19 hP1.1 rfl ?_
  refine v_iconst C (oX4_countAll.at 6 rfl) (v := nI 0) rfl ?_
  refine v_aald C (oX4_countAll.at 7 rfl) hP1.2.2.1 (by decide) rfl (by omega) (rws_at (by omega)) ?_
  refine v_callS C (oX4_countAll.at 8 rfl) cX4_34 (k_sumOf hr1 hs.n (hP1.2.2.2 0 (by omega)) (fun v hv => hw1 0 v (Nat.zero_le _) hv)) rfl rfl rfl ⟨rfl, rfl⟩ rfl rfl (fun _ => rfl) (fun h' hp => ?_)
  rw [show h' = _ from hp]
  dsimp only [Option.toList, List.cons_append, List.nil_append]
  exact v_iret C (oX4_countAll.at 9 rfl) rfl rfl ⟨Nat.le_refl _, Nat.le_refl _⟩ ⟨rfl, ⟨Wf', hP1, hw1⟩, hfr⟩
theorem k_countBetween {w : Wt} {h : Hp} {p r k wd len first last : Nat} {a b : Int32} {T lb : Nat → Nat} {lf : Nat → Int32} {Wf : Nat → Nat → Int32} (hR : RuleOK h r k wd T) (hs : SZ k wd) (hP : PaOK h p a b len lf Wf) (hsep : r + 5 < p) (hlen : len ≤ 14) (hlb : ∀ i, i < len → lf i = nI (lb i) ∧ lb i < 3) (hfi : first < k ^ (wd - 1)) (hla : last < k ^ (wd - 1)) : ConN mX4_countBetween 3 (0, 0) w [.ref p, .ref r, .int (nI first), .int (nI last)] h (.inl (some (.int (nI (wB k (k ^ (wd - 1)) T lb len (baT last) len first))))) (BWP h p k wd T lb len a b lf (baT last)) := by
  have hn9 := hs.n
  refine conI (by decide +kernel) ⟨fun _ => rfl, rfl, by simp⟩ (fun X C => ?_)
  change V X (0, 0) w h 0 [some (.ref p), some (.ref r), some (.int (nI first)), some (.int (nI last))] []
  refine v_aload_n C (oX4_countBetween.at 0 rfl) rfl ?_
  refine v_aload_n C (oX4_countBetween.at 1 rfl) rfl ?_
  refine v_iload_n C (oX4_countBetween.at 2 rfl) rfl ?_
  refine v_callV C (oX4_countBetween.at 3 rfl) cX4_38 hP.1 (k_countTo hR hs hP hsep hlen hlb hla) rfl rfl rfl ⟨rfl, rfl⟩ rfl rfl (fun _ => rfl) (fun h' hp => ?_)
  dsimp only [Option.toList, List.cons_append, List.nil_append]
  obtain ⟨⟨Wf', hP1, hw1⟩, hfr⟩ := hp
  refine v_aload_n C (oX4_countBetween.at 4 rfl) rfl ?_
  refine v_getf C (oX4_countBetween.at 5 rfl) fX4_19 hP1.1 rfl ?_
  refine v_iconst C (oX4_countBetween.at 6 rfl) (v := nI 0) rfl ?_
  refine v_aald C (oX4_countBetween.at 7 rfl) hP1.2.2.1 (by decide) rfl (by omega) (rws_at (by omega)) ?_
  refine v_iload_n C (oX4_countBetween.at 8 rfl) rfl ?_
  refine v_iald C (oX4_countBetween.at 9 rfl) (hP1.2.2.2 0 (by omega)) (by decide) rfl (by omega) (hw1 0 _ (Nat.zero_le _) hfi) ?_
  exact v_iret C (oX4_countBetween.at 10 rfl) rfl rfl ⟨Nat.le_refl _, Nat.le_refl _⟩ ⟨rfl, ⟨Wf', hP1, hw1⟩, hfr⟩
/-- only the ways' rows have changed -/
def PaCh (h : Hp) (p : Nat) (a b : Int32) (len : Nat) (lf : Nat → Int32) (h' : Hp) : Prop := (∃ Wf', PaOK h' p a b len lf Wf') ∧ ∀ j, (j < p ∨ p + 17 < j) → h' j = h j
theorem k_countClosed {w : Wt} {h : Hp} {p r k wd len : Nat} {a b : Int32} {T lb : Nat → Nat} {lf : Nat → Int32} {Wf : Nat → Nat → Int32} (hR : RuleOK h r k wd T) (hs : SZ k wd) (hP : PaOK h p a b len lf Wf) (hsep : r + 5 < p) (hlen : len ≤ 14) (hlb : ∀ i, i < len → lf i = nI (lb i) ∧ lb i < 3) : ConN mX4_countClosed 4 (0, 0) w [.ref p, .ref r] h (.inl (some (.int (nI (if len = 0 then 0 else sumN (fun v => wB k (k ^ (wd - 1)) T lb len (baT v) len v) (k ^ (wd - 1))))))) (PaCh h p a b len lf) := by
  have hn9 := hs.n
  refine conI (by decide +kernel) ⟨fun _ => rfl, rfl, by simp⟩ (fun X C => ?_)
  change V X (0, 0) w h 0 [some (.ref p), some (.ref r), none, none] []
  refine v_iconst C (oX4_countClosed.at 0 rfl) (v := nI 0) rfl ?_
  refine v_istore_n C (oX4_countClosed.at 1 rfl) rfl ?_
  refine v_aload_n C (oX4_countClosed.at 2 rfl) rfl ?_
  refine v_getf C (oX4_countClosed.at 3 rfl) fX4_22 hP.1 rfl ?_
  dsimp only [sto1, sto2, killL]
  refine v_if_leN C (oX4_countClosed.at 4 rfl) (tgt := 35) (by decide) (by omega) (fun hc => ?_) (fun hc => ?_)
  · rw [if_pos hc] at C
    refine v_iload_n C (oX4_countClosed.at 21 rfl) rfl ?_
    exact v_iret C (oX4_countClosed.at 22 rfl) rfl rfl ⟨Nat.le_refl _, Nat.le_refl _⟩ ⟨rfl, ⟨Wf, hP⟩, fun _ _ => rfl⟩
  · rw [if_neg (by omega)] at C
    refine v_iconst C (oX4_countClosed.at 5 rfl) (v := nI 0) rfl ?_
    refine v_istore_n C (oX4_countClosed.at 6 rfl) rfl ?_
    dsimp only [sto1, sto2, killL]
    suffices H : ∀ d v h1 Wf1, v + d = k ^ (wd - 1) → PaOK h1 p a b len lf Wf1 → (∀ j, (j < p ∨ p + 17 < j) → h1 j = h j) → V X (0, 0) w h1 11 [some (.ref p), some (.ref r), some (.int (nI (sumN (fun v => wB k (k ^ (wd - 1)) T lb len (baT v) len v) v))), some (.int (nI v))] [] from H (k ^ (wd - 1)) 0 h Wf (by omega) hP (fun _ _ => rfl)
    intro d
    induction d with
    | zero =>
      intro v h1 Wf1 hv hP1 hfr
      have hr1 : h1 r = RO r k wd (k ^ (wd - 1)) (k ^ wd) := (hfr r (by omega)).trans hR.ro
      refine v_iload_n C (oX4_countClosed.at 7 rfl) rfl ?_
      refine v_aload_n C (oX4_countClosed.at 8 rfl) rfl ?_
      refine v_getf C (oX4_countClosed.at 9 rfl) fX4_42 hr1 rfl ?_
      refine v_icmp_geN C (oX4_countClosed.at 10 rfl) (tgt := 35) (by decide) (by omega) (by omega) (fun hc => ?_) (fun hc => ?_)
      · have e : v = k ^ (wd - 1) := by omega
        subst e
        refine v_iload_n C (oX4_countClosed.at 21 rfl) rfl ?_
        exact v_iret C (oX4_countClosed.at 22 rfl) rfl rfl ⟨Nat.le_refl _, Nat.le_refl _⟩ ⟨rfl, ⟨Wf1, hP1⟩, hfr⟩
      · exact absurd hc (by omega)
    | succ d ih =>
      intro v h1 Wf1 hv hP1 hfr
      have hr1 : h1 r = RO r k wd (k ^ (wd - 1)) (k ^ wd) := (hfr r (by omega)).trans hR.ro
      have hR1 : RuleOK h1 r k wd T := hR.eq (fun j e1 e2 => hfr j (by omega))
      refine v_iload_n C (oX4_countClosed.at 7 rfl) rfl ?_
      refine v_aload_n C (oX4_countClosed.at 8 rfl) rfl ?_
      refine v_getf C (oX4_countClosed.at 9 rfl) fX4_42 hr1 rfl ?_
      refine v_icmp_geN C (oX4_countClosed.at 10 rfl) (tgt := 35) (by decide) (by omega) (by omega) (fun hc => ?_) (fun hc => ?_)
      · exact absurd hc (by omega)
      · refine v_iload_n C (oX4_countClosed.at 11 rfl) rfl ?_
        refine v_aload_n C (oX4_countClosed.at 12 rfl) rfl ?_
        refine v_aload_n C (oX4_countClosed.at 13 rfl) rfl ?_
        refine v_iload_n C (oX4_countClosed.at 14 rfl) rfl ?_
        refine v_iload_n C (oX4_countClosed.at 15 rfl) rfl ?_
        refine v_callV C (oX4_countClosed.at 16 rfl) cX4_45 hP1.1 (k_countBetween hR1 hs hP1 hsep hlen hlb (first := v) (last := v) (by omega) (by omega)) rfl rfl rfl ⟨rfl, rfl⟩ rfl rfl (fun _ => rfl) (fun h' hp => ?_)
        dsimp only [Option.toList, List.cons_append, List.nil_append]
        obtain ⟨⟨Wf', hP2, -⟩, hfr2⟩ := hp
        refine v_iaddN C (oX4_countClosed.at 17 rfl) ?_
        refine v_istore_n C (oX4_countClosed.at 18 rfl) rfl ?_
        refine v_iincN C (oX4_countClosed.at 19 rfl) rfl ?_
        refine v_goto C (oX4_countClosed.at 20 rfl) (tgt := 11) (by decide) ?_
        dsimp only [sto1, sto2, killL]
        exact ih (v + 1) h' Wf' (by omega) hP2 (fun j hj => (hfr2 j hj).trans (hfr j hj))
theorem k_withoutEnd {w : Wt} {h : Hp} {r k wd n m x : Nat} (hr : h r = RO r k wd n m) (hs : SZ k wd) (hx : x < 2 ^ 31) : ConN mX4_withoutEnd 1 (0, 0) w [.ref r, .int (nI x)] h (.inl (some (.int (nI (x / k ^ (wd - 1)))))) (fun h' => h' = h) := by
  have hw2 := hs.w
  refine conI (by decide +kernel) ⟨fun _ => rfl, rfl, by simp⟩ (fun X C => ?_)
  change V X (0, 0) w h 0 [some (.ref r), some (.int (nI x)), none, none] []
  refine v_iload_n C (oX4_withoutEnd.at 0 rfl) rfl ?_
  refine v_istore_n C (oX4_withoutEnd.at 1 rfl) rfl ?_
  refine v_iconst C (oX4_withoutEnd.at 2 rfl) (v := nI 0) rfl ?_
  refine v_istore_n C (oX4_withoutEnd.at 3 rfl) rfl ?_
  dsimp only [sto1, sto2, killL]
  suffices H : ∀ j i, i + j = wd - 1 → V X (0, 0) w h 4 [some (.ref r), some (.int (nI x)), some (.int (nI (x / k ^ i))), some (.int (nI i))] [] by
    have := H (wd - 1) 0 (by omega)
    rw [Nat.pow_zero, Nat.div_one] at this
    exact this
  intro j
  induction j with
  | zero =>
    intro i hi
    refine v_iload_n C (oX4_withoutEnd.at 4 rfl) rfl ?_
    refine v_aload_n C (oX4_withoutEnd.at 5 rfl) rfl ?_
    refine v_getf C (oX4_withoutEnd.at 6 rfl) fX4_56 hr rfl ?_
    refine v_iconst C (oX4_withoutEnd.at 7 rfl) (v := nI 1) rfl ?_
    refine v_isubN C (oX4_withoutEnd.at 8 rfl) (by omega) ?_
    refine v_icmp_geN C (oX4_withoutEnd.at 9 rfl) (tgt := 26) (by decide) (by omega) (by omega) (fun hc => ?_) (fun hc => ?_)
    · have e : i = wd - 1 := by omega
      subst e
      refine v_iload_n C (oX4_withoutEnd.at 16 rfl) rfl ?_
      exact v_iret C (oX4_withoutEnd.at 17 rfl) rfl rfl ⟨Nat.le_refl _, Nat.le_refl _⟩ ⟨rfl, rfl⟩
    · exact absurd hc (by omega)
  | succ j ih =>
    intro i hi
    refine v_iload_n C (oX4_withoutEnd.at 4 rfl) rfl ?_
    refine v_aload_n C (oX4_withoutEnd.at 5 rfl) rfl ?_
    refine v_getf C (oX4_withoutEnd.at 6 rfl) fX4_56 hr rfl ?_
    refine v_iconst C (oX4_withoutEnd.at 7 rfl) (v := nI 1) rfl ?_
    refine v_isubN C (oX4_withoutEnd.at 8 rfl) (by omega) ?_
    refine v_icmp_geN C (oX4_withoutEnd.at 9 rfl) (tgt := 26) (by decide) (by omega) (by omega) (fun hc => ?_) (fun hc => ?_)
    · exact absurd hc (by omega)
    · refine v_aload_n C (oX4_withoutEnd.at 10 rfl) rfl ?_
      refine v_iload_n C (oX4_withoutEnd.at 11 rfl) rfl ?_
      refine v_callV C (oX4_withoutEnd.at 12 rfl) cX4_59 hr (k_withoutLastCell hr hs.k (ndiv_lt hx)) rfl rfl rfl ⟨rfl, rfl⟩ rfl rfl (fun _ => rfl) (fun h' hp => ?_)
      rw [show h' = _ from hp]
      dsimp only [Option.toList, List.cons_append, List.nil_append]
      refine v_istore_n C (oX4_withoutEnd.at 13 rfl) rfl ?_
      refine v_iincN C (oX4_withoutEnd.at 14 rfl) rfl ?_
      refine v_goto C (oX4_withoutEnd.at 15 rfl) (tgt := 4) (by decide) ?_
      dsimp only [sto1, sto2, killL]
      rw [ndiv_s]
      exact ih (i + 1) (by omega)
theorem k_takeLabels {w : Wt} {h : Hp} {p r k wd len len0 x : Nat} {a b : Int32} {T : Nat → Nat} {lf : Nat → Int32} {Wf : Nat → Nat → Int32} (hR : RuleOK h r k wd T) (hs : SZ k wd) (hP : PaOK h p a b len0 lf Wf) (hsep : r + 5 < p) (hlen : len ≤ 14) (hx : x < 2 ^ 31) : ConN mX4_takeLabels 2 (0, 0) w [.ref p, .ref r, .int (nI len), .int (nI x)] h (.inl none) (fun h' => PaOK h' p a b len (spw k len x lf 0) Wf ∧ ∀ j, (j < p ∨ p + 17 < j) → h' j = h j) := by
  have hr := hR.ro
  refine conI (by decide +kernel) ⟨fun _ => rfl, rfl, by simp⟩ (fun X C => ?_)
  change V X (0, 0) w h 0 [some (.ref p), some (.ref r), some (.int (nI len)), some (.int (nI x))] []
  refine v_aload_n C (oX4_takeLabels.at 0 rfl) rfl ?_
  refine v_iload_n C (oX4_takeLabels.at 1 rfl) rfl ?_
  refine v_putI C (oX4_takeLabels.at 2 rfl) fX4_22 p4_2 hP.1 rfl ?_
  simp only [List.set]
  refine v_aload_n C (oX4_takeLabels.at 3 rfl) rfl ?_
  refine v_iload_n C (oX4_takeLabels.at 4 rfl) rfl ?_
  refine v_iload_n C (oX4_takeLabels.at 5 rfl) rfl ?_
  refine v_aload_n C (oX4_takeLabels.at 6 rfl) rfl ?_
  refine v_getf C (oX4_takeLabels.at 7 rfl) fX4_9 (hu_s _ _ _) rfl ?_
  refine v_callV C (oX4_takeLabels.at 8 rfl) cX4_26 ((hu_n _ _ (by omega)).trans hr) (k_spreadWord ((hu_n _ _ (by omega)).trans hr) hs.k hx hlen (by decide) ((hu_n _ _ (by omega)).trans hP.2.1) (by omega)) rfl rfl rfl ⟨rfl, rfl⟩ rfl rfl (fun _ => rfl) (fun h' hp => ?_)
  rw [show h' = _ from hp]
  dsimp only [Option.toList, List.cons_append, List.nil_append]
  refine v_vret C (oX4_takeLabels.at 9 rfl) rfl rfl ⟨Nat.le_refl _, Nat.le_refl _⟩ ⟨rfl, ⟨(hu_n _ _ (by omega)).trans (hu_s _ _ _), hu_s _ _ _, ?_, fun i hi => ?_⟩, fun j hj => ?_⟩
  · rw [hu_n _ _ (by omega), hu_n _ _ (by omega)]; exact hP.2.2.1
  · rw [hu_n _ _ (by omega), hu_n _ _ (by omega)]; exact hP.2.2.2 i hi
  · rw [hu_n _ _ (by omega), hu_n _ _ (by omega)]
