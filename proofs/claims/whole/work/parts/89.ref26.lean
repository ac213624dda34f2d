/-! ===== the reference: behind a factor; the whole formula ===== -/
theorem hdm (t : List Nat) : (t.map wm).headD 0 = wm (t.headD 0) := by cases t <;> rfl
theorem PI.pop {h : Hp} {th : Nat} {S Z : Sc} {sv : Bool} {F : Sf} {c t : List Nat} {i x : Nat} {op : Bool} {h2 : Hp} (hI : PI h th S sv Z F c (x :: t) i op h2) : ∃ u, h2 62 = MO u ∧ u 20 = nI (t.length + 1) ∧ PI h th S sv Z F c t i op (hu h2 62 (MO (upd u 20 (nI (t.length + 1 - 1))))) := by
  obtain ⟨u, a0, a1, a2, a3, a4, a5, a6, ⟨fc, b1, b2⟩, ⟨fw, b3, b4⟩, b5, b6⟩ := hI
  rw [List.length_cons] at a4
  refine ⟨u, a0, a4, _, hu_s _ _ _, a1, a2, a3, rfl, a5, a6, ⟨fc, (hu_n _ _ (by decide)).trans b1, b2⟩, ⟨fw, (hu_n _ _ (by decide)).trans b3, b4.pop⟩, fun j j1 j2 => (hu_n _ _ j1).trans (b5 j j1 j2), b6.eq (fun j _ _ => hu_n _ _ (by omega))⟩
/-- the flags of what waits last -/
theorem gone_fl {w : Wt} {h1 : Hp} {s r y : Nat} {X : CT} {o : Oc} {P : Wt → Hp → Prop} (C : Cx X mX9_isGone [] 2 (0, 0) o P) (hy : y < 128) (K : V X (0, 0) w h1 141 [some (.ref 62), some (.int (nI s)), some (.int (nI r)), some (.int (nI y)), some (.int (nI (if y = 105 ∨ y = 97 then 1 else 0))), some (.int (nI (if y = 73 ∨ y = 65 then 1 else 0)))] []) : V X (0, 0) w h1 103 [some (.ref 62), some (.int (nI s)), some (.int (nI r)), some (.int (nI y)), none, none] [] := by
  have M : ∀ a, a = (if y = 105 ∨ y = 97 then 1 else 0) → V X (0, 0) w h1 120 [some (.ref 62), some (.int (nI s)), some (.int (nI r)), some (.int (nI y)), none, none] [.int (nI a)] := by
    intro a ha
    rw [← ha] at K
    refine v_istore C (oX9_isGone.at 68 rfl) rfl ?_
    dsimp only [sto1, sto2, killL]
    refine v_iload_n C (oX9_isGone.at 69 rfl) rfl ?_
    refine v_bipush C (oX9_isGone.at 70 rfl) (v := nI 73) rfl ?_
    refine v_icmp_eqN C (oX9_isGone.at 71 rfl) (tgt := 134) (by decide) (by omega) (by omega) (fun hc => ?_) (fun hc => ?_)
    · rw [if_pos (by omega)] at K
      refine v_iconst C (oX9_isGone.at 75 rfl) (v := nI 1) rfl ?_
      refine v_goto C (oX9_isGone.at 76 rfl) (tgt := 139) (by decide) ?_
      refine v_istore C (oX9_isGone.at 78 rfl) rfl ?_
      dsimp only [sto1, sto2, killL]
      exact K
    · refine v_iload_n C (oX9_isGone.at 72 rfl) rfl ?_
      refine v_bipush C (oX9_isGone.at 73 rfl) (v := nI 65) rfl ?_
      refine v_icmp_neN C (oX9_isGone.at 74 rfl) (tgt := 138) (by decide) (by omega) (by omega) (fun hc => ?_) (fun hc => ?_)
      · rw [if_neg (by omega)] at K
        refine v_iconst C (oX9_isGone.at 77 rfl) (v := nI 0) rfl ?_
        refine v_istore C (oX9_isGone.at 78 rfl) rfl ?_
        dsimp only [sto1, sto2, killL]
        exact K
      · rw [if_pos (by omega)] at K
        refine v_iconst C (oX9_isGone.at 75 rfl) (v := nI 1) rfl ?_
        refine v_goto C (oX9_isGone.at 76 rfl) (tgt := 139) (by decide) ?_
        refine v_istore C (oX9_isGone.at 78 rfl) rfl ?_
        dsimp only [sto1, sto2, killL]
        exact K
  refine v_iload_n C (oX9_isGone.at 59 rfl) rfl ?_
  refine v_bipush C (oX9_isGone.at 60 rfl) (v := nI 105) rfl ?_
  refine v_icmp_eqN C (oX9_isGone.at 61 rfl) (tgt := 115) (by decide) (by omega) (by omega) (fun hc => ?_) (fun hc => ?_)
  · refine v_iconst C (oX9_isGone.at 65 rfl) (v := nI 1) rfl ?_
    refine v_goto C (oX9_isGone.at 66 rfl) (tgt := 120) (by decide) ?_
    exact M 1 (by rw [if_pos (by omega)])
  · refine v_iload_n C (oX9_isGone.at 62 rfl) rfl ?_
    refine v_bipush C (oX9_isGone.at 63 rfl) (v := nI 97) rfl ?_
    refine v_icmp_neN C (oX9_isGone.at 64 rfl) (tgt := 119) (by decide) (by omega) (by omega) (fun hc => ?_) (fun hc => ?_)
    · refine v_iconst C (oX9_isGone.at 67 rfl) (v := nI 0) rfl ?_
      exact M 0 (by rw [if_neg (by omega)])
    · refine v_iconst C (oX9_isGone.at 65 rfl) (v := nI 1) rfl ?_
      refine v_goto C (oX9_isGone.at 66 rfl) (tgt := 120) (by decide) ?_
      exact M 1 (by rw [if_pos (by omega)])
theorem k9_isGone {w : Wt} {h h1 : Hp} {th : Nat} {S Z : Sc} {sv : Bool} {F : Sf} {c t : List Nat} {i d : Nat} {fb : Nat → Int32} (hI : PI h th S sv Z F c t i false h1) (hJ : JI 1 c t i) (h69 : h 69 = io 40 fb) (hB : ∀ j, j < F.1 → fb j = nI (F.2.2.2 j)) (hF : F.1 ≤ 40) (hi : i + (d + 1) = F.1) (htx : ∀ j, j < F.1 → F.2.2.2 j < 128) : (∃ c' t' due', due' ≤ 1 ∧ JI due' c' t' (i + 1) ∧ rdG F.2.2.2 S.2.1 F.1 d (i + 1) due' c' t' = rdG F.2.2.2 S.2.1 F.1 (d + 1) i 1 c t ∧ ConN mX9_isGone 2 (0, 0) w [.ref 62] h1 (.inl (some (.int (bI true)))) (PI h th S sv Z F c' t' (i + 1) (decide (due' = 0)))) ∨ ((rdG F.2.2.2 S.2.1 F.1 (d + 1) i 1 c t).1 ≠ 0 ∧ ConN mX9_isGone 2 (0, 0) w [.ref 62] h1 (.inl (some (.int (bI false)))) (PE2 h th S sv Z F (rdG F.2.2.2 S.2.1 F.1 (d + 1) i 1 c t).1 (rdG F.2.2.2 S.2.1 F.1 (d + 1) i 1 c t).2.1)) := by
  obtain ⟨j1, j2, j3, j4⟩ := hJ
  replace j4 := j4 rfl
  have hs := htx i (by omega)
  have kh := k9_here (w := w) hI h69 hB hF (by omega)
  rw [if_pos (by omega)] at kh
  generalize hsx : F.2.2.2 i = s at *
  have hsg : ∀ q due' c' t', oprt s c t = (q, due', c', t') → rdG F.2.2.2 S.2.1 F.1 (d + 1) i 1 c t = if q ≠ 0 then (q, nI i, c', t') else rdG F.2.2.2 S.2.1 F.1 d (i + 1) due' c' t' := fun q due' c' t' e => rdG_s (by rw [hsx]; exact e)
  have hI0 := hI
  obtain ⟨u, a0, a1, a2, a3, a4, a5, a6, -⟩ := hI0
  have S10 : ∀ {X : CT} {o : Oc} {P : Wt → Hp → Prop} (_ : Cx X mX9_isGone [] 2 (0, 0) o P), V X (0, 0) w h1 10 [some (.ref 62), some (.int (nI s)), some (.int (nI (rk9 s))), none, none, none] [] → V X (0, 0) w h1 0 [some (.ref 62), none, none, none, none, none] [] := by
    intro X o P C K
    refine v_aload_n C (oX9_isGone.at 0 rfl) rfl ?_
    refine v_callV C (oX9_isGone.at 1 rfl) cX9_178 a0 (kh) rfl rfl rfl ⟨rfl, rfl⟩ rfl rfl (fun _ => rfl) (fun h' hp => ?_)
    rw [show h' = _ from hp]
    dsimp only [Option.toList, List.cons_append, List.nil_append]
    refine v_istore_n C (oX9_isGone.at 2 rfl) rfl ?_
    refine v_iload_n C (oX9_isGone.at 3 rfl) rfl ?_
    dsimp only [sto1, sto2, killL]
    refine v_callS C (oX9_isGone.at 4 rfl) cX9_164 (k_rank (by omega)) rfl rfl rfl ⟨rfl, rfl⟩ rfl rfl (fun _ => rfl) (fun h' hp => ?_)
    rw [show h' = _ from hp]
    dsimp only [Option.toList, List.cons_append, List.nil_append]
    refine v_istore_n C (oX9_isGone.at 5 rfl) rfl ?_
    dsimp only [sto1, sto2, killL]
    exact K
  have hr9 := rk9_le s
  have wrong : ∀ {X : CT} {P : Wt → Hp → Prop} (_ : Cx X mX9_isGone [] 2 (0, 0) (.inl (some (.int (bI false)))) P) (c1 t1 : List Nat) (op : Bool) (h2 : Hp) (h' : Hp), PI h th S sv Z (F.1, (if i = F.1 then 2 else 1), nI i, F.2.2.2) c1 t1 i op h' → PE2 h th S sv Z F 1 (nI i) h' := by
    intro X P _ c1 t1 op h2 h' hh
    rw [if_neg (by omega)] at hh
    exact ⟨c1, t1, i, op, hh⟩
  by_cases hO : 0 < rk s
  · -- an operator
    have hs33 : s ≠ 33 := fun q => by rw [q] at hO; exact absurd hO (by decide)
    have e9 : rk9 s = rk s := rk9_rk hs33
    have hrl := rk_le3 s
    have hmv := mv9_mvO (r := max (rk s) 2) (by omega) t c j3 j4
    have hml := mvO_len (max (rk s) 2) t c
    have hmT := mvO_TW (max (rk s) 2) t c j2
    have kl := k9_lets (w := w) (r := max (rk s) 2) (by omega) (by omega) t c h1 hI (by omega) j2
    rw [hmv.1] at kl
    have hwms := (wm_op (x := s) (by omega)).1
    have S33 : ∀ {X : CT} {o : Oc} {P : Wt → Hp → Prop} (_ : Cx X mX9_isGone [] 2 (0, 0) o P), (∀ h2, PI h th S sv Z F (mvO (max (rk s) 2) c t).1 (mvO (max (rk s) 2) c t).2 i false h2 → V X (0, 0) w h2 33 [some (.ref 62), some (.int (nI s)), some (.int (nI (rk s))), none, none, none] []) → V X (0, 0) w h1 0 [some (.ref 62), none, none, none, none, none] [] := by
      intro X o P C K
      refine S10 C ?_
      rw [e9]
      refine v_iload_n C (oX9_isGone.at 6 rfl) rfl ?_
      refine v_if_leN C (oX9_isGone.at 7 rfl) (tgt := 76) (by decide) (by omega) (fun hc => absurd hc (by omega)) (fun hc => ?_)
      refine v_iload_n C (oX9_isGone.at 8 rfl) rfl ?_
      refine v_iconst C (oX9_isGone.at 9 rfl) (v := nI 4) rfl ?_
      refine v_icmp_geN C (oX9_isGone.at 10 rfl) (tgt := 76) (by decide) (by omega) (by omega) (fun hc => absurd hc (by omega)) (fun hc => ?_)
      refine v_aload_n C (oX9_isGone.at 11 rfl) rfl ?_
      refine v_iload_n C (oX9_isGone.at 12 rfl) rfl ?_
      refine v_iconst C (oX9_isGone.at 13 rfl) (v := nI 1) rfl ?_
      refine v_icmp_neN C (oX9_isGone.at 14 rfl) (tgt := 29) (by decide) (by omega) (by omega) (fun hc => ?_) (fun hc => ?_)
      · rw [show max (rk s) 2 = rk s by omega] at kl K
        refine v_iload_n C (oX9_isGone.at 17 rfl) rfl ?_
        refine v_callV C (oX9_isGone.at 18 rfl) cX9_185 a0 (kl) rfl rfl rfl ⟨rfl, rfl⟩ rfl rfl (fun _ => rfl) (fun h' hp => ?_)
        dsimp only [Option.toList, List.cons_append, List.nil_append]
        exact K _ hp
      · rw [show max (rk s) 2 = 2 by omega] at kl K
        refine v_iconst C (oX9_isGone.at 15 rfl) (v := nI 2) rfl ?_
        refine v_goto C (oX9_isGone.at 16 rfl) (tgt := 30) (by decide) ?_
        refine v_callV C (oX9_isGone.at 18 rfl) cX9_185 a0 (kl) rfl rfl rfl ⟨rfl, rfl⟩ rfl rfl (fun _ => rfl) (fun h' hp => ?_)
        dsimp only [Option.toList, List.cons_append, List.nil_append]
        exact K _ hp
    generalize hmm : mvO (max (rk s) 2) c t = m at *
    have hhd : m.2.headD 0 < 128 := by
      cases hm2 : m.2 with
      | nil => decide
      | cons x r => rw [hm2] at hmT; exact hmT.hd.lt
    have hrh : rk9 (wm (m.2.headD 0)) = rk (m.2.headD 0) := by rw [rk9_wm, rk9_rk hmv.2.2]
    by_cases hW : rk s = 1 ∧ rk (m.2.headD 0) = 1
    · right
      rw [hsg 1 0 m.1 m.2 (by unfold oprt; rw [if_pos hO, hmm, if_pos hW]), if_pos (by decide)]
      refine ⟨by dsimp only; decide, ?_⟩
      refine conI (by decide +kernel) ⟨fun _ => rfl, rfl, by simp⟩ (fun X C => ?_)
      change V X (0, 0) w h1 0 [some (.ref 62), none, none, none, none, none] []
      refine S33 C (fun h2 hI2 => ?_)
      have hI3 := hI2
      obtain ⟨u2, b0, -⟩ := hI3
      have kt := k9_top (w := w) hI2 (by omega)
      rw [hdm] at kt
      have kr := k_rank (w := w) (h := h2) (x := wm (m.2.headD 0)) (by have := wm_lt hhd; omega)
      rw [hrh] at kr
      refine v_iload_n C (oX9_isGone.at 19 rfl) rfl ?_
      refine v_iconst C (oX9_isGone.at 20 rfl) (v := nI 1) rfl ?_
      refine v_icmp_neN C (oX9_isGone.at 21 rfl) (tgt := 54) (by decide) (by omega) (by omega) (fun hc => absurd hc (by omega)) (fun hc => ?_)
      refine v_aload_n C (oX9_isGone.at 22 rfl) rfl ?_
      refine v_callV C (oX9_isGone.at 23 rfl) cX9_161 b0 (kt) rfl rfl rfl ⟨rfl, rfl⟩ rfl rfl (fun _ => rfl) (fun h' hp => ?_)
      rw [show h' = _ from hp]
      dsimp only [Option.toList, List.cons_append, List.nil_append]
      refine v_callS C (oX9_isGone.at 24 rfl) cX9_164 (kr) rfl rfl rfl ⟨rfl, rfl⟩ rfl rfl (fun _ => rfl) (fun h' hp => ?_)
      rw [show h' = _ from hp]
      dsimp only [Option.toList, List.cons_append, List.nil_append]
      refine v_iconst C (oX9_isGone.at 25 rfl) (v := nI 1) rfl ?_
      refine v_icmp_neN C (oX9_isGone.at 26 rfl) (tgt := 54) (by decide) (by omega) (by omega) (fun hc => absurd hc (by omega)) (fun hc => ?_)
      refine v_aload_n C (oX9_isGone.at 27 rfl) rfl ?_
      refine v_callV C (oX9_isGone.at 28 rfl) cX9_191 b0 (k9_isWrong hI2 (by omega) hF) rfl rfl rfl ⟨rfl, rfl⟩ rfl rfl (fun _ => rfl) (fun h' hp => ?_)
      dsimp only [Option.toList, List.cons_append, List.nil_append]
      exact v_zret C (oX9_isGone.at 29 rfl) rfl rfl ⟨Nat.le_refl _, Nat.le_refl _⟩ ⟨rfl, wrong C _ _ _ h2 _ hp⟩
    · left
      refine ⟨m.1, s :: m.2, 0, by omega, ⟨by rw [List.length_cons]; omega, TW.cons (Or.inr (Or.inr (Or.inl hO))) hmT, ⟨hmv.2.1, fun _ => hmv.2.2⟩, fun q => absurd q (by decide)⟩, ?_, ?_⟩
      · rw [hsg 0 0 m.1 (s :: m.2) (by unfold oprt; rw [if_pos hO, hmm, if_neg hW]), if_neg (by decide)]
      · rw [show decide (0 = 0) = true from rfl]
        refine conI (by decide +kernel) ⟨fun _ => rfl, rfl, by simp⟩ (fun X C => ?_)
        change V X (0, 0) w h1 0 [some (.ref 62), none, none, none, none, none] []
        refine S33 C (fun h2 hI2 => ?_)
        have hI3 := hI2
        obtain ⟨u2, b0, -⟩ := hI3
        have M : V X (0, 0) w h2 54 [some (.ref 62), some (.int (nI s)), some (.int (nI (rk s))), none, none, none] [] := by
          have kw := k9_waitsFor (w := w) (y := s) hI2 (by omega)
          rw [hwms] at kw
          refine v_aload_n C (oX9_isGone.at 30 rfl) rfl ?_
          refine v_iload_n C (oX9_isGone.at 31 rfl) rfl ?_
          refine v_callV C (oX9_isGone.at 32 rfl) cX9_188 b0 (kw) rfl rfl rfl ⟨rfl, rfl⟩ rfl rfl (fun _ => rfl) (fun h' hp => ?_)
          dsimp only [Option.toList, List.cons_append, List.nil_append]
          have hI4 : PI h th S sv Z F m.1 (s :: m.2) i false h' := hp
          clear hp
          generalize h' = h4 at hI4 ⊢
          obtain ⟨u4, d0, hI5⟩ := hI4.opn true
          refine v_aload_n C (oX9_isGone.at 33 rfl) rfl ?_
          refine v_iconst C (oX9_isGone.at 34 rfl) (v := bI true) rfl ?_
          refine v_put9Z C (oX9_isGone.at 35 rfl) fX9_181 p9_22 d0 ⟨rfl, rfl, rfl⟩ ?_
          generalize hu h4 62 (MO (upd u4 22 (bI true))) = h5 at *
          obtain ⟨u5, g0, g5, hI6⟩ := hI5.inc
          refine v_aload_n C (oX9_isGone.at 36 rfl) rfl ?_
          refine v_dup C (oX9_isGone.at 37 rfl) rfl ?_
          refine v_getf C (oX9_isGone.at 38 rfl) fX9_152 g0 (congrArg (fun z => some (Value.int z)) (g5)) ?_
          refine v_iconst C (oX9_isGone.at 39 rfl) (v := nI 1) rfl ?_
          refine v_iaddN C (oX9_isGone.at 40 rfl) ?_
          refine v_put9 C (oX9_isGone.at 41 rfl) fX9_152 p9_21 g0 ⟨rfl, rfl, rfl⟩ ?_
          refine v_iconst C (oX9_isGone.at 42 rfl) (v := nI 1) rfl ?_
          exact v_zret1 C (oX9_isGone.at 43 rfl) rfl rfl ⟨Nat.le_refl _, Nat.le_refl _⟩ ⟨rfl, hI6⟩
        have kt := k9_top (w := w) hI2 (by omega)
        rw [hdm] at kt
        have kr := k_rank (w := w) (h := h2) (x := wm (m.2.headD 0)) (by have := wm_lt hhd; omega)
        rw [hrh] at kr
        have hrl2 := rk_le3 (m.2.headD 0)
        refine v_iload_n C (oX9_isGone.at 19 rfl) rfl ?_
        refine v_iconst C (oX9_isGone.at 20 rfl) (v := nI 1) rfl ?_
        refine v_icmp_neN C (oX9_isGone.at 21 rfl) (tgt := 54) (by decide) (by omega) (by omega) (fun hc => ?_) (fun hc => ?_)
        · exact M
        · refine v_aload_n C (oX9_isGone.at 22 rfl) rfl ?_
          refine v_callV C (oX9_isGone.at 23 rfl) cX9_161 b0 (kt) rfl rfl rfl ⟨rfl, rfl⟩ rfl rfl (fun _ => rfl) (fun h' hp => ?_)
          rw [show h' = _ from hp]
          dsimp only [Option.toList, List.cons_append, List.nil_append]
          refine v_callS C (oX9_isGone.at 24 rfl) cX9_164 (kr) rfl rfl rfl ⟨rfl, rfl⟩ rfl rfl (fun _ => rfl) (fun h' hp => ?_)
          rw [show h' = _ from hp]
          dsimp only [Option.toList, List.cons_append, List.nil_append]
          refine v_iconst C (oX9_isGone.at 25 rfl) (v := nI 1) rfl ?_
          refine v_icmp_neN C (oX9_isGone.at 26 rfl) (tgt := 54) (by decide) (by omega) (by omega) (fun hc => ?_) (fun hc => ?_)
          · exact M
          · exact absurd ⟨by assumption, hc⟩ hW
  · -- no operator
    have e9 : rk9 s = 0 ∨ rk9 s = 4 := by
      by_cases q : s = 33
      · right; rw [q]; decide
      · left; rw [rk9_rk q]; omega
    have S76 : ∀ {X : CT} {o : Oc} {P : Wt → Hp → Prop} (_ : Cx X mX9_isGone [] 2 (0, 0) o P), V X (0, 0) w h1 76 [some (.ref 62), some (.int (nI s)), some (.int (nI (rk9 s))), none, none, none] [] → V X (0, 0) w h1 0 [some (.ref 62), none, none, none, none, none] [] := by
      intro X o P C K
      refine S10 C ?_
      refine v_iload_n C (oX9_isGone.at 6 rfl) rfl ?_
      refine v_if_leN C (oX9_isGone.at 7 rfl) (tgt := 76) (by decide) (by omega) (fun hc => ?_) (fun hc => ?_)
      · exact K
      · refine v_iload_n C (oX9_isGone.at 8 rfl) rfl ?_
        refine v_iconst C (oX9_isGone.at 9 rfl) (v := nI 4) rfl ?_
        refine v_icmp_geN C (oX9_isGone.at 10 rfl) (tgt := 76) (by decide) (by omega) (by omega) (fun hc => ?_) (fun hc => ?_)
        · exact K
        · omega
    by_cases h44 : s = 44 ∨ s = 41
    · have hmv := mv9_mvO (r := 1) (by omega) t c j3 j4
      have hml := mvO_len 1 t c
      have hmT := mvO_TW 1 t c j2
      have kl := k9_lets (w := w) (r := 1) (by omega) (by omega) t c h1 hI (by omega) j2
      rw [hmv.1] at kl
      generalize hmm : mvO 1 c t = m at *
      have hhd : m.2.headD 0 < 128 := by
        cases hm2 : m.2 with
        | nil => decide
        | cons x r => rw [hm2] at hmT; exact hmT.hd.lt
      have hyl := wm_lt hhd
      -- the flags
      have S141 : ∀ {X : CT} {o : Oc} {P : Wt → Hp → Prop} (_ : Cx X mX9_isGone [] 2 (0, 0) o P), (∀ h2, PI h th S sv Z F m.1 m.2 i false h2 → V X (0, 0) w h2 141 [some (.ref 62), some (.int (nI s)), some (.int (nI (rk9 s))), some (.int (nI (wm (m.2.headD 0)))), some (.int (nI (if wm (m.2.headD 0) = 105 ∨ wm (m.2.headD 0) = 97 then 1 else 0))), some (.int (nI (if wm (m.2.headD 0) = 73 ∨ wm (m.2.headD 0) = 65 then 1 else 0)))] []) → V X (0, 0) w h1 0 [some (.ref 62), none, none, none, none, none] [] := by
        intro X o P C K
        refine S76 C ?_
        have M : V X (0, 0) w h1 93 [some (.ref 62), some (.int (nI s)), some (.int (nI (rk9 s))), none, none, none] [] := by
          refine v_aload_n C (oX9_isGone.at 53 rfl) rfl ?_
          refine v_iconst C (oX9_isGone.at 54 rfl) (v := nI 1) rfl ?_
          refine v_callV C (oX9_isGone.at 55 rfl) cX9_185 a0 (kl) rfl rfl rfl ⟨rfl, rfl⟩ rfl rfl (fun _ => rfl) (fun h' hp => ?_)
          dsimp only [Option.toList, List.cons_append, List.nil_append]
          have hI2 : PI h th S sv Z F m.1 m.2 i false h' := hp
          clear hp
          generalize h' = h2 at hI2 ⊢
          have hI3 := hI2
          obtain ⟨u2, b0, -⟩ := hI3
          have kt := k9_top (w := w) hI2 (by omega)
          rw [hdm] at kt
          refine v_aload_n C (oX9_isGone.at 56 rfl) rfl ?_
          refine v_callV C (oX9_isGone.at 57 rfl) cX9_161 b0 (kt) rfl rfl rfl ⟨rfl, rfl⟩ rfl rfl (fun _ => rfl) (fun h' hp => ?_)
          rw [show h' = _ from hp]
          dsimp only [Option.toList, List.cons_append, List.nil_append]
          refine v_istore_n C (oX9_isGone.at 58 rfl) rfl ?_
          dsimp only [sto1, sto2, killL]
          exact gone_fl C hyl (K h2 hI2)
        refine v_iload_n C (oX9_isGone.at 44 rfl) rfl ?_
        refine v_bipush C (oX9_isGone.at 45 rfl) (v := nI 44) rfl ?_
        refine v_icmp_eqN C (oX9_isGone.at 46 rfl) (tgt := 93) (by decide) (by omega) (by omega) (fun hc => ?_) (fun hc => ?_)
        · exact M
        · refine v_iload_n C (oX9_isGone.at 47 rfl) rfl ?_
          refine v_bipush C (oX9_isGone.at 48 rfl) (v := nI 41) rfl ?_
          refine v_icmp_eqN C (oX9_isGone.at 49 rfl) (tgt := 93) (by decide) (by omega) (by omega) (fun hc => ?_) (fun hc => ?_)
          · exact M
          · omega
      -- which signs the last one that waits may be
      have hx : (m.2 = [] ∧ m.2.headD 0 = 0) ∨ ∃ x r, m.2 = x :: r ∧ m.2.headD 0 = x ∧ Wok x := by
        cases hm2 : m.2 with
        | nil => exact Or.inl ⟨rfl, rfl⟩
        | cons x r => rw [hm2] at hmT; exact Or.inr ⟨x, r, rfl, rfl, hmT.hd⟩
      have hwx : ∀ z, (z = 78 ∨ z = 88 ∨ z = 110 ∨ z = 120 ∨ z = 40) → (m.2.headD 0 = z ↔ wm (m.2.headD 0) = wm z) := by
        intro z hz
        constructor
        · intro q; rw [q]
        · intro q
          rcases hx with ⟨-, h0⟩ | ⟨x, r, -, h0, hok⟩
          · rw [h0] at q
            rcases hz with rfl | rfl | rfl | rfl | rfl <;> exact absurd q (by decide)
          · rw [h0] at q ⊢
            have hopx : 0 < rk x → wm x = x ∧ x ≠ 105 ∧ x ≠ 97 ∧ x ≠ 73 ∧ x ≠ 65 ∧ x ≠ 40 := by
              intro hr
              refine ⟨(wm_op (by rw [rk9_rk (fun q => by rw [q] at hr; exact absurd hr (by decide))]; exact hr)).1, ?_, ?_, ?_, ?_, ?_⟩ <;> intro q <;> rw [q] at hr <;> exact absurd hr (by decide)
            rcases hok with k | k | k | k | k | k | k
            · rw [k] at q ⊢
              rcases hz with rfl | rfl | rfl | rfl | rfl <;> exact absurd q (by decide)
            · rw [k] at q ⊢
              rcases hz with rfl | rfl | rfl | rfl | rfl <;> first | rfl | exact absurd q (by decide)
            · obtain ⟨k1, k2⟩ := hopx k
              rw [k1] at q
              rcases hz with rfl | rfl | rfl | rfl | rfl
              · exact absurd q k2.1
              · exact absurd q k2.2.1
              · exact absurd q k2.2.2.1
              · exact absurd q k2.2.2.2.1
              · exact absurd q k2.2.2.2.2
            · rw [k] at q ⊢
              rcases hz with rfl | rfl | rfl | rfl | rfl <;> first | rfl | exact absurd q (by decide)
            · rw [k] at q ⊢
              rcases hz with rfl | rfl | rfl | rfl | rfl <;> first | rfl | exact absurd q (by decide)
            · rw [k] at q ⊢
              rcases hz with rfl | rfl | rfl | rfl | rfl <;> first | rfl | exact absurd q (by decide)
            · rw [k] at q ⊢
              rcases hz with rfl | rfl | rfl | rfl | rfl <;> first | rfl | exact absurd q (by decide)
      have w78 : m.2.headD 0 = 78 ↔ wm (m.2.headD 0) = 105 := hwx 78 (by omega)
      have w88 : m.2.headD 0 = 88 ↔ wm (m.2.headD 0) = 97 := hwx 88 (by omega)
      have w110 : m.2.headD 0 = 110 ↔ wm (m.2.headD 0) = 73 := hwx 110 (by omega)
      have w120 : m.2.headD 0 = 120 ↔ wm (m.2.headD 0) = 65 := hwx 120 (by omega)
      have w40 : m.2.headD 0 = 40 ↔ wm (m.2.headD 0) = 40 := hwx 40 (by omega)
      clear hwx
      by_cases hok : (s = 44 ∧ (m.2.headD 0 = 78 ∨ m.2.headD 0 = 88)) ∨ (s = 41 ∧ (m.2.headD 0 = 40 ∨ m.2.headD 0 = 110 ∨ m.2.headD 0 = 120))
      · left
        obtain ⟨x, r, hm2, hhx⟩ : ∃ x r, m.2 = x :: r ∧ m.2.headD 0 = x := by
          rcases hx with ⟨-, h0⟩ | ⟨x, r, h1, h2, -⟩
          · omega
          · exact ⟨x, r, h1, h2⟩
        rw [hhx] at w78 w88 w110 w120 w40 hok hyl S141
        rw [hm2, List.length_cons] at hml
        have hnb := hmv.2.1
        rw [hm2] at hnb hmT
        rcases hok with ⟨hs44, hx2⟩ | ⟨hs41, hx2⟩
        · -- a comma
          have hz : wm (if x = 78 then 110 else 120) = wm x - 97 + 65 := by
            rcases hx2 with rfl | rfl <;> rfl
          refine ⟨m.1, (if x = 78 then 110 else 120) :: r, 0, by omega, ⟨by rw [List.length_cons]; omega, TW.cons (by unfold Wok; split <;> omega) hmT.tl, ⟨hnb.1, fun q => ?_⟩, fun q => absurd q (by decide)⟩, ?_, ?_⟩
          · by_cases q2 : x = 78
            · rw [if_pos q2] at q; exact absurd q (by decide)
            · rw [if_neg q2] at q; exact absurd q (by decide)
          · rw [hsg 0 0 m.1 ((if x = 78 then 110 else 120) :: r) (by unfold oprt; rw [if_neg hO, hmm, hhx, if_pos ⟨hs44, hx2⟩, hm2]; rfl), if_neg (fun q : 0 ≠ 0 => q rfl)]
          · rw [show decide (0 = 0) = true from rfl]
            refine conI (by decide +kernel) ⟨fun _ => rfl, rfl, by simp⟩ (fun X C => ?_)
            change V X (0, 0) w h1 0 [some (.ref 62), none, none, none, none, none] []
            refine S141 C (fun h2 hI2 => ?_)
            rw [hm2] at hI2
            rw [if_pos (by omega), if_neg (by omega)]
            obtain ⟨u2, b0, b5, hI3⟩ := hI2.inc
            refine v_iload_n C (oX9_isGone.at 79 rfl) rfl ?_
            refine v_bipush C (oX9_isGone.at 80 rfl) (v := nI 44) rfl ?_
            refine v_icmp_neN C (oX9_isGone.at 81 rfl) (tgt := 155) (by decide) (by omega) (by omega) (fun hc => absurd hc (by omega)) (fun hc => ?_)
            refine v_iload C (oX9_isGone.at 82 rfl) rfl ?_
            refine v_if_neN C (oX9_isGone.at 83 rfl) (tgt := 171) (by decide) (by omega) (fun hc => ?_) (fun hc => absurd hc (by omega))
            refine v_aload_n C (oX9_isGone.at 93 rfl) rfl ?_
            refine v_dup C (oX9_isGone.at 94 rfl) rfl ?_
            refine v_getf C (oX9_isGone.at 95 rfl) fX9_152 b0 (congrArg (fun z => some (Value.int z)) (b5)) ?_
            refine v_iconst C (oX9_isGone.at 96 rfl) (v := nI 1) rfl ?_
            refine v_iaddN C (oX9_isGone.at 97 rfl) ?_
            refine v_put9 C (oX9_isGone.at 98 rfl) fX9_152 p9_21 b0 ⟨rfl, rfl, rfl⟩ ?_
            generalize hu h2 62 (MO (upd u2 21 (nI (i + 1)))) = h3 at *
            have hI4 := hI3
            obtain ⟨u3, c0, c1, c2, c3, c4, c5, c6, ⟨fc, e1, e2⟩, ⟨fw, e3, e4⟩, e5, e6⟩ := hI4
            rw [List.length_cons] at c4
            refine v_iload_n C (oX9_isGone.at 99 rfl) rfl ?_
            refine v_bipush C (oX9_isGone.at 100 rfl) (v := nI 44) rfl ?_
            refine v_icmp_neN C (oX9_isGone.at 101 rfl) (tgt := 212) (by decide) (by omega) (by omega) (fun hc => absurd hc (by omega)) (fun hc => ?_)
            refine v_aload_n C (oX9_isGone.at 102 rfl) rfl ?_
            refine v_getf C (oX9_isGone.at 103 rfl) fX9_50 c0 rfl ?_
            refine v_aload_n C (oX9_isGone.at 104 rfl) rfl ?_
            refine v_getf C (oX9_isGone.at 105 rfl) fX9_158 c0 (congrArg (fun z => some (Value.int z)) (c4)) ?_
            refine v_iconst C (oX9_isGone.at 106 rfl) (v := nI 1) rfl ?_
            refine v_isubN C (oX9_isGone.at 107 rfl) (by omega) ?_
            refine v_iload_n C (oX9_isGone.at 108 rfl) rfl ?_
            refine v_bipush C (oX9_isGone.at 109 rfl) (v := nI 97) rfl ?_
            refine v_isubN C (oX9_isGone.at 110 rfl) (by omega) ?_
            refine v_bipush C (oX9_isGone.at 111 rfl) (v := nI 65) rfl ?_
            refine v_iaddN C (oX9_isGone.at 112 rfl) ?_
            refine v_iast C (oX9_isGone.at 113 rfl) e3 (by decide) rfl (by omega) ?_
            have hI5 : PI h th S sv Z F m.1 ((if x = 78 then 110 else 120) :: r) (i + 1) false (hu h3 73 (io 41 (upd fw (r.length + 1 - 1) (nI (wm x - 97 + 65))))) := by
              refine ⟨u3, (hu_n _ _ (by decide)).trans c0, c1, c2, c3, by rw [List.length_cons]; exact c4, c5, c6, ⟨fc, (hu_n _ _ (by decide)).trans e1, e2⟩, ⟨_, hu_s _ _ _, ?_⟩, fun j j1 j2 => (hu_n _ _ (by omega)).trans (e5 j j1 j2), e6.up (i := 73) (Or.inl ⟨by decide, by decide⟩) _⟩
              have e7 : LA fw (wm x :: r.map wm) := e4
              have e8 := e7.pop.push (wm (if x = 78 then 110 else 120))
              rw [List.length_map, hz] at e8
              rw [List.map_cons, hz]
              exact e8
            generalize hu h3 73 (io 41 (upd fw (r.length + 1 - 1) (nI (wm x - 97 + 65)))) = h5 at *
            obtain ⟨u6, d0, hI6⟩ := hI5.opn true
            refine v_aload_n C (oX9_isGone.at 114 rfl) rfl ?_
            refine v_iconst C (oX9_isGone.at 115 rfl) (v := bI true) rfl ?_
            refine v_put9Z C (oX9_isGone.at 116 rfl) fX9_181 p9_22 d0 ⟨rfl, rfl, rfl⟩ ?_
            refine v_iconst C (oX9_isGone.at 117 rfl) (v := nI 1) rfl ?_
            exact v_zret1 C (oX9_isGone.at 118 rfl) rfl rfl ⟨Nat.le_refl _, Nat.le_refl _⟩ ⟨rfl, hI6⟩
        · -- a closing bracket
          have hE := endF_len r (if x = 40 then m.1 else x :: m.1)
          have hN := endF_nb r (if x = 40 then m.1 else x :: m.1) hnb.1
          have hle : (if x = 40 then m.1 else x :: m.1).length ≤ m.1.length + 1 := by
            split
            · omega
            · rw [List.length_cons]; exact Nat.le_refl _
          refine ⟨(endF (if x = 40 then m.1 else x :: m.1) r).1, (endF (if x = 40 then m.1 else x :: m.1) r).2, 1, by omega, ⟨by omega, endF_TW r _ hmT.tl, hN.1, fun _ => hN.2⟩, ?_, ?_⟩
          · rw [hsg 0 1 (endF (if x = 40 then m.1 else x :: m.1) r).1 (endF (if x = 40 then m.1 else x :: m.1) r).2 (by unfold oprt; rw [if_neg hO, hmm, hhx, if_neg (by omega), if_pos ⟨hs41, hx2⟩, hm2]; rfl), if_neg (fun q : 0 ≠ 0 => q rfl)]
          · rw [show decide (1 = 0) = false from rfl]
            refine conI (by decide +kernel) ⟨fun _ => rfl, rfl, by simp⟩ (fun X C => ?_)
            change V X (0, 0) w h1 0 [some (.ref 62), none, none, none, none, none] []
            refine S141 C (fun h2 hI2 => ?_)
            rw [hm2] at hI2
            rw [if_neg (show ¬ (wm x = 105 ∨ wm x = 97) by omega)]
            obtain ⟨u2, b0, b5, hI3⟩ := hI2.inc
            have M : ∀ n, V X (0, 0) w h2 171 [some (.ref 62), some (.int (nI s)), some (.int (nI (rk9 s))), some (.int (nI (wm x))), some (.int (nI n)), some (.int (nI (if wm x = 73 ∨ wm x = 65 then 1 else 0)))] [] := by
              intro n
              refine v_aload_n C (oX9_isGone.at 93 rfl) rfl ?_
              refine v_dup C (oX9_isGone.at 94 rfl) rfl ?_
              refine v_getf C (oX9_isGone.at 95 rfl) fX9_152 b0 (congrArg (fun z => some (Value.int z)) (b5)) ?_
              refine v_iconst C (oX9_isGone.at 96 rfl) (v := nI 1) rfl ?_
              refine v_iaddN C (oX9_isGone.at 97 rfl) ?_
              refine v_put9 C (oX9_isGone.at 98 rfl) fX9_152 p9_21 b0 ⟨rfl, rfl, rfl⟩ ?_
              generalize hu h2 62 (MO (upd u2 21 (nI (i + 1)))) = h3 at *
              obtain ⟨u3, c0, c20, hI4⟩ := hI3.pop
              refine v_iload_n C (oX9_isGone.at 99 rfl) rfl ?_
              refine v_bipush C (oX9_isGone.at 100 rfl) (v := nI 44) rfl ?_
              refine v_icmp_neN C (oX9_isGone.at 101 rfl) (tgt := 212) (by decide) (by omega) (by omega) (fun hc => ?_) (fun hc => absurd hc (by omega))
              refine v_aload_n C (oX9_isGone.at 119 rfl) rfl ?_
              refine v_dup C (oX9_isGone.at 120 rfl) rfl ?_
              refine v_getf C (oX9_isGone.at 121 rfl) fX9_158 c0 (congrArg (fun z => some (Value.int z)) (c20)) ?_
              refine v_iconst C (oX9_isGone.at 122 rfl) (v := nI 1) rfl ?_
              refine v_isubN C (oX9_isGone.at 123 rfl) (by omega) ?_
              refine v_put9 C (oX9_isGone.at 124 rfl) fX9_158 p9_20 c0 ⟨rfl, rfl, rfl⟩ ?_
              generalize hu h3 62 (MO (upd u3 20 (nI (r.length + 1 - 1)))) = h4 at *
              have E : ∀ h5 c5, PI h th S sv Z F c5 r (i + 1) false h5 → c5.length ≤ m.1.length + 1 → c5 = (if x = 40 then m.1 else x :: m.1) → ∀ f, V X (0, 0) w h5 232 [some (.ref 62), some (.int (nI s)), some (.int (nI (rk9 s))), some (.int (nI (wm x))), some (.int (nI n)), some (.int f)] [] := by
                intro h5 c5 hI5 hl5 hc5 f
                have hI6 := hI5
                obtain ⟨u5, d0, -⟩ := hI6
                have kl4 := k9_lets (w := w) (r := 4) (by decide) (by decide) _ _ _ hI5 (by omega) hmT.tl
                rw [mv9_4, hc5] at kl4
                refine v_aload_n C (oX9_isGone.at 130 rfl) rfl ?_
                refine v_iconst C (oX9_isGone.at 131 rfl) (v := nI 4) rfl ?_
                refine v_callV C (oX9_isGone.at 132 rfl) cX9_185 d0 (kl4) rfl rfl rfl ⟨rfl, rfl⟩ rfl rfl (fun _ => rfl) (fun h' hp => ?_)
                dsimp only [Option.toList, List.cons_append, List.nil_append]
                refine v_iconst C (oX9_isGone.at 133 rfl) (v := nI 1) rfl ?_
                exact v_zret1 C (oX9_isGone.at 134 rfl) rfl rfl ⟨Nat.le_refl _, Nat.le_refl _⟩ ⟨rfl, hp⟩
              have hI5 := hI4
              obtain ⟨u5, d0, -⟩ := hI5
              by_cases q40 : x = 40
              · rw [if_neg (by omega)]
                refine v_iload C (oX9_isGone.at 125 rfl) rfl ?_
                refine v_if_eqN C (oX9_isGone.at 126 rfl) (tgt := 232) (by decide) (by omega) (fun hc => ?_) (fun hc => absurd hc (by omega))
                exact E h4 m.1 hI4 (by omega) (by rw [if_pos q40]) _
              · rw [if_pos (by omega)]
                have ke := k9_emits (w := w) (y := x) hI4 (by omega)
                have hcm : cm x = wm x := by
                  rcases hx2 with q | q | q
                  · exact absurd q q40
                  · rw [q]; rfl
                  · rw [q]; rfl
                rw [hcm] at ke
                refine v_iload C (oX9_isGone.at 125 rfl) rfl ?_
                refine v_if_eqN C (oX9_isGone.at 126 rfl) (tgt := 232) (by decide) (by omega) (fun hc => absurd hc (by omega)) (fun hc => ?_)
                refine v_aload_n C (oX9_isGone.at 127 rfl) rfl ?_
                refine v_iload_n C (oX9_isGone.at 128 rfl) rfl ?_
                refine v_callV C (oX9_isGone.at 129 rfl) cX9_167 d0 (ke) rfl rfl rfl ⟨rfl, rfl⟩ rfl rfl (fun _ => rfl) (fun h' hp => ?_)
                dsimp only [Option.toList, List.cons_append, List.nil_append]
                exact E h' (x :: m.1) hp (by rw [List.length_cons]; exact Nat.le_refl _) (by rw [if_neg q40]) _
            by_cases q2 : wm x = 73 ∨ wm x = 65
            · replace M := M 0
              rw [if_pos q2] at M ⊢
              refine v_iload_n C (oX9_isGone.at 79 rfl) rfl ?_
              refine v_bipush C (oX9_isGone.at 80 rfl) (v := nI 44) rfl ?_
              refine v_icmp_neN C (oX9_isGone.at 81 rfl) (tgt := 155) (by decide) (by omega) (by omega) (fun hc => ?_) (fun hc => absurd hc (by omega))
              refine v_iload C (oX9_isGone.at 85 rfl) rfl ?_
              refine v_if_neN C (oX9_isGone.at 86 rfl) (tgt := 171) (by decide) (by omega) (fun hc => ?_) (fun hc => absurd hc (by omega))
              exact M
            · replace M := M 0
              rw [if_neg q2] at M ⊢
              refine v_iload_n C (oX9_isGone.at 79 rfl) rfl ?_
              refine v_bipush C (oX9_isGone.at 80 rfl) (v := nI 44) rfl ?_
              refine v_icmp_neN C (oX9_isGone.at 81 rfl) (tgt := 155) (by decide) (by omega) (by omega) (fun hc => ?_) (fun hc => absurd hc (by omega))
              refine v_iload C (oX9_isGone.at 85 rfl) rfl ?_
              refine v_if_neN C (oX9_isGone.at 86 rfl) (tgt := 171) (by decide) (by omega) (fun hc => absurd hc (by omega)) (fun hc => ?_)
              refine v_iload_n C (oX9_isGone.at 87 rfl) rfl ?_
              refine v_bipush C (oX9_isGone.at 88 rfl) (v := nI 40) rfl ?_
              refine v_icmp_eqN C (oX9_isGone.at 89 rfl) (tgt := 171) (by decide) (by omega) (by omega) (fun hc => ?_) (fun hc => absurd hc (by omega))
              exact M
      · right
        have hop : oprt s c t = (1, 0, m.1, m.2) := by
          unfold oprt
          rw [if_neg hO, hmm, if_neg (fun q => hok (Or.inl q)), if_neg (fun q => hok (Or.inr q))]
        rw [hsg 1 0 m.1 m.2 hop, if_pos (by decide)]
        refine ⟨by dsimp only; decide, ?_⟩
        refine conI (by decide +kernel) ⟨fun _ => rfl, rfl, by simp⟩ (fun X C => ?_)
        change V X (0, 0) w h1 0 [some (.ref 62), none, none, none, none, none] []
        refine S141 C (fun h2 hI2 => ?_)
        have hI3 := hI2
        obtain ⟨u2, b0, -⟩ := hI3
        have W : ∀ a b, V X (0, 0) w h2 166 [some (.ref 62), some (.int (nI s)), some (.int (nI (rk9 s))), some (.int (nI (wm (m.2.headD 0)))), some (.int (nI a)), some (.int (nI b))] [] := by
          intro a b
          refine v_aload_n C (oX9_isGone.at 90 rfl) rfl ?_
          refine v_callV C (oX9_isGone.at 91 rfl) cX9_191 b0 (k9_isWrong hI2 (by omega) hF) rfl rfl rfl ⟨rfl, rfl⟩ rfl rfl (fun _ => rfl) (fun h' hp => ?_)
          dsimp only [Option.toList, List.cons_append, List.nil_append]
          exact v_zret C (oX9_isGone.at 92 rfl) rfl rfl ⟨Nat.le_refl _, Nat.le_refl _⟩ ⟨rfl, wrong C _ _ _ h2 _ hp⟩
        rcases h44 with h44 | h44
        · rw [if_neg (show ¬ (wm (m.2.headD 0) = 105 ∨ wm (m.2.headD 0) = 97) by omega)]
          by_cases q2 : wm (m.2.headD 0) = 73 ∨ wm (m.2.headD 0) = 65
          · rw [if_pos q2]
            refine v_iload_n C (oX9_isGone.at 79 rfl) rfl ?_
            refine v_bipush C (oX9_isGone.at 80 rfl) (v := nI 44) rfl ?_
            refine v_icmp_neN C (oX9_isGone.at 81 rfl) (tgt := 155) (by decide) (by omega) (by omega) (fun hc => absurd hc (by omega)) (fun hc => ?_)
            refine v_iload C (oX9_isGone.at 82 rfl) rfl ?_
            refine v_if_neN C (oX9_isGone.at 83 rfl) (tgt := 171) (by decide) (by omega) (fun hc => absurd hc (by omega)) (fun hc => ?_)
            refine v_goto C (oX9_isGone.at 84 rfl) (tgt := 166) (by decide) ?_
            exact W _ _
          · rw [if_neg q2]
            refine v_iload_n C (oX9_isGone.at 79 rfl) rfl ?_
            refine v_bipush C (oX9_isGone.at 80 rfl) (v := nI 44) rfl ?_
            refine v_icmp_neN C (oX9_isGone.at 81 rfl) (tgt := 155) (by decide) (by omega) (by omega) (fun hc => absurd hc (by omega)) (fun hc => ?_)
            refine v_iload C (oX9_isGone.at 82 rfl) rfl ?_
            refine v_if_neN C (oX9_isGone.at 83 rfl) (tgt := 171) (by decide) (by omega) (fun hc => absurd hc (by omega)) (fun hc => ?_)
            refine v_goto C (oX9_isGone.at 84 rfl) (tgt := 166) (by decide) ?_
            exact W _ _
        · rw [if_neg (show ¬ (wm (m.2.headD 0) = 73 ∨ wm (m.2.headD 0) = 65) by omega)]
          by_cases q2 : wm (m.2.headD 0) = 105 ∨ wm (m.2.headD 0) = 97
          · rw [if_pos q2]
            refine v_iload_n C (oX9_isGone.at 79 rfl) rfl ?_
            refine v_bipush C (oX9_isGone.at 80 rfl) (v := nI 44) rfl ?_
            refine v_icmp_neN C (oX9_isGone.at 81 rfl) (tgt := 155) (by decide) (by omega) (by omega) (fun hc => ?_) (fun hc => absurd hc (by omega))
            refine v_iload C (oX9_isGone.at 85 rfl) rfl ?_
            refine v_if_neN C (oX9_isGone.at 86 rfl) (tgt := 171) (by decide) (by omega) (fun hc => absurd hc (by omega)) (fun hc => ?_)
            refine v_iload_n C (oX9_isGone.at 87 rfl) rfl ?_
            refine v_bipush C (oX9_isGone.at 88 rfl) (v := nI 40) rfl ?_
            refine v_icmp_eqN C (oX9_isGone.at 89 rfl) (tgt := 171) (by decide) (by omega) (by omega) (fun hc => absurd hc (by omega)) (fun hc => ?_)
            exact W _ _
          · rw [if_neg q2]
            refine v_iload_n C (oX9_isGone.at 79 rfl) rfl ?_
            refine v_bipush C (oX9_isGone.at 80 rfl) (v := nI 44) rfl ?_
            refine v_icmp_neN C (oX9_isGone.at 81 rfl) (tgt := 155) (by decide) (by omega) (by omega) (fun hc => ?_) (fun hc => absurd hc (by omega))
            refine v_iload C (oX9_isGone.at 85 rfl) rfl ?_
            refine v_if_neN C (oX9_isGone.at 86 rfl) (tgt := 171) (by decide) (by omega) (fun hc => absurd hc (by omega)) (fun hc => ?_)
            refine v_iload_n C (oX9_isGone.at 87 rfl) rfl ?_
            refine v_bipush C (oX9_isGone.at 88 rfl) (v := nI 40) rfl ?_
            refine v_icmp_eqN C (oX9_isGone.at 89 rfl) (tgt := 171) (by decide) (by omega) (by omega) (fun hc => absurd hc (by omega)) (fun hc => ?_)
            exact W _ _
    · right
      have hop : oprt s c t = (1, 0, (mvO 1 c t).1, (mvO 1 c t).2) := by
        unfold oprt
        rw [if_neg hO, if_neg (fun q => h44 (Or.inl q.1)), if_neg (fun q => h44 (Or.inr q.1))]
      rw [hsg 1 0 _ _ hop, if_pos (by decide)]
      refine ⟨by dsimp only; decide, ?_⟩
      refine conI (by decide +kernel) ⟨fun _ => rfl, rfl, by simp⟩ (fun X C => ?_)
      change V X (0, 0) w h1 0 [some (.ref 62), none, none, none, none, none] []
      refine S76 C ?_
      refine v_iload_n C (oX9_isGone.at 44 rfl) rfl ?_
      refine v_bipush C (oX9_isGone.at 45 rfl) (v := nI 44) rfl ?_
      refine v_icmp_eqN C (oX9_isGone.at 46 rfl) (tgt := 93) (by decide) (by omega) (by omega) (fun hc => absurd hc (by omega)) (fun hc => ?_)
      refine v_iload_n C (oX9_isGone.at 47 rfl) rfl ?_
      refine v_bipush C (oX9_isGone.at 48 rfl) (v := nI 41) rfl ?_
      refine v_icmp_eqN C (oX9_isGone.at 49 rfl) (tgt := 93) (by decide) (by omega) (by omega) (fun hc => absurd hc (by omega)) (fun hc => ?_)
      refine v_aload_n C (oX9_isGone.at 50 rfl) rfl ?_
      refine v_callV C (oX9_isGone.at 51 rfl) cX9_191 a0 (k9_isWrong hI (by omega) hF) rfl rfl rfl ⟨rfl, rfl⟩ rfl rfl (fun _ => rfl) (fun h' hp => ?_)
      dsimp only [Option.toList, List.cons_append, List.nil_append]
      exact v_zret C (oX9_isGone.at 52 rfl) rfl rfl ⟨Nat.le_refl _, Nat.le_refl _⟩ ⟨rfl, wrong C _ _ _ h1 _ hp⟩
/-- the whole reading: done rightly or not -/
def FQ (h : Hp) (th : Nat) (S : Sc) (sv : Bool) (Z : Sc) (F : Sf) (R : Rr) (h' : Hp) : Prop := (R.1 = 0 → ∃ i op, PI h th S sv Z F R.2.2.1 [] i op h') ∧ (R.1 ≠ 0 → PE2 h th S sv Z F R.1 R.2.1 h')
theorem k9_isFormula {w : Wt} {h h1 : Hp} {th : Nat} {S Z : Sc} {sv : Bool} {F : Sf} {u fb : Nat → Int32} (a0 : h1 62 = MO u) (a1 : u 0 = nI th) (a2 : MuP S sv Z F u) (b5 : ∀ j, j ≠ 62 → (j < 70 ∨ 87 < j) → h1 j = h j) (b6 : MrP h1) (h69 : h 69 = io 40 fb) (hB : ∀ j, j < F.1 → fb j = nI (F.2.2.2 j)) (hF : F.1 ≤ 40) (htx : ∀ j, j < F.1 → F.2.2.2 j < 128) (hw4 : S.2.1 ≤ 4) : ConN mX9_isFormula 3 (0, 0) w [.ref 62] h1 (.inl (some (.int (bI (decide ((rdG F.2.2.2 S.2.1 F.1 F.1 0 0 [] []).1 = 0)))))) (FQ h th S sv Z F (rdG F.2.2.2 S.2.1 F.1 F.1 0 0 [] [])) := by
  generalize hR0 : rdG F.2.2.2 S.2.1 F.1 F.1 0 0 [] [] = R at *
  refine conI (by decide +kernel) ⟨fun _ => rfl, rfl, by simp⟩ (fun X C => ?_)
  change V X (0, 0) w h1 0 [some (.ref 62)] []
  obtain ⟨fc, b1⟩ := b6.1 72 (Or.inl ⟨by decide, by decide⟩)
  obtain ⟨fw, b3⟩ := b6.1 73 (Or.inl ⟨by decide, by decide⟩)
  refine v_aload_n C (oX9_isFormula.at 0 rfl) rfl ?_
  refine v_iconst C (oX9_isFormula.at 1 rfl) (v := nI 0) rfl ?_
  refine v_put9 C (oX9_isFormula.at 2 rfl) fX9_152 p9_21 a0 ⟨rfl, rfl, rfl⟩ ?_
  refine v_aload_n C (oX9_isFormula.at 3 rfl) rfl ?_
  refine v_iconst C (oX9_isFormula.at 4 rfl) (v := nI 0) rfl ?_
  refine v_put9u C (oX9_isFormula.at 5 rfl) fX9_155 p9_19 ⟨rfl, rfl, rfl⟩ ?_
  refine v_aload_n C (oX9_isFormula.at 6 rfl) rfl ?_
  refine v_iconst C (oX9_isFormula.at 7 rfl) (v := nI 0) rfl ?_
  refine v_put9u C (oX9_isFormula.at 8 rfl) fX9_158 p9_20 ⟨rfl, rfl, rfl⟩ ?_
  refine v_aload_n C (oX9_isFormula.at 9 rfl) rfl ?_
  refine v_iconst C (oX9_isFormula.at 10 rfl) (v := bI true) rfl ?_
  refine v_put9uZ C (oX9_isFormula.at 11 rfl) fX9_181 p9_22 ⟨rfl, rfl, rfl⟩ ?_
  have hIs : PI h th S sv Z F [] [] 0 (decide (0 = 0)) (hu h1 62 (MO (upd (upd (upd (upd u 21 (nI 0)) 19 (nI 0)) 20 (nI 0)) 22 (bI true)))) := ⟨_, hu_s _ _ _, a1, a2, rfl, rfl, rfl, rfl, ⟨fc, (hu_n _ _ (by decide)).trans b1, LA.nil _⟩, ⟨fw, (hu_n _ _ (by decide)).trans b3, LA.nil _⟩, fun j j1 j2 => (hu_n _ _ j1).trans (b5 j j1 j2), b6.eq (fun j _ _ => hu_n _ _ (by omega))⟩
  generalize hu h1 62 (MO (upd (upd (upd (upd u 21 (nI 0)) 19 (nI 0)) 20 (nI 0)) 22 (bI true))) = h2 at *
  suffices H : ∀ n d i due c t h1, d < n → i + d = F.1 → due ≤ 1 → JI due c t i → PI h th S sv Z F c t i (decide (due = 0)) h1 → rdG F.2.2.2 S.2.1 F.1 d i due c t = R → V X (0, 0) w h1 20 [some (.ref 62)] [] from H (F.1 + 1) F.1 0 0 [] [] h2 (by omega) (by omega) (by omega) ⟨Nat.le_refl _, fun x hx => absurd hx (List.not_mem_nil), trivial, fun q => absurd q (by decide)⟩ hIs hR0
  clear hIs
  intro n
  induction n with
  | zero => intro d i due c t h1 hd; omega
  | succ n ih =>
    intro d i due c t h1 hd hi hdue hJ hI hR
    rcases Nat.lt_or_ge 0 due with hq | hq
    · obtain rfl : due = 1 := by omega
      have hI : PI h th S sv Z F c t i false h1 := hI
      have hI9 := hI
      obtain ⟨u1, c0, -, c2, -, c4, c5, c6, -⟩ := hI9
      have c6 : u1 22 = bI false := c6
      cases d with
      | zero =>
        obtain rfl : i = F.1 := by omega
        have hmv := mv9_mvO (r := 1) (by omega) t c hJ.2.2.1 (hJ.2.2.2 rfl)
        have hml := mvO_len 1 t c
        have j1 := hJ.1
        have kl := k9_lets (w := w) (r := 1) (by omega) (by omega) t c h1 hI (by omega) hJ.2.1
        rw [hmv.1] at kl
        rw [rdG] at hR
        unfold rdE at hR
        have M : V X (0, 0) w h1 45 [some (.ref 62)] [] := by
          refine v_aload_n C (oX9_isFormula.at 23 rfl) rfl ?_
          refine v_getf C (oX9_isFormula.at 24 rfl) fX9_181 c0 (congrArg (fun z => some (Value.int z)) c6) ?_
          refine v_if_neB C (oX9_isFormula.at 25 rfl) (tgt := 83) (by decide) (fun z => absurd z (by decide)) (fun _ => ?_)
          refine v_aload_n C (oX9_isFormula.at 26 rfl) rfl ?_
          refine v_getf C (oX9_isFormula.at 27 rfl) fX9_152 c0 (congrArg (fun z => some (Value.int z)) (c5)) ?_
          refine v_aload_n C (oX9_isFormula.at 28 rfl) rfl ?_
          refine v_getf C (oX9_isFormula.at 29 rfl) fX9_149 c0 (congrArg (fun z => some (Value.int z)) (c2.2.2.2.2.1)) ?_
          refine v_icmp_neN C (oX9_isFormula.at 30 rfl) (tgt := 83) (by decide) (by omega) (by omega) (fun hc => absurd hc (by omega)) (fun hc => ?_)
          refine v_aload_n C (oX9_isFormula.at 31 rfl) rfl ?_
          refine v_iconst C (oX9_isFormula.at 32 rfl) (v := nI 1) rfl ?_
          refine v_callV C (oX9_isFormula.at 33 rfl) cX9_185 c0 (kl) rfl rfl rfl ⟨rfl, rfl⟩ rfl rfl (fun _ => rfl) (fun h' hp => ?_)
          dsimp only [Option.toList, List.cons_append, List.nil_append]
          have hI2 : PI h th S sv Z F (mvO 1 c t).1 (mvO 1 c t).2 F.1 false h' := hp
          clear hp
          generalize h' = h3 at hI2 ⊢
          generalize mvO 1 c t = m at *
          have hI3 := hI2
          obtain ⟨u3, d0, -, -, -, d4, -⟩ := hI3
          by_cases hm : m.2 = []
          · rw [if_neg (by rw [hm]; simp)] at hR
            rw [hm] at d4 hI2
            subst hR
            rw [show decide ((0, (-1 : Int32), m.1, m.2).1 = 0) = true from rfl] at C
            rw [List.length_nil] at d4
            refine v_aload_n C (oX9_isFormula.at 34 rfl) rfl ?_
            refine v_getf C (oX9_isFormula.at 35 rfl) fX9_158 d0 (congrArg (fun z => some (Value.int z)) (d4)) ?_
            refine v_if_leN C (oX9_isFormula.at 36 rfl) (tgt := 81) (by decide) (by omega) (fun hc => ?_) (fun hc => absurd hc (by omega))
            refine v_iconst C (oX9_isFormula.at 41 rfl) (v := nI 1) rfl ?_
            exact v_zret1 C (oX9_isFormula.at 42 rfl) rfl rfl ⟨Nat.le_refl _, Nat.le_refl _⟩ ⟨rfl, fun _ => ⟨F.1, false, hI2⟩, fun q => absurd rfl q⟩
          · rw [if_pos (Or.inr hm)] at hR
            subst hR
            rw [show decide ((2, nI F.1, m.1, m.2).1 = 0) = false from rfl] at C
            have hpos : 0 < m.2.length := List.length_pos_iff.mpr hm
            refine v_aload_n C (oX9_isFormula.at 34 rfl) rfl ?_
            refine v_getf C (oX9_isFormula.at 35 rfl) fX9_158 d0 (congrArg (fun z => some (Value.int z)) (d4)) ?_
            refine v_if_leN C (oX9_isFormula.at 36 rfl) (tgt := 81) (by decide) (by omega) (fun hc => absurd hc (by omega)) (fun hc => ?_)
            refine v_aload_n C (oX9_isFormula.at 37 rfl) rfl ?_
            refine v_iconst C (oX9_isFormula.at 38 rfl) (v := nI 2) rfl ?_
            refine v_callV C (oX9_isFormula.at 39 rfl) cX9_174 d0 (k9_fails hI2) rfl rfl rfl ⟨rfl, rfl⟩ rfl rfl (fun _ => rfl) (fun h' hp => ?_)
            dsimp only [Option.toList, List.cons_append, List.nil_append]
            exact v_zret C (oX9_isFormula.at 40 rfl) rfl rfl ⟨Nat.le_refl _, Nat.le_refl _⟩ ⟨rfl, fun q => absurd q (show ¬ (2 = 0) by decide), fun _ => ⟨_, _, _, _, hp⟩⟩
        refine v_aload_n C (oX9_isFormula.at 12 rfl) rfl ?_
        refine v_getf C (oX9_isFormula.at 13 rfl) fX9_181 c0 (congrArg (fun z => some (Value.int z)) c6) ?_
        refine v_if_neB C (oX9_isFormula.at 14 rfl) (tgt := 45) (by decide) (fun z => absurd z (by decide)) (fun _ => ?_)
        refine v_aload_n C (oX9_isFormula.at 15 rfl) rfl ?_
        refine v_getf C (oX9_isFormula.at 16 rfl) fX9_152 c0 (congrArg (fun z => some (Value.int z)) (c5)) ?_
        refine v_aload_n C (oX9_isFormula.at 17 rfl) rfl ?_
        refine v_getf C (oX9_isFormula.at 18 rfl) fX9_149 c0 (congrArg (fun z => some (Value.int z)) (c2.2.2.2.2.1)) ?_
        refine v_icmp_ltN C (oX9_isFormula.at 19 rfl) (tgt := 45) (by decide) (by omega) (by omega) (fun hc => absurd hc (by omega)) (fun hc => ?_)
        refine v_aload_n C (oX9_isFormula.at 20 rfl) rfl ?_
        refine v_getf C (oX9_isFormula.at 21 rfl) fX9_158 c0 (congrArg (fun z => some (Value.int z)) (c4)) ?_
        refine v_if_leN C (oX9_isFormula.at 22 rfl) (tgt := 109) (by decide) (by omega) (fun hc => ?_) (fun hc => ?_)
        · have ht : t = [] := List.length_eq_zero_iff.mp hc
          subst ht
          rw [if_neg (by simp [mvO])] at hR
          subst hR
          rw [show decide ((0, (-1 : Int32), (mvO 1 c []).1, (mvO 1 c []).2).1 = 0) = true from rfl] at C
          refine v_iconst C (oX9_isFormula.at 55 rfl) (v := nI 1) rfl ?_
          exact v_zret1 C (oX9_isFormula.at 56 rfl) rfl rfl ⟨Nat.le_refl _, Nat.le_refl _⟩ ⟨rfl, fun _ => ⟨F.1, false, hI⟩, fun q => absurd rfl q⟩
        · exact M
      | succ d =>
        refine v_aload_n C (oX9_isFormula.at 12 rfl) rfl ?_
        refine v_getf C (oX9_isFormula.at 13 rfl) fX9_181 c0 (congrArg (fun z => some (Value.int z)) c6) ?_
        refine v_if_neB C (oX9_isFormula.at 14 rfl) (tgt := 45) (by decide) (fun z => absurd z (by decide)) (fun _ => ?_)
        refine v_aload_n C (oX9_isFormula.at 15 rfl) rfl ?_
        refine v_getf C (oX9_isFormula.at 16 rfl) fX9_152 c0 (congrArg (fun z => some (Value.int z)) (c5)) ?_
        refine v_aload_n C (oX9_isFormula.at 17 rfl) rfl ?_
        refine v_getf C (oX9_isFormula.at 18 rfl) fX9_149 c0 (congrArg (fun z => some (Value.int z)) (c2.2.2.2.2.1)) ?_
        refine v_icmp_ltN C (oX9_isFormula.at 19 rfl) (tgt := 45) (by decide) (by omega) (by omega) (fun hc => ?_) (fun hc => absurd hc (by omega))
        refine v_aload_n C (oX9_isFormula.at 23 rfl) rfl ?_
        refine v_getf C (oX9_isFormula.at 24 rfl) fX9_181 c0 (congrArg (fun z => some (Value.int z)) c6) ?_
        refine v_if_neB C (oX9_isFormula.at 25 rfl) (tgt := 83) (by decide) (fun z => absurd z (by decide)) (fun _ => ?_)
        refine v_aload_n C (oX9_isFormula.at 26 rfl) rfl ?_
        refine v_getf C (oX9_isFormula.at 27 rfl) fX9_152 c0 (congrArg (fun z => some (Value.int z)) (c5)) ?_
        refine v_aload_n C (oX9_isFormula.at 28 rfl) rfl ?_
        refine v_getf C (oX9_isFormula.at 29 rfl) fX9_149 c0 (congrArg (fun z => some (Value.int z)) (c2.2.2.2.2.1)) ?_
        refine v_icmp_neN C (oX9_isFormula.at 30 rfl) (tgt := 83) (by decide) (by omega) (by omega) (fun hc => ?_) (fun hc => absurd hc (by omega))
        refine v_aload_n C (oX9_isFormula.at 43 rfl) rfl ?_
        refine v_getf C (oX9_isFormula.at 44 rfl) fX9_181 c0 (congrArg (fun z => some (Value.int z)) c6) ?_
        rcases k9_isGone (w := w) hI hJ h69 hB hF hi htx with ⟨c', t', due', k1, k2, k3, k4⟩ | ⟨k1, k2⟩
        · refine v_if_eqB C (oX9_isFormula.at 45 rfl) (tgt := 100) (by decide) (fun _ => ?_) (fun z => absurd z (by decide))
          refine v_aload_n C (oX9_isFormula.at 50 rfl) rfl ?_
          refine v_callV C (oX9_isFormula.at 51 rfl) cX9_198 c0 (k4) rfl rfl rfl ⟨rfl, rfl⟩ rfl rfl (fun _ => rfl) (fun h' hp => ?_)
          dsimp only [Option.toList, List.cons_append, List.nil_append]
          refine v_if_neB C (oX9_isFormula.at 52 rfl) (tgt := 20) (by decide) (fun _ => ?_) (fun q => absurd q (by decide))
          exact ih d (i + 1) due' c' t' h' (by omega) (by omega) k1 k2 hp (k3.trans hR)
        · rw [hR] at k1 k2
          rw [decide_eq_false k1] at C
          refine v_if_eqB C (oX9_isFormula.at 45 rfl) (tgt := 100) (by decide) (fun _ => ?_) (fun z => absurd z (by decide))
          refine v_aload_n C (oX9_isFormula.at 50 rfl) rfl ?_
          refine v_callV C (oX9_isFormula.at 51 rfl) cX9_198 c0 (k2) rfl rfl rfl ⟨rfl, rfl⟩ rfl rfl (fun _ => rfl) (fun h' hp => ?_)
          dsimp only [Option.toList, List.cons_append, List.nil_append]
          refine v_if_neB C (oX9_isFormula.at 52 rfl) (tgt := 20) (by decide) (fun q => absurd q (by decide)) (fun _ => ?_)
          refine v_iconst C (oX9_isFormula.at 53 rfl) (v := nI 0) rfl ?_
          exact v_zret0 C (oX9_isFormula.at 54 rfl) rfl rfl ⟨Nat.le_refl _, Nat.le_refl _⟩ ⟨rfl, fun q => absurd q k1, fun _ => hp⟩
    · obtain rfl : due = 0 := by omega
      have hI : PI h th S sv Z F c t i true h1 := hI
      have hI9 := hI
      obtain ⟨u1, c0, -, c2, -, c4, c5, c6, -⟩ := hI9
      have c6 : u1 22 = bI true := c6
      refine v_aload_n C (oX9_isFormula.at 12 rfl) rfl ?_
      refine v_getf C (oX9_isFormula.at 13 rfl) fX9_181 c0 (congrArg (fun z => some (Value.int z)) c6) ?_
      refine v_if_neB C (oX9_isFormula.at 14 rfl) (tgt := 45) (by decide) (fun _ => ?_) (fun z => absurd z (by decide))
      refine v_aload_n C (oX9_isFormula.at 23 rfl) rfl ?_
      refine v_getf C (oX9_isFormula.at 24 rfl) fX9_181 c0 (congrArg (fun z => some (Value.int z)) c6) ?_
      refine v_if_neB C (oX9_isFormula.at 25 rfl) (tgt := 83) (by decide) (fun _ => ?_) (fun z => absurd z (by decide))
      refine v_aload_n C (oX9_isFormula.at 43 rfl) rfl ?_
      refine v_getf C (oX9_isFormula.at 44 rfl) fX9_181 c0 (congrArg (fun z => some (Value.int z)) c6) ?_
      rcases k9_isBegun (w := w) hI hJ h69 hB hF hi htx hw4 with ⟨c', t', i', d', due', k0, k9, k1, k2, k3, k4⟩ | ⟨k1, k2⟩
      · refine v_if_eqB C (oX9_isFormula.at 45 rfl) (tgt := 100) (by decide) (fun z => absurd z (by decide)) (fun _ => ?_)
        refine v_aload_n C (oX9_isFormula.at 46 rfl) rfl ?_
        refine v_callV C (oX9_isFormula.at 47 rfl) cX9_195 c0 (k4) rfl rfl rfl ⟨rfl, rfl⟩ rfl rfl (fun _ => rfl) (fun h' hp => ?_)
        dsimp only [Option.toList, List.cons_append, List.nil_append]
        refine v_if_neB C (oX9_isFormula.at 48 rfl) (tgt := 20) (by decide) (fun _ => ?_) (fun q => absurd q (by decide))
        exact ih d' i' due' c' t' h' (by omega) k0 k1 k2 hp (k3.trans hR)
      · rw [hR] at k1 k2
        rw [decide_eq_false k1] at C
        refine v_if_eqB C (oX9_isFormula.at 45 rfl) (tgt := 100) (by decide) (fun z => absurd z (by decide)) (fun _ => ?_)
        refine v_aload_n C (oX9_isFormula.at 46 rfl) rfl ?_
        refine v_callV C (oX9_isFormula.at 47 rfl) cX9_195 c0 (k2) rfl rfl rfl ⟨rfl, rfl⟩ rfl rfl (fun _ => rfl) (fun h' hp => ?_)
        dsimp only [Option.toList, List.cons_append, List.nil_append]
        refine v_if_neB C (oX9_isFormula.at 48 rfl) (tgt := 20) (by decide) (fun q => absurd q (by decide)) (fun _ => ?_)
        refine v_goto C (oX9_isFormula.at 49 rfl) (tgt := 107) (by decide) ?_
        refine v_iconst C (oX9_isFormula.at 53 rfl) (v := nI 0) rfl ?_
        exact v_zret0 C (oX9_isFormula.at 54 rfl) rfl rfl ⟨Nat.le_refl _, Nat.le_refl _⟩ ⟨rfl, fun q => absurd q k1, fun _ => hp⟩
