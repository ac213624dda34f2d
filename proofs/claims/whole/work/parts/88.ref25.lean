/-! ===== the reference: a factor's beginning ===== -/
theorem k_isInD {w : Wt} {h : Hp} {x a b : Int32} {q : Bool} (e : decide (¬ x < a ∧ ¬ b < x) = q) : ConN mX9_isIn 0 (0, 0) w [.int x, .int a, .int b] h (.inl (some (.int (bI q)))) (fun h' => h' = h) := by
  subst e
  exact k_isIn
theorem PI.inc {h : Hp} {th : Nat} {S Z : Sc} {sv : Bool} {F : Sf} {c t : List Nat} {i : Nat} {op : Bool} {h2 : Hp} (hI : PI h th S sv Z F c t i op h2) : ∃ u, h2 62 = MO u ∧ u 21 = nI i ∧ PI h th S sv Z F c t (i + 1) op (hu h2 62 (MO (upd u 21 (nI (i + 1))))) := by
  obtain ⟨u, hI⟩ := hI
  have hI9 := hI
  obtain ⟨a0, a1, a2, a3, a4, a5, a6, -⟩ := hI9
  exact ⟨u, a0, a5, _, hI.set (u' := upd u 21 (nI (i + 1))) a1 a2 rfl rfl rfl a6⟩
theorem PI.opn {h : Hp} {th : Nat} {S Z : Sc} {sv : Bool} {F : Sf} {c t : List Nat} {i : Nat} {op : Bool} {h2 : Hp} (hI : PI h th S sv Z F c t i op h2) (b : Bool) : ∃ u, h2 62 = MO u ∧ PI h th S sv Z F c t i b (hu h2 62 (MO (upd u 22 (bI b)))) := by
  obtain ⟨u, hI⟩ := hI
  have hI9 := hI
  obtain ⟨a0, a1, a2, a3, a4, a5, a6, -⟩ := hI9
  exact ⟨u, a0, _, hI.set (u' := upd u 22 (bI b)) a1 a2 rfl rfl a5 rfl⟩
/-- what holds between two steps of the reading -/
def JI (due : Nat) (c t : List Nat) (i : Nat) : Prop := c.length + t.length ≤ i ∧ TW t ∧ nb t ∧ (due = 1 → t.headD 0 ≠ 33)
/-- a step that fails -/
def PE2 (h : Hp) (th : Nat) (S : Sc) (sv : Bool) (Z : Sc) (F : Sf) (q : Nat) (pl : Int32) (h' : Hp) : Prop := ∃ c t i op, PI h th S sv Z (F.1, q, pl, F.2.2.2) c t i op h'
theorem bg_start {w : Wt} {h h1 : Hp} {th : Nat} {S Z : Sc} {sv : Bool} {F : Sf} {c t : List Nat} {i : Nat} {op : Bool} {fb : Nat → Int32} {X : CT} {o : Oc} {P : Wt → Hp → Prop} (C : Cx X mX9_isBegun [] 2 (0, 0) o P) (hI : PI h th S sv Z F c t i op h1) (h69 : h 69 = io 40 fb) (hB : ∀ j, j < F.1 → fb j = nI (F.2.2.2 j)) (hF : F.1 ≤ 40) (hi : i ≤ F.1) (K : ∀ h2, PI h th S sv Z F c t i true h2 → V X (0, 0) w h2 10 [some (.ref 62), some (.int (if i < F.1 then nI (F.2.2.2 i) else -1)), none] []) : V X (0, 0) w h1 0 [some (.ref 62), none, none] [] := by
  obtain ⟨u, a0, hI2⟩ := hI.opn true
  refine v_aload_n C (oX9_isBegun.at 0 rfl) rfl ?_
  refine v_callV C (oX9_isBegun.at 1 rfl) cX9_178 a0 (k9_here hI h69 hB hF hi) rfl rfl rfl ⟨rfl, rfl⟩ rfl rfl (fun _ => rfl) (fun h' hp => ?_)
  rw [show h' = _ from hp]
  dsimp only [Option.toList, List.cons_append, List.nil_append]
  refine v_istore_n C (oX9_isBegun.at 2 rfl) rfl ?_
  refine v_aload_n C (oX9_isBegun.at 3 rfl) rfl ?_
  refine v_iconst C (oX9_isBegun.at 4 rfl) (v := bI true) rfl ?_
  dsimp only [sto1, sto2, killL]
  refine v_put9Z C (oX9_isBegun.at 5 rfl) fX9_181 p9_22 a0 ⟨rfl, rfl, rfl⟩ ?_
  exact K _ hI2
/-- 'm' has been read -/
theorem bg_m1 {w : Wt} {h h1 : Hp} {th : Nat} {S Z : Sc} {sv : Bool} {F : Sf} {c t : List Nat} {i : Nat} {op : Bool} {fb : Nat → Int32} {X : CT} {o : Oc} {P : Wt → Hp → Prop} {y : Int32} (C : Cx X mX9_isBegun [] 2 (0, 0) o P) (hI : PI h th S sv Z F c t i op h1) (h69 : h 69 = io 40 fb) (hB : ∀ j, j < F.1 → fb j = nI (F.2.2.2 j)) (hF : F.1 ≤ 40) (hi : i < F.1) (K : ∀ h2, PI h th S sv Z F c t (i + 1) op h2 → V X (0, 0) w h2 156 [some (.ref 62), some (.int y), some (.int (if i + 1 < F.1 then nI (F.2.2.2 (i + 1)) else -1))] []) : V X (0, 0) w h1 141 [some (.ref 62), some (.int y), none] [] := by
  obtain ⟨u, a0, a5, hI2⟩ := hI.inc
  refine v_aload_n C (oX9_isBegun.at 80 rfl) rfl ?_
  refine v_dup C (oX9_isBegun.at 81 rfl) rfl ?_
  refine v_getf C (oX9_isBegun.at 82 rfl) fX9_152 a0 (congrArg (fun z => some (Value.int z)) (a5)) ?_
  refine v_iconst C (oX9_isBegun.at 83 rfl) (v := nI 1) rfl ?_
  refine v_iaddN C (oX9_isBegun.at 84 rfl) ?_
  refine v_put9 C (oX9_isBegun.at 85 rfl) fX9_152 p9_21 a0 ⟨rfl, rfl, rfl⟩ ?_
  generalize hu h1 62 (MO (upd u 21 (nI (i + 1)))) = h2 at *
  have hI3 := hI2
  obtain ⟨u2, b0, -⟩ := hI3
  refine v_aload_n C (oX9_isBegun.at 86 rfl) rfl ?_
  refine v_callV C (oX9_isBegun.at 87 rfl) cX9_178 b0 (k9_here hI2 h69 hB hF (by omega)) rfl rfl rfl ⟨rfl, rfl⟩ rfl rfl (fun _ => rfl) (fun h' hp => ?_)
  rw [show h' = _ from hp]
  dsimp only [Option.toList, List.cons_append, List.nil_append]
  refine v_istore_n C (oX9_isBegun.at 88 rfl) rfl ?_
  dsimp only [sto1, sto2, killL]
  exact K _ hI2
theorem bg_m2 {w : Wt} {h h1 : Hp} {th : Nat} {S Z : Sc} {sv : Bool} {F : Sf} {c t : List Nat} {i s2 : Nat} {op : Bool} {fb : Nat → Int32} {X : CT} {o : Oc} {P : Wt → Hp → Prop} {y : Int32} (C : Cx X mX9_isBegun [] 2 (0, 0) o P) (hI : PI h th S sv Z F c t i op h1) (h69 : h 69 = io 40 fb) (hB : ∀ j, j < F.1 → fb j = nI (F.2.2.2 j)) (hF : F.1 ≤ 40) (hi : i < F.1) (hs : s2 = 105 ∨ s2 = 97) (K : ∀ h2, PI h th S sv Z F c t (i + 1) op h2 → V X (0, 0) w h2 200 [some (.ref 62), some (.int y), some (.int (nI s2))] [.int (nI (if s2 = 105 then 110 else 120)), .int (if i + 1 < F.1 then nI (F.2.2.2 (i + 1)) else -1)]) : V X (0, 0) w h1 156 [some (.ref 62), some (.int y), some (.int (nI s2))] [] := by
  obtain ⟨u, a0, a5, hI2⟩ := hI.inc
  have M : V X (0, 0) w h1 173 [some (.ref 62), some (.int y), some (.int (nI s2))] [] := by
    refine v_aload_n C (oX9_isBegun.at 98 rfl) rfl ?_
    refine v_dup C (oX9_isBegun.at 99 rfl) rfl ?_
    refine v_getf C (oX9_isBegun.at 100 rfl) fX9_152 a0 (congrArg (fun z => some (Value.int z)) (a5)) ?_
    refine v_iconst C (oX9_isBegun.at 101 rfl) (v := nI 1) rfl ?_
    refine v_iaddN C (oX9_isBegun.at 102 rfl) ?_
    refine v_put9 C (oX9_isBegun.at 103 rfl) fX9_152 p9_21 a0 ⟨rfl, rfl, rfl⟩ ?_
    generalize hu h1 62 (MO (upd u 21 (nI (i + 1)))) = h2 at *
    have hI3 := hI2
    obtain ⟨u2, b0, -⟩ := hI3
    replace K := K _ hI2
    refine v_aload_n C (oX9_isBegun.at 104 rfl) rfl ?_
    refine v_callV C (oX9_isBegun.at 105 rfl) cX9_178 b0 (k9_here hI2 h69 hB hF (by omega)) rfl rfl rfl ⟨rfl, rfl⟩ rfl rfl (fun _ => rfl) (fun h' hp => ?_)
    rw [show h' = _ from hp]
    dsimp only [Option.toList, List.cons_append, List.nil_append]
    refine v_iload_n C (oX9_isBegun.at 106 rfl) rfl ?_
    refine v_bipush C (oX9_isBegun.at 107 rfl) (v := nI 105) rfl ?_
    refine v_icmp_neN C (oX9_isBegun.at 108 rfl) (tgt := 198) (by decide) (by omega) (by omega) (fun hc => ?_) (fun hc => ?_)
    · rw [if_neg hc] at K
      refine v_bipush C (oX9_isBegun.at 111 rfl) (v := nI 120) rfl ?_
      exact K
    · rw [if_pos hc] at K
      refine v_bipush C (oX9_isBegun.at 109 rfl) (v := nI 110) rfl ?_
      refine v_goto C (oX9_isBegun.at 110 rfl) (tgt := 200) (by decide) ?_
      exact K
  refine v_iload_n C (oX9_isBegun.at 89 rfl) rfl ?_
  refine v_bipush C (oX9_isBegun.at 90 rfl) (v := nI 105) rfl ?_
  refine v_icmp_eqN C (oX9_isBegun.at 91 rfl) (tgt := 173) (by decide) (by omega) (by omega) (fun hc => ?_) (fun hc => ?_)
  · exact M
  · refine v_iload_n C (oX9_isBegun.at 92 rfl) rfl ?_
    refine v_bipush C (oX9_isBegun.at 93 rfl) (v := nI 97) rfl ?_
    refine v_icmp_eqN C (oX9_isBegun.at 94 rfl) (tgt := 173) (by decide) (by omega) (by omega) (fun hc => ?_) (fun hc => ?_)
    · exact M
    · omega
theorem bg_m3 {w : Wt} {h h1 : Hp} {th : Nat} {S Z : Sc} {sv : Bool} {F : Sf} {c t : List Nat} {i s2 : Nat} {op : Bool} {fb : Nat → Int32} {X : CT} {o : Oc} {P : Wt → Hp → Prop} {y : Int32} (C : Cx X mX9_isBegun [] 2 (0, 0) o P) (hI : PI h th S sv Z F c t i op h1) (h69 : h 69 = io 40 fb) (hB : ∀ j, j < F.1 → fb j = nI (F.2.2.2 j)) (hF : F.1 ≤ 40) (hi : i < F.1) (K : ∀ h2, PI h th S sv Z F c t (i + 1) op h2 → V X (0, 0) w h2 222 [some (.ref 62), some (.int y), some (.int (nI s2))] [.int (if i + 1 < F.1 then nI (F.2.2.2 (i + 1)) else -1)]) : V X (0, 0) w h1 208 [some (.ref 62), some (.int y), some (.int (nI s2))] [] := by
  obtain ⟨u, a0, a5, hI2⟩ := hI.inc
  refine v_aload_n C (oX9_isBegun.at 116 rfl) rfl ?_
  refine v_dup C (oX9_isBegun.at 117 rfl) rfl ?_
  refine v_getf C (oX9_isBegun.at 118 rfl) fX9_152 a0 (congrArg (fun z => some (Value.int z)) (a5)) ?_
  refine v_iconst C (oX9_isBegun.at 119 rfl) (v := nI 1) rfl ?_
  refine v_iaddN C (oX9_isBegun.at 120 rfl) ?_
  refine v_put9 C (oX9_isBegun.at 121 rfl) fX9_152 p9_21 a0 ⟨rfl, rfl, rfl⟩ ?_
  generalize hu h1 62 (MO (upd u 21 (nI (i + 1)))) = h2 at *
  have hI3 := hI2
  obtain ⟨u2, b0, -⟩ := hI3
  replace K := K _ hI2
  refine v_aload_n C (oX9_isBegun.at 122 rfl) rfl ?_
  refine v_callV C (oX9_isBegun.at 123 rfl) cX9_178 b0 (k9_here hI2 h69 hB hF (by omega)) rfl rfl rfl ⟨rfl, rfl⟩ rfl rfl (fun _ => rfl) (fun h' hp => ?_)
  rw [show h' = _ from hp]
  dsimp only [Option.toList, List.cons_append, List.nil_append]
  exact K
/-- a sign that begins no factor, or the end: from 101 on -/
theorem bg_101 {w : Wt} {h h1 : Hp} {th : Nat} {S Z : Sc} {sv : Bool} {F : Sf} {c t : List Nat} {i : Nat} {op : Bool} {X : CT} {P : Wt → Hp → Prop} {x : Int32} (C : Cx X mX9_isBegun [] 2 (0, 0) (.inl (some (.int (bI false)))) P) (hI : PI h th S sv Z F c t i op h1) (hi : i ≤ 40) (hF : F.1 ≤ 40) (h1' : x ≠ nI 33) (h2 : x ≠ nI 40) (h3 : x ≠ nI 109) (hP : ∀ h', PI h th S sv Z (F.1, (if i = F.1 then 2 else 1), nI i, F.2.2.2) c t i op h' → P w h') : V X (0, 0) w h1 101 [some (.ref 62), some (.int x), none] [] := by
  have hI3 := hI
  obtain ⟨u2, b0, -⟩ := hI3
  refine v_iload_n C (oX9_isBegun.at 57 rfl) rfl ?_
  refine v_bipush C (oX9_isBegun.at 58 rfl) (v := nI 33) rfl ?_
  refine v_icmp_eq C (oX9_isBegun.at 59 rfl) (tgt := 113) (by decide) (fun hc => absurd hc h1') (fun hc => ?_)
  refine v_iload_n C (oX9_isBegun.at 60 rfl) rfl ?_
  refine v_bipush C (oX9_isBegun.at 61 rfl) (v := nI 40) rfl ?_
  refine v_icmp_ne C (oX9_isBegun.at 62 rfl) (tgt := 130) (by decide) (fun hc => ?_) (fun hc => absurd hc h2)
  refine v_iload_n C (oX9_isBegun.at 74 rfl) rfl ?_
  refine v_bipush C (oX9_isBegun.at 75 rfl) (v := nI 109) rfl ?_
  refine v_icmp_eq C (oX9_isBegun.at 76 rfl) (tgt := 141) (by decide) (fun hc => absurd hc h3) (fun hc => ?_)
  refine v_aload_n C (oX9_isBegun.at 77 rfl) rfl ?_
  refine v_callV C (oX9_isBegun.at 78 rfl) cX9_191 b0 (k9_isWrong hI hi hF) rfl rfl rfl ⟨rfl, rfl⟩ rfl rfl (fun _ => rfl) (fun h' hp => ?_)
  dsimp only [Option.toList, List.cons_append, List.nil_append]
  exact v_zret C (oX9_isBegun.at 79 rfl) rfl rfl ⟨Nat.le_refl _, Nat.le_refl _⟩ (hP _ hp)
theorem rdG_s {tx : Nat → Nat} {wd len d i due : Nat} {c t : List Nat} {q due' : Nat} {c' t' : List Nat} (e : sgn due (tx i) wd c t = (q, due', c', t')) : rdG tx wd len (d + 1) i due c t = if q ≠ 0 then (q, nI i, c', t') else rdG tx wd len d (i + 1) due' c' t' := by
  rw [rdG, e]
theorem rdG_0 {tx : Nat → Nat} {wd len i due : Nat} {c t : List Nat} (hd : due ≠ 1) : rdG tx wd len 0 i due c t = (2, nI len, (mvO 1 c t).1, (mvO 1 c t).2) := by
  rw [rdG]
  unfold rdE
  rw [if_pos (Or.inl hd)]
theorem k9_isBegun {w : Wt} {h h1 : Hp} {th : Nat} {S Z : Sc} {sv : Bool} {F : Sf} {c t : List Nat} {i d : Nat} {op : Bool} {fb : Nat → Int32} (hI : PI h th S sv Z F c t i op h1) (hJ : JI 0 c t i) (h69 : h 69 = io 40 fb) (hB : ∀ j, j < F.1 → fb j = nI (F.2.2.2 j)) (hF : F.1 ≤ 40) (hi : i + d = F.1) (htx : ∀ j, j < F.1 → F.2.2.2 j < 128) (hw4 : S.2.1 ≤ 4) : (∃ c' t' i' d' due', i' + d' = F.1 ∧ i < i' ∧ due' ≤ 1 ∧ JI due' c' t' i' ∧ rdG F.2.2.2 S.2.1 F.1 d' i' due' c' t' = rdG F.2.2.2 S.2.1 F.1 d i 0 c t ∧ ConN mX9_isBegun 2 (0, 0) w [.ref 62] h1 (.inl (some (.int (bI true)))) (PI h th S sv Z F c' t' i' (decide (due' = 0)))) ∨ ((rdG F.2.2.2 S.2.1 F.1 d i 0 c t).1 ≠ 0 ∧ ConN mX9_isBegun 2 (0, 0) w [.ref 62] h1 (.inl (some (.int (bI false)))) (PE2 h th S sv Z F (rdG F.2.2.2 S.2.1 F.1 d i 0 c t).1 (rdG F.2.2.2 S.2.1 F.1 d i 0 c t).2.1)) := by
  obtain ⟨j1, j2, j3, -⟩ := hJ
  cases d with
  | zero =>
    right
    rw [rdG_0 (by decide)]
    refine ⟨by dsimp only; decide, ?_⟩
    obtain rfl : i = F.1 := by omega
    refine conI (by decide +kernel) ⟨fun _ => rfl, rfl, by simp⟩ (fun X C => ?_)
    change V X (0, 0) w h1 0 [some (.ref 62), none, none] []
    refine bg_start C hI h69 hB hF (Nat.le_refl _) (fun h2 hI2 => ?_)
    rw [if_neg (by omega)]
    refine v_iload_n C (oX9_isBegun.at 6 rfl) rfl ?_
    refine v_bipush C (oX9_isBegun.at 7 rfl) (v := nI 48) rfl ?_
    refine v_bipush C (oX9_isBegun.at 8 rfl) (v := nI 57) rfl ?_
    refine v_callS C (oX9_isBegun.at 9 rfl) cX9_103 (k_isInD (q := false) (by decide)) rfl rfl rfl ⟨rfl, rfl⟩ rfl rfl (fun _ => rfl) (fun h' hp => ?_)
    rw [show h' = _ from hp]
    dsimp only [Option.toList, List.cons_append, List.nil_append]
    refine v_if_neB C (oX9_isBegun.at 10 rfl) (tgt := 32) (by decide) (fun z => absurd z (by decide)) (fun _ => ?_)
    refine v_iload_n C (oX9_isBegun.at 11 rfl) rfl ?_
    refine v_bipush C (oX9_isBegun.at 12 rfl) (v := nI 97) rfl ?_
    refine v_bipush C (oX9_isBegun.at 13 rfl) (v := nI 100) rfl ?_
    refine v_callS C (oX9_isBegun.at 14 rfl) cX9_103 (k_isInD (q := false) (by decide)) rfl rfl rfl ⟨rfl, rfl⟩ rfl rfl (fun _ => rfl) (fun h' hp => ?_)
    rw [show h' = _ from hp]
    dsimp only [Option.toList, List.cons_append, List.nil_append]
    refine v_if_eqB C (oX9_isBegun.at 15 rfl) (tgt := 101) (by decide) (fun _ => ?_) (fun z => absurd z (by decide))
    refine bg_101 C hI2 hF hF (by decide) (by decide) (by decide) (fun h' hh => ⟨rfl, c, t, F.1, true, ?_⟩)
    rw [if_pos rfl] at hh
    exact hh
  | succ d =>
    have hs := htx i (by omega)
    generalize hsx : F.2.2.2 i = s at *
    have hsg : ∀ q due' c' t', opnd s S.2.1 c t = (q, due', c', t') → rdG F.2.2.2 S.2.1 F.1 (d + 1) i 0 c t = if q ≠ 0 then (q, nI i, c', t') else rdG F.2.2.2 S.2.1 F.1 d (i + 1) due' c' t' := fun q due' c' t' e => rdG_s (by rw [hsx]; exact e)
    by_cases hA : 97 ≤ s ∧ s ≤ 100 ∧ S.2.1 ≤ s - 97
    · right
      rw [hsg 3 0 c t (by unfold opnd; rw [if_pos hA]), if_pos (by decide)]
      refine ⟨by dsimp only; decide, ?_⟩
      refine conI (by decide +kernel) ⟨fun _ => rfl, rfl, by simp⟩ (fun X C => ?_)
      change V X (0, 0) w h1 0 [some (.ref 62), none, none] []
      refine bg_start C hI h69 hB hF (by omega) (fun h2 hI2 => ?_)
      rw [if_pos (by omega), hsx]
      have hI3 := hI2
      obtain ⟨u2, b0, -, b2, -⟩ := hI3
      refine v_iload_n C (oX9_isBegun.at 6 rfl) rfl ?_
      refine v_bipush C (oX9_isBegun.at 7 rfl) (v := nI 48) rfl ?_
      refine v_bipush C (oX9_isBegun.at 8 rfl) (v := nI 57) rfl ?_
      refine v_callS C (oX9_isBegun.at 9 rfl) cX9_103 (isIn_n (q := false) (by omega) (by decide) (by decide) (by symm; exact decide_eq_false (by omega))) rfl rfl rfl ⟨rfl, rfl⟩ rfl rfl (fun _ => rfl) (fun h' hp => ?_)
      rw [show h' = _ from hp]
      dsimp only [Option.toList, List.cons_append, List.nil_append]
      refine v_if_neB C (oX9_isBegun.at 10 rfl) (tgt := 32) (by decide) (fun z => absurd z (by decide)) (fun _ => ?_)
      refine v_iload_n C (oX9_isBegun.at 11 rfl) rfl ?_
      refine v_bipush C (oX9_isBegun.at 12 rfl) (v := nI 97) rfl ?_
      refine v_bipush C (oX9_isBegun.at 13 rfl) (v := nI 100) rfl ?_
      refine v_callS C (oX9_isBegun.at 14 rfl) cX9_103 (isIn_n (q := true) (by omega) (by decide) (by decide) (by symm; exact decide_eq_true (by omega))) rfl rfl rfl ⟨rfl, rfl⟩ rfl rfl (fun _ => rfl) (fun h' hp => ?_)
      rw [show h' = _ from hp]
      dsimp only [Option.toList, List.cons_append, List.nil_append]
      refine v_if_eqB C (oX9_isBegun.at 15 rfl) (tgt := 101) (by decide) (fun z => absurd z (by decide)) (fun _ => ?_)
      refine v_iload_n C (oX9_isBegun.at 16 rfl) rfl ?_
      refine v_bipush C (oX9_isBegun.at 17 rfl) (v := nI 57) rfl ?_
      refine v_icmp_leN C (oX9_isBegun.at 18 rfl) (tgt := 55) (by decide) (by omega) (by omega) (fun hc => absurd hc (by omega)) (fun hc => ?_)
      refine v_iload_n C (oX9_isBegun.at 19 rfl) rfl ?_
      refine v_bipush C (oX9_isBegun.at 20 rfl) (v := nI 97) rfl ?_
      refine v_isubN C (oX9_isBegun.at 21 rfl) (by omega) ?_
      refine v_aload_n C (oX9_isBegun.at 22 rfl) rfl ?_
      refine v_getf C (oX9_isBegun.at 23 rfl) fX9_13 b0 (congrArg (fun z => some (Value.int z)) (b2.2.1)) ?_
      refine v_icmp_ltN C (oX9_isBegun.at 24 rfl) (tgt := 55) (by decide) (by omega) (by omega) (fun hc => absurd hc (by omega)) (fun hc => ?_)
      refine v_aload_n C (oX9_isBegun.at 25 rfl) rfl ?_
      refine v_iconst C (oX9_isBegun.at 26 rfl) (v := nI 3) rfl ?_
      refine v_callV C (oX9_isBegun.at 27 rfl) cX9_174 b0 (k9_fails hI2) rfl rfl rfl ⟨rfl, rfl⟩ rfl rfl (fun _ => rfl) (fun h' hp => ?_)
      dsimp only [Option.toList, List.cons_append, List.nil_append]
      exact v_zret C (oX9_isBegun.at 28 rfl) rfl rfl ⟨Nat.le_refl _, Nat.le_refl _⟩ ⟨rfl, c, t, i, true, hp⟩
    · by_cases hBd : (48 ≤ s ∧ s ≤ 57) ∨ (97 ≤ s ∧ s ≤ 100)
      · left
        have hE := endF_len t (s :: c)
        rw [List.length_cons] at hE
        have hN := endF_nb t (s :: c) j3
        refine ⟨(endF (s :: c) t).1, (endF (s :: c) t).2, i + 1, d, 1, by omega, by omega, by omega, ⟨by omega, endF_TW t _ j2, hN.1, fun _ => hN.2⟩, ?_, ?_⟩
        · rw [hsg 0 1 (endF (s :: c) t).1 (endF (s :: c) t).2 (by unfold opnd; rw [if_neg hA, if_pos hBd]), if_neg (by decide)]
        · rw [show decide (1 = 0) = false from rfl]
          refine conI (by decide +kernel) ⟨fun _ => rfl, rfl, by simp⟩ (fun X C => ?_)
          change V X (0, 0) w h1 0 [some (.ref 62), none, none] []
          refine bg_start C hI h69 hB hF (by omega) (fun h2 hI2 => ?_)
          rw [if_pos (by omega), hsx]
          -- the factor is emitted
          have E76 : ∀ h2, PI h th S sv Z F c t i true h2 → V X (0, 0) w h2 76 [some (.ref 62), some (.int (nI s)), none] [.int (nI (cm s)), .ref 62] := by
            intro h2 hI2
            have hI3 := hI2
            obtain ⟨u2, b0, -⟩ := hI3
            refine v_callV C (oX9_isBegun.at 42 rfl) cX9_167 b0 (k9_emits hI2 (by omega)) rfl rfl rfl ⟨rfl, rfl⟩ rfl rfl (fun _ => rfl) (fun h' hp => ?_)
            dsimp only [Option.toList, List.cons_append, List.nil_append]
            have hI4 : PI h th S sv Z F (s :: c) t i true h' := hp
            clear hp
            generalize h' = h4 at hI4 ⊢
            obtain ⟨u4, d0, d5, hI5⟩ := hI4.inc
            refine v_aload_n C (oX9_isBegun.at 43 rfl) rfl ?_
            refine v_dup C (oX9_isBegun.at 44 rfl) rfl ?_
            refine v_getf C (oX9_isBegun.at 45 rfl) fX9_152 d0 (congrArg (fun z => some (Value.int z)) (d5)) ?_
            refine v_iconst C (oX9_isBegun.at 46 rfl) (v := nI 1) rfl ?_
            refine v_iaddN C (oX9_isBegun.at 47 rfl) ?_
            refine v_put9 C (oX9_isBegun.at 48 rfl) fX9_152 p9_21 d0 ⟨rfl, rfl, rfl⟩ ?_
            generalize hu h4 62 (MO (upd u4 21 (nI (i + 1)))) = h5 at *
            have hI6 := hI5
            obtain ⟨u6, e0, -⟩ := hI6
            have kl := k9_lets (w := w) (r := 4) (by decide) (by decide) _ _ _ hI5 (by rw [List.length_cons]; omega) j2
            rw [mv9_4] at kl
            refine v_aload_n C (oX9_isBegun.at 49 rfl) rfl ?_
            refine v_iconst C (oX9_isBegun.at 50 rfl) (v := nI 4) rfl ?_
            refine v_callV C (oX9_isBegun.at 51 rfl) cX9_185 e0 (kl) rfl rfl rfl ⟨rfl, rfl⟩ rfl rfl (fun _ => rfl) (fun h' hp => ?_)
            dsimp only [Option.toList, List.cons_append, List.nil_append]
            have hI7 : PI h th S sv Z F (endF (s :: c) t).1 (endF (s :: c) t).2 (i + 1) true h' := hp
            clear hp
            generalize h' = h7 at hI7 ⊢
            obtain ⟨u7, g0, hI8⟩ := hI7.opn false
            refine v_aload_n C (oX9_isBegun.at 52 rfl) rfl ?_
            refine v_iconst C (oX9_isBegun.at 53 rfl) (v := bI false) rfl ?_
            refine v_put9Z C (oX9_isBegun.at 54 rfl) fX9_181 p9_22 g0 ⟨rfl, rfl, rfl⟩ ?_
            refine v_iconst C (oX9_isBegun.at 55 rfl) (v := nI 1) rfl ?_
            exact v_zret1 C (oX9_isBegun.at 56 rfl) rfl rfl ⟨Nat.le_refl _, Nat.le_refl _⟩ ⟨rfl, hI8⟩
          have hI3 := hI2
          obtain ⟨u2, b0, -, b2, -⟩ := hI3
          have M55 : V X (0, 0) w h2 55 [some (.ref 62), some (.int (nI s)), none] [] := by
            have e76 := E76 h2 hI2
            unfold cm at e76
            refine v_aload_n C (oX9_isBegun.at 29 rfl) rfl ?_
            refine v_iload_n C (oX9_isBegun.at 30 rfl) rfl ?_
            refine v_bipush C (oX9_isBegun.at 31 rfl) (v := nI 57) rfl ?_
            refine v_icmp_gtN C (oX9_isBegun.at 32 rfl) (tgt := 69) (by decide) (by omega) (by omega) (fun hc => ?_) (fun hc => ?_)
            · rw [if_neg (by omega), if_pos (by omega)] at e76
              refine v_bipush C (oX9_isBegun.at 37 rfl) (v := nI 10) rfl ?_
              refine v_iload_n C (oX9_isBegun.at 38 rfl) rfl ?_
              refine v_iaddN C (oX9_isBegun.at 39 rfl) ?_
              refine v_bipush C (oX9_isBegun.at 40 rfl) (v := nI 97) rfl ?_
              refine v_isubN C (oX9_isBegun.at 41 rfl) (by omega) ?_
              rw [show 10 + s - 97 = s - 87 by omega]
              exact e76
            · rw [if_pos (by omega)] at e76
              refine v_iload_n C (oX9_isBegun.at 33 rfl) rfl ?_
              refine v_bipush C (oX9_isBegun.at 34 rfl) (v := nI 48) rfl ?_
              refine v_isubN C (oX9_isBegun.at 35 rfl) (by omega) ?_
              refine v_goto C (oX9_isBegun.at 36 rfl) (tgt := 76) (by decide) ?_
              exact e76
          by_cases hdg : 48 ≤ s ∧ s ≤ 57
          · refine v_iload_n C (oX9_isBegun.at 6 rfl) rfl ?_
            refine v_bipush C (oX9_isBegun.at 7 rfl) (v := nI 48) rfl ?_
            refine v_bipush C (oX9_isBegun.at 8 rfl) (v := nI 57) rfl ?_
            refine v_callS C (oX9_isBegun.at 9 rfl) cX9_103 (isIn_n (q := true) (by omega) (by decide) (by decide) (by symm; exact decide_eq_true hdg)) rfl rfl rfl ⟨rfl, rfl⟩ rfl rfl (fun _ => rfl) (fun h' hp => ?_)
            rw [show h' = _ from hp]
            dsimp only [Option.toList, List.cons_append, List.nil_append]
            refine v_if_neB C (oX9_isBegun.at 10 rfl) (tgt := 32) (by decide) (fun _ => ?_) (fun z => absurd z (by decide))
            refine v_iload_n C (oX9_isBegun.at 16 rfl) rfl ?_
            refine v_bipush C (oX9_isBegun.at 17 rfl) (v := nI 57) rfl ?_
            refine v_icmp_leN C (oX9_isBegun.at 18 rfl) (tgt := 55) (by decide) (by omega) (by omega) (fun hc => ?_) (fun hc => absurd hc (by omega))
            exact M55
          · refine v_iload_n C (oX9_isBegun.at 6 rfl) rfl ?_
            refine v_bipush C (oX9_isBegun.at 7 rfl) (v := nI 48) rfl ?_
            refine v_bipush C (oX9_isBegun.at 8 rfl) (v := nI 57) rfl ?_
            refine v_callS C (oX9_isBegun.at 9 rfl) cX9_103 (isIn_n (q := false) (by omega) (by decide) (by decide) (by symm; exact decide_eq_false hdg)) rfl rfl rfl ⟨rfl, rfl⟩ rfl rfl (fun _ => rfl) (fun h' hp => ?_)
            rw [show h' = _ from hp]
            dsimp only [Option.toList, List.cons_append, List.nil_append]
            refine v_if_neB C (oX9_isBegun.at 10 rfl) (tgt := 32) (by decide) (fun z => absurd z (by decide)) (fun _ => ?_)
            refine v_iload_n C (oX9_isBegun.at 11 rfl) rfl ?_
            refine v_bipush C (oX9_isBegun.at 12 rfl) (v := nI 97) rfl ?_
            refine v_bipush C (oX9_isBegun.at 13 rfl) (v := nI 100) rfl ?_
            refine v_callS C (oX9_isBegun.at 14 rfl) cX9_103 (isIn_n (q := true) (by omega) (by decide) (by decide) (by symm; exact decide_eq_true (by omega))) rfl rfl rfl ⟨rfl, rfl⟩ rfl rfl (fun _ => rfl) (fun h' hp => ?_)
            rw [show h' = _ from hp]
            dsimp only [Option.toList, List.cons_append, List.nil_append]
            refine v_if_eqB C (oX9_isBegun.at 15 rfl) (tgt := 101) (by decide) (fun z => absurd z (by decide)) (fun _ => ?_)
            refine v_iload_n C (oX9_isBegun.at 16 rfl) rfl ?_
            refine v_bipush C (oX9_isBegun.at 17 rfl) (v := nI 57) rfl ?_
            refine v_icmp_leN C (oX9_isBegun.at 18 rfl) (tgt := 55) (by decide) (by omega) (by omega) (fun hc => absurd hc (by omega)) (fun hc => ?_)
            refine v_iload_n C (oX9_isBegun.at 19 rfl) rfl ?_
            refine v_bipush C (oX9_isBegun.at 20 rfl) (v := nI 97) rfl ?_
            refine v_isubN C (oX9_isBegun.at 21 rfl) (by omega) ?_
            refine v_aload_n C (oX9_isBegun.at 22 rfl) rfl ?_
            refine v_getf C (oX9_isBegun.at 23 rfl) fX9_13 b0 (congrArg (fun z => some (Value.int z)) (b2.2.1)) ?_
            refine v_icmp_ltN C (oX9_isBegun.at 24 rfl) (tgt := 55) (by decide) (by omega) (by omega) (fun hc => ?_) (fun hc => absurd hc (by omega))
            exact M55
      · -- no operand
        have S101 : ∀ {X : CT} {o : Oc} {P : Wt → Hp → Prop} (_ : Cx X mX9_isBegun [] 2 (0, 0) o P) (h2 : Hp), V X (0, 0) w h2 101 [some (.ref 62), some (.int (nI s)), none] [] → V X (0, 0) w h2 10 [some (.ref 62), some (.int (nI s)), none] [] := by
          intro X o P C h2 K
          refine v_iload_n C (oX9_isBegun.at 6 rfl) rfl ?_
          refine v_bipush C (oX9_isBegun.at 7 rfl) (v := nI 48) rfl ?_
          refine v_bipush C (oX9_isBegun.at 8 rfl) (v := nI 57) rfl ?_
          refine v_callS C (oX9_isBegun.at 9 rfl) cX9_103 (isIn_n (q := false) (by omega) (by decide) (by decide) (by symm; exact decide_eq_false (by omega))) rfl rfl rfl ⟨rfl, rfl⟩ rfl rfl (fun _ => rfl) (fun h' hp => ?_)
          rw [show h' = _ from hp]
          dsimp only [Option.toList, List.cons_append, List.nil_append]
          refine v_if_neB C (oX9_isBegun.at 10 rfl) (tgt := 32) (by decide) (fun z => absurd z (by decide)) (fun _ => ?_)
          refine v_iload_n C (oX9_isBegun.at 11 rfl) rfl ?_
          refine v_bipush C (oX9_isBegun.at 12 rfl) (v := nI 97) rfl ?_
          refine v_bipush C (oX9_isBegun.at 13 rfl) (v := nI 100) rfl ?_
          refine v_callS C (oX9_isBegun.at 14 rfl) cX9_103 (isIn_n (q := false) (by omega) (by decide) (by decide) (by symm; exact decide_eq_false (by omega))) rfl rfl rfl ⟨rfl, rfl⟩ rfl rfl (fun _ => rfl) (fun h' hp => ?_)
          rw [show h' = _ from hp]
          dsimp only [Option.toList, List.cons_append, List.nil_append]
          refine v_if_eqB C (oX9_isBegun.at 15 rfl) (tgt := 101) (by decide) (fun _ => ?_) (fun z => absurd z (by decide))
          exact K
        by_cases hC : s = 33 ∨ s = 40
        · left
          have hwms : wm s = s := by rcases hC with rfl | rfl <;> rfl
          refine ⟨c, s :: t, i + 1, d, 0, by omega, by omega, by omega, ⟨by rw [List.length_cons]; omega, TW.cons (by unfold Wok; omega) j2, ⟨j3, fun q => ?_⟩, fun q => absurd q (by decide)⟩, ?_, ?_⟩
          · rcases hC with rfl | rfl <;> exact absurd q (by decide)
          · rw [hsg 0 0 c (s :: t) (by unfold opnd; rw [if_neg hA, if_neg hBd, if_pos hC]), if_neg (by decide)]
          · rw [show decide (0 = 0) = true from rfl]
            refine conI (by decide +kernel) ⟨fun _ => rfl, rfl, by simp⟩ (fun X C => ?_)
            change V X (0, 0) w h1 0 [some (.ref 62), none, none] []
            refine bg_start C hI h69 hB hF (by omega) (fun h2 hI2 => ?_)
            rw [if_pos (by omega), hsx]
            refine S101 C h2 ?_
            have hI3 := hI2
            obtain ⟨u2, b0, -⟩ := hI3
            have kw := k9_waitsFor (w := w) (y := s) hI2 (by omega)
            rw [hwms] at kw
            have M : V X (0, 0) w h2 113 [some (.ref 62), some (.int (nI s)), none] [] := by
              refine v_aload_n C (oX9_isBegun.at 63 rfl) rfl ?_
              refine v_iload_n C (oX9_isBegun.at 64 rfl) rfl ?_
              refine v_callV C (oX9_isBegun.at 65 rfl) cX9_188 b0 (kw) rfl rfl rfl ⟨rfl, rfl⟩ rfl rfl (fun _ => rfl) (fun h' hp => ?_)
              dsimp only [Option.toList, List.cons_append, List.nil_append]
              have hI4 : PI h th S sv Z F c (s :: t) i true h' := hp
              clear hp
              generalize h' = h4 at hI4 ⊢
              obtain ⟨u4, d0, d5, hI5⟩ := hI4.inc
              refine v_aload_n C (oX9_isBegun.at 66 rfl) rfl ?_
              refine v_dup C (oX9_isBegun.at 67 rfl) rfl ?_
              refine v_getf C (oX9_isBegun.at 68 rfl) fX9_152 d0 (congrArg (fun z => some (Value.int z)) (d5)) ?_
              refine v_iconst C (oX9_isBegun.at 69 rfl) (v := nI 1) rfl ?_
              refine v_iaddN C (oX9_isBegun.at 70 rfl) ?_
              refine v_put9 C (oX9_isBegun.at 71 rfl) fX9_152 p9_21 d0 ⟨rfl, rfl, rfl⟩ ?_
              refine v_iconst C (oX9_isBegun.at 72 rfl) (v := nI 1) rfl ?_
              exact v_zret1 C (oX9_isBegun.at 73 rfl) rfl rfl ⟨Nat.le_refl _, Nat.le_refl _⟩ ⟨rfl, hI5⟩
            refine v_iload_n C (oX9_isBegun.at 57 rfl) rfl ?_
            refine v_bipush C (oX9_isBegun.at 58 rfl) (v := nI 33) rfl ?_
            refine v_icmp_eqN C (oX9_isBegun.at 59 rfl) (tgt := 113) (by decide) (by omega) (by omega) (fun hc => ?_) (fun hc => ?_)
            · exact M
            · refine v_iload_n C (oX9_isBegun.at 60 rfl) rfl ?_
              refine v_bipush C (oX9_isBegun.at 61 rfl) (v := nI 40) rfl ?_
              refine v_icmp_neN C (oX9_isBegun.at 62 rfl) (tgt := 130) (by decide) (by omega) (by omega) (fun hc => ?_) (fun hc => ?_)
              · omega
              · exact M
        · by_cases hD : s = 109
          · subst hD
            have e0 := hsg 0 2 c t (by unfold opnd; rw [if_neg hA, if_neg hBd, if_neg hC, if_pos rfl])
            rw [if_neg (by decide)] at e0
            rw [e0]
            -- up to the second sign
            have S156 : ∀ {X : CT} {o : Oc} {P : Wt → Hp → Prop} (_ : Cx X mX9_isBegun [] 2 (0, 0) o P), (∀ h2, PI h th S sv Z F c t (i + 1) true h2 → V X (0, 0) w h2 156 [some (.ref 62), some (.int (nI 109)), some (.int (if i + 1 < F.1 then nI (F.2.2.2 (i + 1)) else -1))] []) → V X (0, 0) w h1 0 [some (.ref 62), none, none] [] := by
              intro X o P C K
              refine bg_start C hI h69 hB hF (by omega) (fun h2 hI2 => ?_)
              rw [if_pos (by omega), hsx]
              refine S101 C h2 ?_
              refine v_iload_n C (oX9_isBegun.at 57 rfl) rfl ?_
              refine v_bipush C (oX9_isBegun.at 58 rfl) (v := nI 33) rfl ?_
              refine v_icmp_eqN C (oX9_isBegun.at 59 rfl) (tgt := 113) (by decide) (by omega) (by omega) (fun hc => absurd hc (by omega)) (fun hc => ?_)
              refine v_iload_n C (oX9_isBegun.at 60 rfl) rfl ?_
              refine v_bipush C (oX9_isBegun.at 61 rfl) (v := nI 40) rfl ?_
              refine v_icmp_neN C (oX9_isBegun.at 62 rfl) (tgt := 130) (by decide) (by omega) (by omega) (fun hc => ?_) (fun hc => absurd hc (by omega))
              refine v_iload_n C (oX9_isBegun.at 74 rfl) rfl ?_
              refine v_bipush C (oX9_isBegun.at 75 rfl) (v := nI 109) rfl ?_
              refine v_icmp_eqN C (oX9_isBegun.at 76 rfl) (tgt := 141) (by decide) (by omega) (by omega) (fun hc => ?_) (fun hc => absurd hc (by omega))
              exact bg_m1 C hI2 h69 hB hF (by omega) K
            cases d with
            | zero =>
              right
              rw [rdG_0 (by decide)]
              refine ⟨by dsimp only; decide, ?_⟩
              refine conI (by decide +kernel) ⟨fun _ => rfl, rfl, by simp⟩ (fun X C => ?_)
              change V X (0, 0) w h1 0 [some (.ref 62), none, none] []
              refine S156 C (fun h2 hI2 => ?_)
              rw [if_neg (by omega)]
              have hI3 := hI2
              obtain ⟨u2, b0, -⟩ := hI3
              refine v_iload_n C (oX9_isBegun.at 89 rfl) rfl ?_
              refine v_bipush C (oX9_isBegun.at 90 rfl) (v := nI 105) rfl ?_
              refine v_icmp_eq C (oX9_isBegun.at 91 rfl) (tgt := 173) (by decide) (fun hc => absurd hc (by decide)) (fun hc => ?_)
              refine v_iload_n C (oX9_isBegun.at 92 rfl) rfl ?_
              refine v_bipush C (oX9_isBegun.at 93 rfl) (v := nI 97) rfl ?_
              refine v_icmp_eq C (oX9_isBegun.at 94 rfl) (tgt := 173) (by decide) (fun hc => absurd hc (by decide)) (fun hc => ?_)
              refine v_aload_n C (oX9_isBegun.at 95 rfl) rfl ?_
              refine v_callV C (oX9_isBegun.at 96 rfl) cX9_191 b0 (k9_isWrong hI2 (by omega) hF) rfl rfl rfl ⟨rfl, rfl⟩ rfl rfl (fun _ => rfl) (fun h' hp => ?_)
              dsimp only [Option.toList, List.cons_append, List.nil_append]
              refine v_zret C (oX9_isBegun.at 97 rfl) rfl rfl ⟨Nat.le_refl _, Nat.le_refl _⟩ ⟨rfl, c, t, i + 1, true, ?_⟩
              have hp : PI h th S sv Z (F.1, (if i + 1 = F.1 then 2 else 1), nI (i + 1), F.2.2.2) c t (i + 1) true h' := hp
              rw [if_pos (by omega), show i + 1 = F.1 by omega] at hp
              rw [show i + 1 = F.1 by omega]
              exact hp
            | succ d =>
              have hs2 := htx (i + 1) (by omega)
              generalize hs2x : F.2.2.2 (i + 1) = s2 at *
              by_cases h2ok : s2 = 105 ∨ s2 = 97
              · have e1 : rdG F.2.2.2 S.2.1 F.1 (d + 1) (i + 1) 2 c t = rdG F.2.2.2 S.2.1 F.1 d (i + 2) (if s2 = 105 then 3 else 4) c t := by
                  by_cases q : s2 = 105
                  · rw [rdG_s (q := 0) (due' := 3) (c' := c) (t' := t) (by rw [hs2x, q]; rfl), if_neg (by decide), if_pos q]
                  · rw [rdG_s (q := 0) (due' := 4) (c' := c) (t' := t) (by rw [hs2x, show s2 = 97 by omega]; rfl), if_neg (by decide), if_neg q]
                rw [e1]
                -- up to the third sign
                have S200 : ∀ {X : CT} {o : Oc} {P : Wt → Hp → Prop} (_ : Cx X mX9_isBegun [] 2 (0, 0) o P), (∀ h2, PI h th S sv Z F c t (i + 2) true h2 → V X (0, 0) w h2 200 [some (.ref 62), some (.int (nI 109)), some (.int (nI s2))] [.int (nI (if s2 = 105 then 110 else 120)), .int (if i + 2 < F.1 then nI (F.2.2.2 (i + 2)) else -1)]) → V X (0, 0) w h1 0 [some (.ref 62), none, none] [] := by
                  intro X o P C K
                  refine S156 C (fun h2 hI2 => ?_)
                  rw [if_pos (by omega)]
                  exact bg_m2 C hI2 h69 hB hF (by omega) h2ok K
                have hwant : (if s2 = 105 then 110 else 120) < 2 ^ 31 ∧ (if s2 = 105 then 110 else 120) ≥ 110 := by split <;> omega
                cases d with
                | zero =>
                  right
                  rw [rdG_0 (by split <;> decide)]
                  refine ⟨by dsimp only; decide, ?_⟩
                  refine conI (by decide +kernel) ⟨fun _ => rfl, rfl, by simp⟩ (fun X C => ?_)
                  change V X (0, 0) w h1 0 [some (.ref 62), none, none] []
                  refine S200 C (fun h2 hI2 => ?_)
                  rw [if_neg (show ¬ i + 2 < F.1 by omega)]
                  have hI3 := hI2
                  obtain ⟨u2, b0, -⟩ := hI3
                  refine v_icmp_eq C (oX9_isBegun.at 112 rfl) (tgt := 208) (by decide) (fun hc => absurd hc (by split <;> decide)) (fun hc => ?_)
                  refine v_aload_n C (oX9_isBegun.at 113 rfl) rfl ?_
                  refine v_callV C (oX9_isBegun.at 114 rfl) cX9_191 b0 (k9_isWrong hI2 (by omega) hF) rfl rfl rfl ⟨rfl, rfl⟩ rfl rfl (fun _ => rfl) (fun h' hp => ?_)
                  dsimp only [Option.toList, List.cons_append, List.nil_append]
                  refine v_zret C (oX9_isBegun.at 115 rfl) rfl rfl ⟨Nat.le_refl _, Nat.le_refl _⟩ ⟨rfl, c, t, i + 2, true, ?_⟩
                  have hp : PI h th S sv Z (F.1, (if i + 2 = F.1 then 2 else 1), nI (i + 2), F.2.2.2) c t (i + 2) true h' := hp
                  rw [if_pos (by omega), show i + 2 = F.1 by omega] at hp
                  rw [show i + 2 = F.1 by omega]
                  exact hp
                | succ d =>
                  have hs3 := htx (i + 2) (by omega)
                  generalize hs3x : F.2.2.2 (i + 2) = s3 at *
                  by_cases h3ok : s3 = if s2 = 105 then 110 else 120
                  · have e2 : rdG F.2.2.2 S.2.1 F.1 (d + 1) (i + 2) (if s2 = 105 then 3 else 4) c t = rdG F.2.2.2 S.2.1 F.1 d (i + 3) 5 c ((if s2 = 105 then 78 else 88) :: t) := by
                      by_cases q : s2 = 105
                      · rw [if_pos q] at h3ok
                        rw [if_pos q, if_pos q, rdG_s (q := 0) (due' := 5) (c' := c) (t' := 78 :: t) (by rw [hs3x, h3ok]; rfl), if_neg (by decide)]
                      · rw [if_neg q] at h3ok
                        rw [if_neg q, if_neg q, rdG_s (q := 0) (due' := 5) (c' := c) (t' := 88 :: t) (by rw [hs3x, h3ok]; rfl), if_neg (by decide)]
                    rw [e2]
                    have S222 : ∀ {X : CT} {o : Oc} {P : Wt → Hp → Prop} (_ : Cx X mX9_isBegun [] 2 (0, 0) o P), (∀ h2, PI h th S sv Z F c t (i + 3) true h2 → V X (0, 0) w h2 222 [some (.ref 62), some (.int (nI 109)), some (.int (nI s2))] [.int (if i + 3 < F.1 then nI (F.2.2.2 (i + 3)) else -1)]) → V X (0, 0) w h1 0 [some (.ref 62), none, none] [] := by
                      intro X o P C K
                      refine S200 C (fun h2 hI2 => ?_)
                      rw [if_pos (show i + 2 < F.1 by omega), h3ok]
                      refine v_icmp_eqN C (oX9_isBegun.at 112 rfl) (tgt := 208) (by decide) hwant.1 hwant.1 (fun hc => ?_) (fun hc => absurd rfl hc)
                      exact bg_m3 C hI2 h69 hB hF (by omega) K
                    cases d with
                    | zero =>
                      right
                      rw [rdG_0 (by decide)]
                      refine ⟨by dsimp only; decide, ?_⟩
                      refine conI (by decide +kernel) ⟨fun _ => rfl, rfl, by simp⟩ (fun X C => ?_)
                      change V X (0, 0) w h1 0 [some (.ref 62), none, none] []
                      refine S222 C (fun h2 hI2 => ?_)
                      rw [if_neg (show ¬ i + 3 < F.1 by omega)]
                      have hI3 := hI2
                      obtain ⟨u2, b0, -⟩ := hI3
                      refine v_bipush C (oX9_isBegun.at 124 rfl) (v := nI 40) rfl ?_
                      refine v_icmp_eq C (oX9_isBegun.at 125 rfl) (tgt := 232) (by decide) (fun hc => absurd hc (by decide)) (fun hc => ?_)
                      refine v_aload_n C (oX9_isBegun.at 126 rfl) rfl ?_
                      refine v_callV C (oX9_isBegun.at 127 rfl) cX9_191 b0 (k9_isWrong hI2 (by omega) hF) rfl rfl rfl ⟨rfl, rfl⟩ rfl rfl (fun _ => rfl) (fun h' hp => ?_)
                      dsimp only [Option.toList, List.cons_append, List.nil_append]
                      refine v_zret C (oX9_isBegun.at 128 rfl) rfl rfl ⟨Nat.le_refl _, Nat.le_refl _⟩ ⟨rfl, c, t, i + 3, true, ?_⟩
                      have hp : PI h th S sv Z (F.1, (if i + 3 = F.1 then 2 else 1), nI (i + 3), F.2.2.2) c t (i + 3) true h' := hp
                      rw [if_pos (by omega), show i + 3 = F.1 by omega] at hp
                      rw [show i + 3 = F.1 by omega]
                      exact hp
                    | succ d =>
                      have hs4 := htx (i + 3) (by omega)
                      generalize hs4x : F.2.2.2 (i + 3) = s4 at *
                      by_cases h4ok : s4 = 40
                      · left
                        have e3 : rdG F.2.2.2 S.2.1 F.1 (d + 1) (i + 3) 5 c ((if s2 = 105 then 78 else 88) :: t) = rdG F.2.2.2 S.2.1 F.1 d (i + 4) 0 c ((if s2 = 105 then 78 else 88) :: t) := by
                          rw [rdG_s (q := 0) (due' := 0) (c' := c) (t' := (if s2 = 105 then 78 else 88) :: t) (by rw [hs4x, h4ok]; rfl), if_neg (by decide)]
                        rw [e3]
                        have hwm2 : wm (if s2 = 105 then 78 else 88) = s2 := by
                          by_cases q : s2 = 105
                          · rw [if_pos q, q]; rfl
                          · rw [if_neg q, show s2 = 97 by omega]; rfl
                        refine ⟨c, (if s2 = 105 then 78 else 88) :: t, i + 4, d, 0, by omega, by omega, by omega, ⟨by rw [List.length_cons]; omega, TW.cons (by unfold Wok; split <;> omega) j2, ⟨j3, fun q => ?_⟩, fun q => absurd q (by decide)⟩, rfl, ?_⟩
                        · by_cases q2 : s2 = 105
                          · rw [if_pos q2] at q; exact absurd q (by decide)
                          · rw [if_neg q2] at q; exact absurd q (by decide)
                        · rw [show decide (0 = 0) = true from rfl]
                          refine conI (by decide +kernel) ⟨fun _ => rfl, rfl, by simp⟩ (fun X C => ?_)
                          change V X (0, 0) w h1 0 [some (.ref 62), none, none] []
                          refine S222 C (fun h2 hI2 => ?_)
                          rw [if_pos (show i + 3 < F.1 by omega), h4ok]
                          obtain ⟨u2, b0, b5, hI3⟩ := hI2.inc
                          refine v_bipush C (oX9_isBegun.at 124 rfl) (v := nI 40) rfl ?_
                          refine v_icmp_eqN C (oX9_isBegun.at 125 rfl) (tgt := 232) (by decide) (by omega) (by omega) (fun hc => ?_) (fun hc => absurd hc (by omega))
                          refine v_aload_n C (oX9_isBegun.at 129 rfl) rfl ?_
                          refine v_dup C (oX9_isBegun.at 130 rfl) rfl ?_
                          refine v_getf C (oX9_isBegun.at 131 rfl) fX9_152 b0 (congrArg (fun z => some (Value.int z)) (b5)) ?_
                          refine v_iconst C (oX9_isBegun.at 132 rfl) (v := nI 1) rfl ?_
                          refine v_iaddN C (oX9_isBegun.at 133 rfl) ?_
                          refine v_put9 C (oX9_isBegun.at 134 rfl) fX9_152 p9_21 b0 ⟨rfl, rfl, rfl⟩ ?_
                          generalize hu h2 62 (MO (upd u2 21 (nI (i + 3 + 1)))) = h3 at *
                          have kw := k9_waitsFor (w := w) (y := if s2 = 105 then 78 else 88) hI3 (by omega)
                          rw [hwm2] at kw
                          have hI4 := hI3
                          obtain ⟨u4, d0, -⟩ := hI4
                          refine v_aload_n C (oX9_isBegun.at 135 rfl) rfl ?_
                          refine v_iload_n C (oX9_isBegun.at 136 rfl) rfl ?_
                          refine v_callV C (oX9_isBegun.at 137 rfl) cX9_188 d0 (kw) rfl rfl rfl ⟨rfl, rfl⟩ rfl rfl (fun _ => rfl) (fun h' hp => ?_)
                          dsimp only [Option.toList, List.cons_append, List.nil_append]
                          refine v_iconst C (oX9_isBegun.at 138 rfl) (v := nI 1) rfl ?_
                          exact v_zret1 C (oX9_isBegun.at 139 rfl) rfl rfl ⟨Nat.le_refl _, Nat.le_refl _⟩ ⟨rfl, hp⟩
                      · right
                        have e3 : rdG F.2.2.2 S.2.1 F.1 (d + 1) (i + 3) 5 c ((if s2 = 105 then 78 else 88) :: t) = (1, nI (i + 3), c, (if s2 = 105 then 78 else 88) :: t) := by
                          rw [rdG_s (q := 1) (due' := 0) (c' := c) (t' := (if s2 = 105 then 78 else 88) :: t) (by rw [hs4x]; show (if s4 = 40 then _ else _) = _; rw [if_neg h4ok]), if_pos (by decide)]
                        rw [e3]
                        refine ⟨by dsimp only; decide, ?_⟩
                        refine conI (by decide +kernel) ⟨fun _ => rfl, rfl, by simp⟩ (fun X C => ?_)
                        change V X (0, 0) w h1 0 [some (.ref 62), none, none] []
                        refine S222 C (fun h2 hI2 => ?_)
                        rw [if_pos (show i + 3 < F.1 by omega)]
                        have hI3 := hI2
                        obtain ⟨u2, b0, -⟩ := hI3
                        refine v_bipush C (oX9_isBegun.at 124 rfl) (v := nI 40) rfl ?_
                        refine v_icmp_eqN C (oX9_isBegun.at 125 rfl) (tgt := 232) (by decide) (by omega) (by omega) (fun hc => absurd hc (by omega)) (fun hc => ?_)
                        refine v_aload_n C (oX9_isBegun.at 126 rfl) rfl ?_
                        refine v_callV C (oX9_isBegun.at 127 rfl) cX9_191 b0 (k9_isWrong hI2 (by omega) hF) rfl rfl rfl ⟨rfl, rfl⟩ rfl rfl (fun _ => rfl) (fun h' hp => ?_)
                        dsimp only [Option.toList, List.cons_append, List.nil_append]
                        refine v_zret C (oX9_isBegun.at 128 rfl) rfl rfl ⟨Nat.le_refl _, Nat.le_refl _⟩ ⟨rfl, c, t, i + 3, true, ?_⟩
                        have hp : PI h th S sv Z (F.1, (if i + 3 = F.1 then 2 else 1), nI (i + 3), F.2.2.2) c t (i + 3) true h' := hp
                        rw [if_neg (by omega)] at hp
                        exact hp
                  · right
                    have e2 : rdG F.2.2.2 S.2.1 F.1 (d + 1) (i + 2) (if s2 = 105 then 3 else 4) c t = (1, nI (i + 2), c, t) := by
                      by_cases q : s2 = 105
                      · rw [if_pos q] at h3ok
                        rw [if_pos q, rdG_s (q := 1) (due' := 0) (c' := c) (t' := t) (by rw [hs3x]; show (if s3 = 110 then _ else _) = _; rw [if_neg h3ok]), if_pos (by decide)]
                      · rw [if_neg q] at h3ok
                        rw [if_neg q, rdG_s (q := 1) (due' := 0) (c' := c) (t' := t) (by rw [hs3x]; show (if s3 = 120 then _ else _) = _; rw [if_neg h3ok]), if_pos (by decide)]
                    rw [e2]
                    refine ⟨by dsimp only; decide, ?_⟩
                    refine conI (by decide +kernel) ⟨fun _ => rfl, rfl, by simp⟩ (fun X C => ?_)
                    change V X (0, 0) w h1 0 [some (.ref 62), none, none] []
                    refine S200 C (fun h2 hI2 => ?_)
                    rw [if_pos (show i + 2 < F.1 by omega)]
                    have hI3 := hI2
                    obtain ⟨u2, b0, -⟩ := hI3
                    refine v_icmp_eqN C (oX9_isBegun.at 112 rfl) (tgt := 208) (by decide) (by omega) hwant.1 (fun hc => absurd hc h3ok) (fun hc => ?_)
                    refine v_aload_n C (oX9_isBegun.at 113 rfl) rfl ?_
                    refine v_callV C (oX9_isBegun.at 114 rfl) cX9_191 b0 (k9_isWrong hI2 (by omega) hF) rfl rfl rfl ⟨rfl, rfl⟩ rfl rfl (fun _ => rfl) (fun h' hp => ?_)
                    dsimp only [Option.toList, List.cons_append, List.nil_append]
                    refine v_zret C (oX9_isBegun.at 115 rfl) rfl rfl ⟨Nat.le_refl _, Nat.le_refl _⟩ ⟨rfl, c, t, i + 2, true, ?_⟩
                    have hp : PI h th S sv Z (F.1, (if i + 2 = F.1 then 2 else 1), nI (i + 2), F.2.2.2) c t (i + 2) true h' := hp
                    rw [if_neg (by omega)] at hp
                    exact hp
              · right
                have e1 : rdG F.2.2.2 S.2.1 F.1 (d + 1) (i + 1) 2 c t = (1, nI (i + 1), c, t) := by
                  rw [rdG_s (q := 1) (due' := 0) (c' := c) (t' := t) (by rw [hs2x]; show (if s2 = 105 then _ else if s2 = 97 then _ else _) = _; rw [if_neg (by omega), if_neg (by omega)]), if_pos (by decide)]
                rw [e1]
                refine ⟨by dsimp only; decide, ?_⟩
                refine conI (by decide +kernel) ⟨fun _ => rfl, rfl, by simp⟩ (fun X C => ?_)
                change V X (0, 0) w h1 0 [some (.ref 62), none, none] []
                refine S156 C (fun h2 hI2 => ?_)
                rw [if_pos (by omega)]
                have hI3 := hI2
                obtain ⟨u2, b0, -⟩ := hI3
                refine v_iload_n C (oX9_isBegun.at 89 rfl) rfl ?_
                refine v_bipush C (oX9_isBegun.at 90 rfl) (v := nI 105) rfl ?_
                refine v_icmp_eqN C (oX9_isBegun.at 91 rfl) (tgt := 173) (by decide) (by omega) (by omega) (fun hc => absurd hc (by omega)) (fun hc => ?_)
                refine v_iload_n C (oX9_isBegun.at 92 rfl) rfl ?_
                refine v_bipush C (oX9_isBegun.at 93 rfl) (v := nI 97) rfl ?_
                refine v_icmp_eqN C (oX9_isBegun.at 94 rfl) (tgt := 173) (by decide) (by omega) (by omega) (fun hc => absurd hc (by omega)) (fun hc => ?_)
                refine v_aload_n C (oX9_isBegun.at 95 rfl) rfl ?_
                refine v_callV C (oX9_isBegun.at 96 rfl) cX9_191 b0 (k9_isWrong hI2 (by omega) hF) rfl rfl rfl ⟨rfl, rfl⟩ rfl rfl (fun _ => rfl) (fun h' hp => ?_)
                dsimp only [Option.toList, List.cons_append, List.nil_append]
                refine v_zret C (oX9_isBegun.at 97 rfl) rfl rfl ⟨Nat.le_refl _, Nat.le_refl _⟩ ⟨rfl, c, t, i + 1, true, ?_⟩
                have hp : PI h th S sv Z (F.1, (if i + 1 = F.1 then 2 else 1), nI (i + 1), F.2.2.2) c t (i + 1) true h' := hp
                rw [if_neg (by omega)] at hp
                exact hp
          · right
            rw [hsg 1 0 c t (by unfold opnd; rw [if_neg hA, if_neg hBd, if_neg hC, if_neg hD]), if_pos (by decide)]
            refine ⟨by dsimp only; decide, ?_⟩
            refine conI (by decide +kernel) ⟨fun _ => rfl, rfl, by simp⟩ (fun X C => ?_)
            change V X (0, 0) w h1 0 [some (.ref 62), none, none] []
            refine bg_start C hI h69 hB hF (by omega) (fun h2 hI2 => ?_)
            rw [if_pos (by omega), hsx]
            refine S101 C h2 ?_
            have ne : ∀ m, m < 2 ^ 31 → s ≠ m → nI s ≠ nI m := by
              intro m hm hne q
              have := congrArg Int32.toInt q
              rw [nI_toInt (by omega), nI_toInt hm] at this
              omega
            refine bg_101 C hI2 (by omega) hF (ne 33 (by decide) (by omega)) (ne 40 (by decide) (by omega)) (ne 109 (by decide) hD) (fun h' hh => ⟨rfl, c, t, i, true, ?_⟩)
            rw [if_neg (by omega)] at hh
            exact hh
