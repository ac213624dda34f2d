/-! ===== Formula: reading ===== -/
def endF (c : List Nat) : List Nat → List Nat × List Nat
  | [] => (c, [])
  | x :: t => if x = 33 then endF (33 :: c) t else (c, x :: t)
def mvO (r : Nat) (c : List Nat) : List Nat → List Nat × List Nat
  | [] => (c, [])
  | x :: t => if r ≤ rk x then mvO r (x :: c) t else (c, x :: t)
theorem endF_len : ∀ (t c : List Nat), (endF c t).1.length + (endF c t).2.length = c.length + t.length
  | [], c => rfl
  | x :: t, c => by
    rw [endF]
    split
    · rw [endF_len t, List.length_cons, List.length_cons]; omega
    · rfl
theorem mvO_len (r : Nat) : ∀ (t c : List Nat), (mvO r c t).1.length + (mvO r c t).2.length = c.length + t.length
  | [], c => rfl
  | x :: t, c => by
    rw [mvO]
    split
    · rw [mvO_len r t, List.length_cons, List.length_cons]; omega
    · rfl
theorem k_endFactor {w : Wt} {p len ek : Nat} {ep : Int32} {tx : Nat → Nat} : ∀ (t c : List Nat) (h : Hp), FmOK h p len ek ep c t tx → c.length + t.length ≤ 40 → ConN mX0_endFactor 1 (0, 0) w [.ref p] h (.inl (some (.int (nI 1)))) (fun h' => FmOK h' p len ek ep (endF c t).1 (endF c t).2 tx ∧ FmC h p h') := by
  intro t0 c0 h hF0 hl0
  refine conI (by decide +kernel) ⟨fun _ => rfl, rfl, by simp⟩ (fun X C => ?_)
  change V X (0, 0) w h 0 [some (.ref p)] []
  suffices H : ∀ (t c : List Nat) (h1 : Hp), FmOK h1 p len ek ep c t tx → c.length + t.length ≤ 40 → FmC h p h1 → endF c t = endF c0 t0 → V X (0, 0) w h1 0 [some (.ref p)] [] by
    exact H t0 c0 h hF0 hl0 (FmC.rf _ _) rfl
  clear hF0 hl0
  intro t
  induction t with
  | nil =>
    intro c h1 hF hl hC he
    refine v_aload_n C (oX0_endFactor.at 0 rfl) rfl ?_
    refine v_getf C (oX0_endFactor.at 1 rfl) fX0_40 hF.o rfl ?_
    refine v_if_leN C (oX0_endFactor.at 2 rfl) (tgt := 35) (by decide) (by omega) (fun hc => ?_) (fun hc => ?_)
    · rw [← he] at C
      refine v_iconst C (oX0_endFactor.at 17 rfl) (v := nI 1) rfl ?_
      exact v_iret C (oX0_endFactor.at 18 rfl) rfl rfl ⟨Nat.le_refl _, Nat.le_refl _⟩ ⟨rfl, hF, hC⟩
    · exact absurd hc (by decide)
  | cons x t ih =>
    intro c h1 hF hl hC he
    rw [List.length_cons] at hl
    have hx := hF.bt.top
    refine v_aload_n C (oX0_endFactor.at 0 rfl) rfl ?_
    refine v_getf C (oX0_endFactor.at 1 rfl) fX0_40 hF.o rfl ?_
    refine v_if_leN C (oX0_endFactor.at 2 rfl) (tgt := 35) (by decide) (by rw [List.length_cons]; omega) (fun hc => absurd hc (by rw [List.length_cons]; omega)) (fun hc => ?_)
    refine v_aload_n C (oX0_endFactor.at 3 rfl) rfl ?_
    refine v_callV C (oX0_endFactor.at 4 rfl) cX0_80 hF.o (k_lastWaiting hF (by rw [List.length_cons]; omega)) rfl rfl rfl ⟨rfl, rfl⟩ rfl rfl (fun _ => rfl) (fun h' hp => ?_)
    rw [show h' = _ from hp]
    dsimp only [Option.toList, List.cons_append, List.nil_append]
    rw [show (x :: t).headD 0 = x from rfl]
    refine v_bipush C (oX0_endFactor.at 5 rfl) (v := nI 33) rfl ?_
    refine v_icmp_neN C (oX0_endFactor.at 6 rfl) (tgt := 35) (by decide) (by omega) (by omega) (fun hc => ?_) (fun hc => ?_)
    · rw [endF, if_neg hc] at he
      rw [← he] at C
      refine v_iconst C (oX0_endFactor.at 17 rfl) (v := nI 1) rfl ?_
      exact v_iret C (oX0_endFactor.at 18 rfl) rfl rfl ⟨Nat.le_refl _, Nat.le_refl _⟩ ⟨rfl, hF, hC⟩
    · subst hc
      rw [endF, if_pos rfl] at he
      have hT := hF.tl (by rw [List.length_cons]; omega)
      refine v_aload_n C (oX0_endFactor.at 7 rfl) rfl ?_
      refine v_dup C (oX0_endFactor.at 8 rfl) rfl ?_
      refine v_getf C (oX0_endFactor.at 9 rfl) fX0_40 hF.o rfl ?_
      refine v_iconst C (oX0_endFactor.at 10 rfl) (v := nI 1) rfl ?_
      refine v_isubN C (oX0_endFactor.at 11 rfl) (by rw [List.length_cons]; omega) ?_
      refine v_putI C (oX0_endFactor.at 12 rfl) fX0_40 p0_7 hF.o rfl ?_
      change V X (0, 0) w (hu h1 p (FO p len ek ep c.length ((33 :: t).length - 1))) 26 [some (.ref p)] []
      have hC2 : FmC h p (hu h1 p (FO p len ek ep c.length ((33 :: t).length - 1))) := hC.tr (FmC.u _ (by omega) (by omega))
      generalize hu h1 p (FO p len ek ep c.length ((33 :: t).length - 1)) = h2 at *
      refine v_aload_n C (oX0_endFactor.at 13 rfl) rfl ?_
      refine v_bipush C (oX0_endFactor.at 14 rfl) (v := nI 33) rfl ?_
      refine v_callV C (oX0_endFactor.at 15 rfl) cX0_66 hT.o (k_emit hT (by omega) (by decide)) rfl rfl rfl ⟨rfl, rfl⟩ rfl rfl (fun _ => rfl) (fun h' hp => ?_)
      dsimp only [Option.toList, List.cons_append, List.nil_append]
      obtain ⟨hE, hCE⟩ := hp
      refine v_goto C (oX0_endFactor.at 16 rfl) (tgt := 0) (by decide) ?_
      exact ih (33 :: c) h' hE (by rw [List.length_cons]; omega) (hC2.tr hCE) he
theorem k_moveOperators {w : Wt} {p len ek r : Nat} {ep : Int32} {tx : Nat → Nat} (hr : r ≤ 3) : ∀ (t c : List Nat) (h : Hp), FmOK h p len ek ep c t tx → c.length + t.length ≤ 40 → ConN mX0_moveOperators 1 (0, 0) w [.ref p, .int (nI r)] h (.inl none) (fun h' => FmOK h' p len ek ep (mvO r c t).1 (mvO r c t).2 tx ∧ FmC h p h') := by
  intro t0 c0 h hF0 hl0
  refine conI (by decide +kernel) ⟨fun _ => rfl, rfl, by simp⟩ (fun X C => ?_)
  change V X (0, 0) w h 0 [some (.ref p), some (.int (nI r))] []
  suffices H : ∀ (t c : List Nat) (h1 : Hp), FmOK h1 p len ek ep c t tx → c.length + t.length ≤ 40 → FmC h p h1 → mvO r c t = mvO r c0 t0 → V X (0, 0) w h1 0 [some (.ref p), some (.int (nI r))] [] by
    exact H t0 c0 h hF0 hl0 (FmC.rf _ _) rfl
  clear hF0 hl0
  intro t
  induction t with
  | nil =>
    intro c h1 hF hl hC he
    refine v_aload_n C (oX0_moveOperators.at 0 rfl) rfl ?_
    refine v_getf C (oX0_moveOperators.at 1 rfl) fX0_40 hF.o rfl ?_
    refine v_if_leN C (oX0_moveOperators.at 2 rfl) (tgt := 39) (by decide) (by omega) (fun hc => ?_) (fun hc => ?_)
    · rw [← he] at C
      exact v_vret C (oX0_moveOperators.at 19 rfl) rfl rfl ⟨Nat.le_refl _, Nat.le_refl _⟩ ⟨rfl, hF, hC⟩
    · exact absurd hc (by decide)
  | cons x t ih =>
    intro c h1 hF hl hC he
    rw [List.length_cons] at hl
    have hx := hF.bt.top
    have hrx := rk_le x
    refine v_aload_n C (oX0_moveOperators.at 0 rfl) rfl ?_
    refine v_getf C (oX0_moveOperators.at 1 rfl) fX0_40 hF.o rfl ?_
    refine v_if_leN C (oX0_moveOperators.at 2 rfl) (tgt := 39) (by decide) (by rw [List.length_cons]; omega) (fun hc => absurd hc (by rw [List.length_cons]; omega)) (fun hc => ?_)
    refine v_aload_n C (oX0_moveOperators.at 3 rfl) rfl ?_
    refine v_callV C (oX0_moveOperators.at 4 rfl) cX0_80 hF.o (k_lastWaiting hF (by rw [List.length_cons]; omega)) rfl rfl rfl ⟨rfl, rfl⟩ rfl rfl (fun _ => rfl) (fun h' hp => ?_)
    rw [show h' = _ from hp]
    dsimp only [Option.toList, List.cons_append, List.nil_append]
    rw [show (x :: t).headD 0 = x from rfl]
    refine v_callS C (oX0_moveOperators.at 5 rfl) cX0_72 (k_rankOf hx) rfl rfl rfl ⟨rfl, rfl⟩ rfl rfl (fun _ => rfl) (fun h' hp => ?_)
    rw [show h' = _ from hp]
    dsimp only [Option.toList, List.cons_append, List.nil_append]
    refine v_iload_n C (oX0_moveOperators.at 6 rfl) rfl ?_
    refine v_icmp_ltN C (oX0_moveOperators.at 7 rfl) (tgt := 39) (by decide) (by omega) (by omega) (fun hc => ?_) (fun hc => ?_)
    · rw [mvO, if_neg (by omega)] at he
      rw [← he] at C
      exact v_vret C (oX0_moveOperators.at 19 rfl) rfl rfl ⟨Nat.le_refl _, Nat.le_refl _⟩ ⟨rfl, hF, hC⟩
    · rw [mvO, if_pos (by omega)] at he
      refine v_aload_n C (oX0_moveOperators.at 8 rfl) rfl ?_
      refine v_aload_n C (oX0_moveOperators.at 9 rfl) rfl ?_
      refine v_callV C (oX0_moveOperators.at 10 rfl) cX0_80 hF.o (k_lastWaiting hF (by rw [List.length_cons]; omega)) rfl rfl rfl ⟨rfl, rfl⟩ rfl rfl (fun _ => rfl) (fun h' hp => ?_)
      rw [show h' = _ from hp]
      dsimp only [Option.toList, List.cons_append, List.nil_append]
      rw [show (x :: t).headD 0 = x from rfl]
      refine v_callV C (oX0_moveOperators.at 11 rfl) cX0_66 hF.o (k_emit hF (by omega) hx) rfl rfl rfl ⟨rfl, rfl⟩ rfl rfl (fun _ => rfl) (fun h' hp => ?_)
      dsimp only [Option.toList, List.cons_append, List.nil_append]
      obtain ⟨hE, hCE⟩ := hp
      have hT := hE.tl (by rw [List.length_cons]; omega)
      refine v_aload_n C (oX0_moveOperators.at 12 rfl) rfl ?_
      refine v_dup C (oX0_moveOperators.at 13 rfl) rfl ?_
      refine v_getf C (oX0_moveOperators.at 14 rfl) fX0_40 hE.o rfl ?_
      refine v_iconst C (oX0_moveOperators.at 15 rfl) (v := nI 1) rfl ?_
      refine v_isubN C (oX0_moveOperators.at 16 rfl) (by rw [List.length_cons]; omega) ?_
      refine v_putI C (oX0_moveOperators.at 17 rfl) fX0_40 p0_7 hE.o rfl ?_
      change V X (0, 0) w (hu h' p (FO p len ek ep (x :: c).length ((x :: t).length - 1))) 36 [some (.ref p), some (.int (nI r))] []
      have hC2 : FmC h p (hu h' p (FO p len ek ep (x :: c).length ((x :: t).length - 1))) := (hC.tr hCE).tr (FmC.u _ (by omega) (by omega))
      generalize hu h' p (FO p len ek ep (x :: c).length ((x :: t).length - 1)) = h2 at *
      refine v_goto C (oX0_moveOperators.at 18 rfl) (tgt := 0) (by decide) ?_
      exact ih (x :: c) h2 hT (by rw [List.length_cons]; omega) hC2 he
abbrev Ps := Nat × Nat × List Nat × List Nat
def opnd (s wd : Nat) (c t : List Nat) : Ps :=
  if 97 ≤ s ∧ s ≤ 100 ∧ wd ≤ s - 97 then (3, 0, c, t)
  else if (48 ≤ s ∧ s ≤ 57) ∨ (97 ≤ s ∧ s ≤ 100) then (0, 1, (endF (s :: c) t).1, (endF (s :: c) t).2)
  else if s = 33 ∨ s = 40 then (0, 0, c, s :: t)
  else if s = 109 then (0, 2, c, t) else (1, 0, c, t)
def PsOK (h : Hp) (p len : Nat) (ep : Int32) (S : Ps) (tx : Nat → Nat) (h' : Hp) : Prop := FmOK h' p len S.1 ep S.2.2.1 S.2.2.2 tx ∧ FmC h p h'
theorem k_readOperand {w : Wt} {h : Hp} {p len s wd : Nat} {ep : Int32} {c t : List Nat} {tx : Nat → Nat} (hF : FmOK h p len 0 ep c t tx) (hl : c.length + t.length < 40) (hs : s < 128) (hw : wd < 128) : ConN mX0_readOperand 2 (0, 0) w [.ref p, .int (nI s), .int (nI wd)] h (.inl (some (.int (nI (opnd s wd c t).2.1)))) (PsOK h p len ep (opnd s wd c t) tx) := by
  unfold opnd
  refine conI (by decide +kernel) ⟨fun _ => rfl, rfl, by simp⟩ (fun X C => ?_)
  change V X (0, 0) w h 0 [some (.ref p), some (.int (nI s)), some (.int (nI wd))] []
  have tail : ¬ (97 ≤ s ∧ s ≤ 100) → ¬ (48 ≤ s ∧ s ≤ 57) → V X (0, 0) w h 61 [some (.ref p), some (.int (nI s)), some (.int (nI wd))] [] := by
    intro n1 n2
    rw [if_neg (by omega), if_neg (by omega)] at C
    have kh := k_hold (w := w) (due := 0) hF (x := s) (by omega) hs
    refine v_iload_n C (oX0_readOperand.at 34 rfl) rfl ?_
    refine v_bipush C (oX0_readOperand.at 35 rfl) (v := nI 33) rfl ?_
    refine v_icmp_eqN C (oX0_readOperand.at 36 rfl) (tgt := 73) (by decide) (by omega) (by omega) (fun hc => ?_) (fun hc => ?_)
    · rw [if_pos (by omega)] at C
      refine v_aload_n C (oX0_readOperand.at 40 rfl) rfl ?_
      refine v_iload_n C (oX0_readOperand.at 41 rfl) rfl ?_
      refine v_iconst C (oX0_readOperand.at 42 rfl) (v := nI 0) rfl ?_
      refine v_callV C (oX0_readOperand.at 43 rfl) cX0_63 hF.o (kh) rfl rfl rfl ⟨rfl, rfl⟩ rfl rfl (fun _ => rfl) (fun h' hp => ?_)
      dsimp only [Option.toList, List.cons_append, List.nil_append]
      exact v_iret C (oX0_readOperand.at 44 rfl) rfl rfl ⟨Nat.le_refl _, Nat.le_refl _⟩ ⟨rfl, hp⟩
    · refine v_iload_n C (oX0_readOperand.at 37 rfl) rfl ?_
      refine v_bipush C (oX0_readOperand.at 38 rfl) (v := nI 40) rfl ?_
      refine v_icmp_neN C (oX0_readOperand.at 39 rfl) (tgt := 80) (by decide) (by omega) (by omega) (fun hc => ?_) (fun hc => ?_)
      · rw [if_neg (by omega)] at C
        refine v_iload_n C (oX0_readOperand.at 45 rfl) rfl ?_
        refine v_bipush C (oX0_readOperand.at 46 rfl) (v := nI 109) rfl ?_
        refine v_icmp_neN C (oX0_readOperand.at 47 rfl) (tgt := 90) (by decide) (by omega) (by omega) (fun hc => ?_) (fun hc => ?_)
        · rw [if_neg hc] at C
          refine v_aload_n C (oX0_readOperand.at 50 rfl) rfl ?_
          refine v_callV C (oX0_readOperand.at 51 rfl) cX0_59 hF.o (k_refuse hF) rfl rfl rfl ⟨rfl, rfl⟩ rfl rfl (fun _ => rfl) (fun h' hp => ?_)
          dsimp only [Option.toList, List.cons_append, List.nil_append]
          exact v_iret C (oX0_readOperand.at 52 rfl) rfl rfl ⟨Nat.le_refl _, Nat.le_refl _⟩ ⟨rfl, hp⟩
        · rw [if_pos (by omega)] at C
          refine v_iconst C (oX0_readOperand.at 48 rfl) (v := nI 2) rfl ?_
          refine v_goto C (oX0_readOperand.at 49 rfl) (tgt := 94) (by decide) ?_
          exact v_iret C (oX0_readOperand.at 52 rfl) rfl rfl ⟨Nat.le_refl _, Nat.le_refl _⟩ ⟨rfl, hF, FmC.rf _ _⟩
      · rw [if_pos (by omega)] at C
        refine v_aload_n C (oX0_readOperand.at 40 rfl) rfl ?_
        refine v_iload_n C (oX0_readOperand.at 41 rfl) rfl ?_
        refine v_iconst C (oX0_readOperand.at 42 rfl) (v := nI 0) rfl ?_
        refine v_callV C (oX0_readOperand.at 43 rfl) cX0_63 hF.o (kh) rfl rfl rfl ⟨rfl, rfl⟩ rfl rfl (fun _ => rfl) (fun h' hp => ?_)
        dsimp only [Option.toList, List.cons_append, List.nil_append]
        exact v_iret C (oX0_readOperand.at 44 rfl) rfl rfl ⟨Nat.le_refl _, Nat.le_refl _⟩ ⟨rfl, hp⟩
  have emt : (¬ (97 ≤ s ∧ s ≤ 100 ∧ wd ≤ s - 97)) → ((48 ≤ s ∧ s ≤ 57) ∨ (97 ≤ s ∧ s ≤ 100)) → V X (0, 0) w h 51 [some (.ref p), some (.int (nI s)), some (.int (nI wd))] [] := by
    intro n1 n2
    rw [if_neg n1, if_pos n2] at C
    refine v_aload_n C (oX0_readOperand.at 28 rfl) rfl ?_
    refine v_iload_n C (oX0_readOperand.at 29 rfl) rfl ?_
    refine v_callV C (oX0_readOperand.at 30 rfl) cX0_66 hF.o (k_emit hF (by omega) hs) rfl rfl rfl ⟨rfl, rfl⟩ rfl rfl (fun _ => rfl) (fun h' hp => ?_)
    dsimp only [Option.toList, List.cons_append, List.nil_append]
    obtain ⟨hE, hCE⟩ := hp
    have ke := k_endFactor (w := w) _ _ _ hE (by rw [List.length_cons]; omega)
    refine v_aload_n C (oX0_readOperand.at 31 rfl) rfl ?_
    refine v_callV C (oX0_readOperand.at 32 rfl) cX0_69 hE.o (ke) rfl rfl rfl ⟨rfl, rfl⟩ rfl rfl (fun _ => rfl) (fun h' hp => ?_)
    dsimp only [Option.toList, List.cons_append, List.nil_append]
    exact v_iret C (oX0_readOperand.at 33 rfl) rfl rfl ⟨Nat.le_refl _, Nat.le_refl _⟩ ⟨rfl, hp.1, hCE.tr hp.2⟩
  have mid : (¬ (97 ≤ s ∧ s ≤ 100 ∧ wd ≤ s - 97)) → V X (0, 0) w h 27 [some (.ref p), some (.int (nI s)), some (.int (nI wd))] [] := by
    intro n1
    have m2 : ¬ (48 ≤ s ∧ s ≤ 57) → V X (0, 0) w h 39 [some (.ref p), some (.int (nI s)), some (.int (nI wd))] [] := by
      intro n2
      refine v_iload_n C (oX0_readOperand.at 22 rfl) rfl ?_
      refine v_bipush C (oX0_readOperand.at 23 rfl) (v := nI 97) rfl ?_
      refine v_icmp_ltN C (oX0_readOperand.at 24 rfl) (tgt := 61) (by decide) (by omega) (by omega) (fun hc => ?_) (fun hc => ?_)
      · exact tail (by omega) n2
      · refine v_iload_n C (oX0_readOperand.at 25 rfl) rfl ?_
        refine v_bipush C (oX0_readOperand.at 26 rfl) (v := nI 100) rfl ?_
        refine v_icmp_gtN C (oX0_readOperand.at 27 rfl) (tgt := 61) (by decide) (by omega) (by omega) (fun hc => ?_) (fun hc => ?_)
        · exact tail (by omega) n2
        · exact emt n1 (by omega)
    refine v_iload_n C (oX0_readOperand.at 16 rfl) rfl ?_
    refine v_bipush C (oX0_readOperand.at 17 rfl) (v := nI 48) rfl ?_
    refine v_icmp_ltN C (oX0_readOperand.at 18 rfl) (tgt := 39) (by decide) (by omega) (by omega) (fun hc => ?_) (fun hc => ?_)
    · exact m2 (by omega)
    · refine v_iload_n C (oX0_readOperand.at 19 rfl) rfl ?_
      refine v_bipush C (oX0_readOperand.at 20 rfl) (v := nI 57) rfl ?_
      refine v_icmp_leN C (oX0_readOperand.at 21 rfl) (tgt := 51) (by decide) (by omega) (by omega) (fun hc => ?_) (fun hc => ?_)
      · exact emt n1 (by omega)
      · exact m2 (by omega)
  refine v_iload_n C (oX0_readOperand.at 0 rfl) rfl ?_
  refine v_bipush C (oX0_readOperand.at 1 rfl) (v := nI 97) rfl ?_
  refine v_icmp_ltN C (oX0_readOperand.at 2 rfl) (tgt := 27) (by decide) (by omega) (by omega) (fun hc => ?_) (fun hc => ?_)
  · exact mid (by omega)
  · refine v_iload_n C (oX0_readOperand.at 3 rfl) rfl ?_
    refine v_bipush C (oX0_readOperand.at 4 rfl) (v := nI 100) rfl ?_
    refine v_icmp_gtN C (oX0_readOperand.at 5 rfl) (tgt := 27) (by decide) (by omega) (by omega) (fun hc => ?_) (fun hc => ?_)
    · exact mid (by omega)
    · refine v_iload_n C (oX0_readOperand.at 6 rfl) rfl ?_
      refine v_bipush C (oX0_readOperand.at 7 rfl) (v := nI 97) rfl ?_
      refine v_isubN C (oX0_readOperand.at 8 rfl) (by omega) ?_
      refine v_iload_n C (oX0_readOperand.at 9 rfl) rfl ?_
      refine v_icmp_ltN C (oX0_readOperand.at 10 rfl) (tgt := 27) (by decide) (by omega) (by omega) (fun hc => ?_) (fun hc => ?_)
      · exact mid (by omega)
      · rw [if_pos (by omega)] at C
        refine v_aload_n C (oX0_readOperand.at 11 rfl) rfl ?_
        refine v_iconst C (oX0_readOperand.at 12 rfl) (v := nI 3) rfl ?_
        refine v_putI C (oX0_readOperand.at 13 rfl) fX0_13 p0_1 hF.o rfl ?_
        refine v_iconst C (oX0_readOperand.at 14 rfl) (v := nI 0) rfl ?_
        exact v_iret C (oX0_readOperand.at 15 rfl) rfl rfl ⟨Nat.le_refl _, Nat.le_refl _⟩ ⟨rfl, hF.fld, FmC.u _ (by omega) (by omega)⟩
def oprt (s : Nat) (c t : List Nat) : Ps :=
  if 0 < rk s then
    (if rk s = 1 ∧ rk ((mvO (max (rk s) 2) c t).2.headD 0) = 1 then (1, 0, (mvO (max (rk s) 2) c t).1, (mvO (max (rk s) 2) c t).2)
    else (0, 0, (mvO (max (rk s) 2) c t).1, s :: (mvO (max (rk s) 2) c t).2))
  else if s = 44 ∧ ((mvO 1 c t).2.headD 0 = 78 ∨ (mvO 1 c t).2.headD 0 = 88) then (0, 0, (mvO 1 c t).1, (if (mvO 1 c t).2.headD 0 = 78 then 110 else 120) :: (mvO 1 c t).2.tail)
  else if s = 41 ∧ ((mvO 1 c t).2.headD 0 = 40 ∨ (mvO 1 c t).2.headD 0 = 110 ∨ (mvO 1 c t).2.headD 0 = 120) then (0, 1, (endF (if (mvO 1 c t).2.headD 0 = 40 then (mvO 1 c t).1 else (mvO 1 c t).2.headD 0 :: (mvO 1 c t).1) (mvO 1 c t).2.tail).1, (endF (if (mvO 1 c t).2.headD 0 = 40 then (mvO 1 c t).1 else (mvO 1 c t).2.headD 0 :: (mvO 1 c t).1) (mvO 1 c t).2.tail).2)
  else (1, 0, (mvO 1 c t).1, (mvO 1 c t).2)
theorem hd_pos {l : List Nat} (h : 0 < l.headD 0) : 0 < l.length := by
  cases l with
  | nil => exact absurd h (by decide)
  | cons x l => rw [List.length_cons]; omega
theorem k_readOperator {w : Wt} {h : Hp} {p len s : Nat} {ep : Int32} {c t : List Nat} {tx : Nat → Nat} (hF : FmOK h p len 0 ep c t tx) (hl : c.length + t.length < 40) (hs : s < 128) : ConN mX0_readOperator 2 (0, 0) w [.ref p, .int (nI s)] h (.inl (some (.int (nI (oprt s c t).2.1)))) (PsOK h p len ep (oprt s c t) tx) := by
  have hrs := rk_le s
  unfold oprt
  refine conI (by decide +kernel) ⟨fun _ => rfl, rfl, by simp⟩ (fun X C => ?_)
  change V X (0, 0) w h 0 [some (.ref p), some (.int (nI s)), none, none] []
  refine v_iload_n C (oX0_readOperator.at 0 rfl) rfl ?_
  refine v_callS C (oX0_readOperator.at 1 rfl) cX0_72 (k_rankOf hs) rfl rfl rfl ⟨rfl, rfl⟩ rfl rfl (fun _ => rfl) (fun h' hp => ?_)
  rw [show h' = _ from hp]
  dsimp only [Option.toList, List.cons_append, List.nil_append]
  refine v_istore_n C (oX0_readOperator.at 2 rfl) rfl ?_
  dsimp only [sto1, sto2, killL]
  refine v_iload_n C (oX0_readOperator.at 3 rfl) rfl ?_
  refine v_if_leN C (oX0_readOperator.at 4 rfl) (tgt := 48) (by decide) (by omega) (fun hc => ?_) (fun hc => ?_)
  · rw [if_neg (by omega)] at C
    have hl2 := mvO_len 1 t c
    refine v_aload_n C (oX0_readOperator.at 26 rfl) rfl ?_
    refine v_iconst C (oX0_readOperator.at 27 rfl) (v := nI 1) rfl ?_
    refine v_callV C (oX0_readOperator.at 28 rfl) cX0_47 hF.o (k_moveOperators (by decide) _ _ _ hF (by omega)) rfl rfl rfl ⟨rfl, rfl⟩ rfl rfl (fun _ => rfl) (fun h' hp => ?_)
    dsimp only [Option.toList, List.cons_append, List.nil_append]
    obtain ⟨hM, hCM⟩ := hp
    obtain ⟨h1, rfl⟩ : ∃ x, x = h' := ⟨h', rfl⟩
    generalize (mvO 1 c t).1 = c1 at *
    generalize (mvO 1 c t).2 = t1 at *
    have hh := hM.bt.hd
    refine v_aload_n C (oX0_readOperator.at 29 rfl) rfl ?_
    refine v_callV C (oX0_readOperator.at 30 rfl) cX0_80 hM.o (k_lastWaiting hM (by omega)) rfl rfl rfl ⟨rfl, rfl⟩ rfl rfl (fun _ => rfl) (fun h' hp => ?_)
    rw [show h' = _ from hp]
    dsimp only [Option.toList, List.cons_append, List.nil_append]
    refine v_istore_n C (oX0_readOperator.at 31 rfl) rfl ?_
    dsimp only [sto1, sto2, killL]
    have ref : ¬ (s = 44 ∧ (t1.headD 0 = 78 ∨ t1.headD 0 = 88)) → ¬ (s = 41 ∧ (t1.headD 0 = 40 ∨ t1.headD 0 = 110 ∨ t1.headD 0 = 120)) → V X (0, 0) w h1 155 [some (.ref p), some (.int (nI s)), some (.int (nI (rk s))), some (.int (nI (t1.headD 0)))] [] := by
      intro n1 n2
      rw [if_neg n1, if_neg n2] at C
      refine v_aload_n C (oX0_readOperator.at 84 rfl) rfl ?_
      refine v_callV C (oX0_readOperator.at 85 rfl) cX0_59 hM.o (k_refuse hM) rfl rfl rfl ⟨rfl, rfl⟩ rfl rfl (fun _ => rfl) (fun h' hp => ?_)
      dsimp only [Option.toList, List.cons_append, List.nil_append]
      exact v_iret C (oX0_readOperator.at 86 rfl) rfl rfl ⟨Nat.le_refl _, Nat.le_refl _⟩ ⟨rfl, hp.1, hCM.tr hp.2⟩
    have com : s = 44 → (t1.headD 0 = 78 ∨ t1.headD 0 = 88) → V X (0, 0) w h1 76 [some (.ref p), some (.int (nI s)), some (.int (nI (rk s))), some (.int (nI (t1.headD 0)))] [] := by
      intro n1 n2
      rw [if_pos ⟨n1, n2⟩] at C
      have hpos := hd_pos (l := t1) (by omega)
      have hT := hM.tl hpos
      have htl := List.length_tail (l := t1)
      refine v_aload_n C (oX0_readOperator.at 41 rfl) rfl ?_
      refine v_dup C (oX0_readOperator.at 42 rfl) rfl ?_
      refine v_getf C (oX0_readOperator.at 43 rfl) fX0_40 hM.o rfl ?_
      refine v_iconst C (oX0_readOperator.at 44 rfl) (v := nI 1) rfl ?_
      refine v_isubN C (oX0_readOperator.at 45 rfl) (by omega) ?_
      refine v_putI C (oX0_readOperator.at 46 rfl) fX0_40 p0_7 hM.o rfl ?_
      change V X (0, 0) w (hu h1 p (FO p len 0 ep c1.length (t1.length - 1))) 86 [some (.ref p), some (.int (nI s)), some (.int (nI (rk s))), some (.int (nI (t1.headD 0)))] []
      have hC2 : FmC h p (hu h1 p (FO p len 0 ep c1.length (t1.length - 1))) := hCM.tr (FmC.u _ (by omega) (by omega))
      generalize hu h1 p (FO p len 0 ep c1.length (t1.length - 1)) = h2 at *
      refine v_aload_n C (oX0_readOperator.at 47 rfl) rfl ?_
      refine v_iload_n C (oX0_readOperator.at 48 rfl) rfl ?_
      refine v_bipush C (oX0_readOperator.at 49 rfl) (v := nI 78) rfl ?_
      refine v_icmp_neN C (oX0_readOperator.at 50 rfl) (tgt := 98) (by decide) (by omega) (by omega) (fun hc => ?_) (fun hc => ?_)
      · rw [if_neg hc] at C
        refine v_bipush C (oX0_readOperator.at 53 rfl) (v := nI 120) rfl ?_
        refine v_iconst C (oX0_readOperator.at 54 rfl) (v := nI 0) rfl ?_
        refine v_callV C (oX0_readOperator.at 55 rfl) cX0_63 hT.o (k_hold hT (by omega) (by decide)) rfl rfl rfl ⟨rfl, rfl⟩ rfl rfl (fun _ => rfl) (fun h' hp => ?_)
        dsimp only [Option.toList, List.cons_append, List.nil_append]
        exact v_iret C (oX0_readOperator.at 56 rfl) rfl rfl ⟨Nat.le_refl _, Nat.le_refl _⟩ ⟨rfl, hp.1, hC2.tr hp.2⟩
      · rw [if_pos (by omega)] at C
        refine v_bipush C (oX0_readOperator.at 51 rfl) (v := nI 110) rfl ?_
        refine v_goto C (oX0_readOperator.at 52 rfl) (tgt := 100) (by decide) ?_
        refine v_iconst C (oX0_readOperator.at 54 rfl) (v := nI 0) rfl ?_
        refine v_callV C (oX0_readOperator.at 55 rfl) cX0_63 hT.o (k_hold hT (by omega) (by decide)) rfl rfl rfl ⟨rfl, rfl⟩ rfl rfl (fun _ => rfl) (fun h' hp => ?_)
        dsimp only [Option.toList, List.cons_append, List.nil_append]
        exact v_iret C (oX0_readOperator.at 56 rfl) rfl rfl ⟨Nat.le_refl _, Nat.le_refl _⟩ ⟨rfl, hp.1, hC2.tr hp.2⟩
    have clos : s = 41 → (t1.headD 0 = 40 ∨ t1.headD 0 = 110 ∨ t1.headD 0 = 120) → V X (0, 0) w h1 129 [some (.ref p), some (.int (nI s)), some (.int (nI (rk s))), some (.int (nI (t1.headD 0)))] [] := by
      intro n1 n2
      rw [if_neg (by omega), if_pos ⟨n1, n2⟩] at C
      have hpos := hd_pos (l := t1) (by omega)
      have hT := hM.tl hpos
      have htl := List.length_tail (l := t1)
      refine v_aload_n C (oX0_readOperator.at 69 rfl) rfl ?_
      refine v_dup C (oX0_readOperator.at 70 rfl) rfl ?_
      refine v_getf C (oX0_readOperator.at 71 rfl) fX0_40 hM.o rfl ?_
      refine v_iconst C (oX0_readOperator.at 72 rfl) (v := nI 1) rfl ?_
      refine v_isubN C (oX0_readOperator.at 73 rfl) (by omega) ?_
      refine v_putI C (oX0_readOperator.at 74 rfl) fX0_40 p0_7 hM.o rfl ?_
      change V X (0, 0) w (hu h1 p (FO p len 0 ep c1.length (t1.length - 1))) 139 [some (.ref p), some (.int (nI s)), some (.int (nI (rk s))), some (.int (nI (t1.headD 0)))] []
      have hC2 : FmC h p (hu h1 p (FO p len 0 ep c1.length (t1.length - 1))) := hCM.tr (FmC.u _ (by omega) (by omega))
      generalize hu h1 p (FO p len 0 ep c1.length (t1.length - 1)) = h2 at *
      refine v_iload_n C (oX0_readOperator.at 75 rfl) rfl ?_
      refine v_bipush C (oX0_readOperator.at 76 rfl) (v := nI 40) rfl ?_
      refine v_icmp_eqN C (oX0_readOperator.at 77 rfl) (tgt := 150) (by decide) (by omega) (by omega) (fun hc => ?_) (fun hc => ?_)
      · rw [if_pos (by omega)] at C
        refine v_aload_n C (oX0_readOperator.at 81 rfl) rfl ?_
        refine v_callV C (oX0_readOperator.at 82 rfl) cX0_69 hT.o (k_endFactor _ _ _ hT (by omega)) rfl rfl rfl ⟨rfl, rfl⟩ rfl rfl (fun _ => rfl) (fun h' hp => ?_)
        dsimp only [Option.toList, List.cons_append, List.nil_append]
        exact v_iret C (oX0_readOperator.at 83 rfl) rfl rfl ⟨Nat.le_refl _, Nat.le_refl _⟩ ⟨rfl, hp.1, hC2.tr hp.2⟩
      · rw [if_neg hc] at C
        refine v_aload_n C (oX0_readOperator.at 78 rfl) rfl ?_
        refine v_iload_n C (oX0_readOperator.at 79 rfl) rfl ?_
        refine v_callV C (oX0_readOperator.at 80 rfl) cX0_66 hT.o (k_emit hT (by omega) hh) rfl rfl rfl ⟨rfl, rfl⟩ rfl rfl (fun _ => rfl) (fun h' hp => ?_)
        dsimp only [Option.toList, List.cons_append, List.nil_append]
        obtain ⟨hE, hCE⟩ := hp
        have ke := k_endFactor (w := w) _ _ _ hE (by rw [List.length_cons]; omega)
        refine v_aload_n C (oX0_readOperator.at 81 rfl) rfl ?_
        refine v_callV C (oX0_readOperator.at 82 rfl) cX0_69 hE.o (ke) rfl rfl rfl ⟨rfl, rfl⟩ rfl rfl (fun _ => rfl) (fun h' hp => ?_)
        dsimp only [Option.toList, List.cons_append, List.nil_append]
        exact v_iret C (oX0_readOperator.at 83 rfl) rfl rfl ⟨Nat.le_refl _, Nat.le_refl _⟩ ⟨rfl, hp.1, (hC2.tr hCE).tr hp.2⟩
    have clo1 : ¬ (s = 44 ∧ (t1.headD 0 = 78 ∨ t1.headD 0 = 88)) → V X (0, 0) w h1 105 [some (.ref p), some (.int (nI s)), some (.int (nI (rk s))), some (.int (nI (t1.headD 0)))] [] := by
      intro n1
      refine v_iload_n C (oX0_readOperator.at 57 rfl) rfl ?_
      refine v_bipush C (oX0_readOperator.at 58 rfl) (v := nI 41) rfl ?_
      refine v_icmp_neN C (oX0_readOperator.at 59 rfl) (tgt := 155) (by decide) (by omega) (by omega) (fun hc => ?_) (fun hc => ?_)
      · exact ref n1 (by omega)
      · refine v_iload_n C (oX0_readOperator.at 60 rfl) rfl ?_
        refine v_bipush C (oX0_readOperator.at 61 rfl) (v := nI 40) rfl ?_
        refine v_icmp_eqN C (oX0_readOperator.at 62 rfl) (tgt := 129) (by decide) (by omega) (by omega) (fun hc => ?_) (fun hc => ?_)
        · exact clos (by omega) (by omega)
        · refine v_iload_n C (oX0_readOperator.at 63 rfl) rfl ?_
          refine v_bipush C (oX0_readOperator.at 64 rfl) (v := nI 110) rfl ?_
          refine v_icmp_eqN C (oX0_readOperator.at 65 rfl) (tgt := 129) (by decide) (by omega) (by omega) (fun hc => ?_) (fun hc => ?_)
          · exact clos (by omega) (by omega)
          · refine v_iload_n C (oX0_readOperator.at 66 rfl) rfl ?_
            refine v_bipush C (oX0_readOperator.at 67 rfl) (v := nI 120) rfl ?_
            refine v_icmp_neN C (oX0_readOperator.at 68 rfl) (tgt := 155) (by decide) (by omega) (by omega) (fun hc => ?_) (fun hc => ?_)
            · exact ref n1 (by omega)
            · exact clos (by omega) (by omega)
    refine v_iload_n C (oX0_readOperator.at 32 rfl) rfl ?_
    refine v_bipush C (oX0_readOperator.at 33 rfl) (v := nI 44) rfl ?_
    refine v_icmp_neN C (oX0_readOperator.at 34 rfl) (tgt := 105) (by decide) (by omega) (by omega) (fun hc => ?_) (fun hc => ?_)
    · exact clo1 (by omega)
    · refine v_iload_n C (oX0_readOperator.at 35 rfl) rfl ?_
      refine v_bipush C (oX0_readOperator.at 36 rfl) (v := nI 78) rfl ?_
      refine v_icmp_eqN C (oX0_readOperator.at 37 rfl) (tgt := 76) (by decide) (by omega) (by omega) (fun hc => ?_) (fun hc => ?_)
      · exact com (by omega) (by omega)
      · refine v_iload_n C (oX0_readOperator.at 38 rfl) rfl ?_
        refine v_bipush C (oX0_readOperator.at 39 rfl) (v := nI 88) rfl ?_
        refine v_icmp_neN C (oX0_readOperator.at 40 rfl) (tgt := 105) (by decide) (by omega) (by omega) (fun hc => ?_) (fun hc => ?_)
        · exact clo1 (by omega)
        · exact com (by omega) (by omega)
  · rw [if_pos (by omega)] at C
    have hl2 := mvO_len (max (rk s) 2) t c
    have km := k_moveOperators (w := w) (r := max (rk s) 2) (by omega) _ _ _ hF (by omega)
    refine v_aload_n C (oX0_readOperator.at 5 rfl) rfl ?_
    refine v_iload_n C (oX0_readOperator.at 6 rfl) rfl ?_
    refine v_iconst C (oX0_readOperator.at 7 rfl) (v := nI 2) rfl ?_
    refine v_callS C (oX0_readOperator.at 8 rfl) cX0_75 (k_max (by omega) (by omega)) rfl rfl rfl ⟨rfl, rfl⟩ rfl rfl (fun _ => rfl) (fun h' hp => ?_)
    rw [show h' = _ from hp]
    dsimp only [Option.toList, List.cons_append, List.nil_append]
    refine v_callV C (oX0_readOperator.at 9 rfl) cX0_47 hF.o (km) rfl rfl rfl ⟨rfl, rfl⟩ rfl rfl (fun _ => rfl) (fun h' hp => ?_)
    dsimp only [Option.toList, List.cons_append, List.nil_append]
    obtain ⟨hM, hCM⟩ := hp
    obtain ⟨h1, rfl⟩ : ∃ x, x = h' := ⟨h', rfl⟩
    generalize (mvO (max (rk s) 2) c t).1 = c1 at *
    generalize (mvO (max (rk s) 2) c t).2 = t1 at *
    have hh := hM.bt.hd
    have hrh := rk_le (t1.headD 0)
    have hol : ¬ (rk s = 1 ∧ rk (t1.headD 0) = 1) → V X (0, 0) w h1 41 [some (.ref p), some (.int (nI s)), some (.int (nI (rk s))), none] [] := by
      intro n1
      rw [if_neg n1] at C
      refine v_aload_n C (oX0_readOperator.at 21 rfl) rfl ?_
      refine v_iload_n C (oX0_readOperator.at 22 rfl) rfl ?_
      refine v_iconst C (oX0_readOperator.at 23 rfl) (v := nI 0) rfl ?_
      refine v_callV C (oX0_readOperator.at 24 rfl) cX0_63 hM.o (k_hold hM (by omega) hs) rfl rfl rfl ⟨rfl, rfl⟩ rfl rfl (fun _ => rfl) (fun h' hp => ?_)
      dsimp only [Option.toList, List.cons_append, List.nil_append]
      exact v_iret C (oX0_readOperator.at 25 rfl) rfl rfl ⟨Nat.le_refl _, Nat.le_refl _⟩ ⟨rfl, hp.1, hCM.tr hp.2⟩
    refine v_iload_n C (oX0_readOperator.at 10 rfl) rfl ?_
    refine v_iconst C (oX0_readOperator.at 11 rfl) (v := nI 1) rfl ?_
    refine v_icmp_neN C (oX0_readOperator.at 12 rfl) (tgt := 41) (by decide) (by omega) (by omega) (fun hc => ?_) (fun hc => ?_)
    · exact hol (by omega)
    · refine v_aload_n C (oX0_readOperator.at 13 rfl) rfl ?_
      refine v_callV C (oX0_readOperator.at 14 rfl) cX0_80 hM.o (k_lastWaiting hM (by omega)) rfl rfl rfl ⟨rfl, rfl⟩ rfl rfl (fun _ => rfl) (fun h' hp => ?_)
      rw [show h' = _ from hp]
      dsimp only [Option.toList, List.cons_append, List.nil_append]
      refine v_callS C (oX0_readOperator.at 15 rfl) cX0_72 (k_rankOf hh) rfl rfl rfl ⟨rfl, rfl⟩ rfl rfl (fun _ => rfl) (fun h' hp => ?_)
      rw [show h' = _ from hp]
      dsimp only [Option.toList, List.cons_append, List.nil_append]
      refine v_iconst C (oX0_readOperator.at 16 rfl) (v := nI 1) rfl ?_
      refine v_icmp_neN C (oX0_readOperator.at 17 rfl) (tgt := 41) (by decide) (by omega) (by omega) (fun hc => ?_) (fun hc => ?_)
      · exact hol (by omega)
      · rw [if_pos (by omega)] at C
        refine v_aload_n C (oX0_readOperator.at 18 rfl) rfl ?_
        refine v_callV C (oX0_readOperator.at 19 rfl) cX0_59 hM.o (k_refuse hM) rfl rfl rfl ⟨rfl, rfl⟩ rfl rfl (fun _ => rfl) (fun h' hp => ?_)
        dsimp only [Option.toList, List.cons_append, List.nil_append]
        refine v_goto C (oX0_readOperator.at 20 rfl) (tgt := 47) (by decide) ?_
        exact v_iret C (oX0_readOperator.at 25 rfl) rfl rfl ⟨Nat.le_refl _, Nat.le_refl _⟩ ⟨rfl, hp.1, hCM.tr hp.2⟩
def sgn (due s wd : Nat) (c t : List Nat) : Ps :=
  if due = 0 then opnd s wd c t
  else if due = 1 then oprt s c t
  else if due = 2 then (if s = 105 then (0, 3, c, t) else if s = 97 then (0, 4, c, t) else (1, 0, c, t))
  else if due = 3 then (if s = 110 then (0, 5, c, 78 :: t) else (1, 0, c, t))
  else if due = 4 then (if s = 120 then (0, 5, c, 88 :: t) else (1, 0, c, t))
  else (if s = 40 then (0, 0, c, t) else (1, 0, c, t))
theorem k_readSign {w : Wt} {h : Hp} {p len due s wd : Nat} {ep : Int32} {c t : List Nat} {tx : Nat → Nat} (hF : FmOK h p len 0 ep c t tx) (hd : due ≤ 5) (hl : c.length + t.length < 40) (hs : s < 128) (hw : wd < 128) : ConN mX0_readSign 3 (0, 0) w [.ref p, .int (nI due), .int (nI s), .int (nI wd)] h (.inl (some (.int (nI (sgn due s wd c t).2.1)))) (PsOK h p len ep (sgn due s wd c t) tx) := by
  unfold sgn
  refine conI (by decide +kernel) ⟨fun _ => rfl, rfl, by simp⟩ (fun X C => ?_)
  change V X (0, 0) w h 0 [some (.ref p), some (.int (nI due)), some (.int (nI s)), some (.int (nI wd))] []
  refine v_iload_n C (oX0_readSign.at 0 rfl) rfl ?_
  have hcs : due = 0 ∨ due = 1 ∨ due = 2 ∨ due = 3 ∨ due = 4 ∨ due = 5 := by omega
  rcases hcs with rfl | rfl | rfl | rfl | rfl | rfl
  · rw [if_pos rfl] at C
    refine v_tableIn C (oX0_readSign.at 1 rfl) (by decide) (by decide) (off := 35) (tgt := 36) (by decide) (by decide) ?_
    refine v_aload_n C (oX0_readSign.at 2 rfl) rfl ?_
    refine v_iload_n C (oX0_readSign.at 3 rfl) rfl ?_
    refine v_iload_n C (oX0_readSign.at 4 rfl) rfl ?_
    refine v_callV C (oX0_readSign.at 5 rfl) cX0_51 hF.o (k_readOperand hF hl hs hw) rfl rfl rfl ⟨rfl, rfl⟩ rfl rfl (fun _ => rfl) (fun h' hp => ?_)
    dsimp only [Option.toList, List.cons_append, List.nil_append]
    exact v_iret C (oX0_readSign.at 6 rfl) rfl rfl ⟨Nat.le_refl _, Nat.le_refl _⟩ ⟨rfl, hp⟩
  · rw [if_neg (by decide), if_pos rfl] at C
    refine v_tableIn C (oX0_readSign.at 1 rfl) (by decide) (by decide) (off := 42) (tgt := 43) (by decide) (by decide) ?_
    refine v_aload_n C (oX0_readSign.at 7 rfl) rfl ?_
    refine v_iload_n C (oX0_readSign.at 8 rfl) rfl ?_
    refine v_callV C (oX0_readSign.at 9 rfl) cX0_55 hF.o (k_readOperator hF hl hs) rfl rfl rfl ⟨rfl, rfl⟩ rfl rfl (fun _ => rfl) (fun h' hp => ?_)
    dsimp only [Option.toList, List.cons_append, List.nil_append]
    exact v_iret C (oX0_readSign.at 10 rfl) rfl rfl ⟨Nat.le_refl _, Nat.le_refl _⟩ ⟨rfl, hp⟩
  · rw [if_neg (by decide), if_neg (by decide), if_pos rfl] at C
    refine v_tableIn C (oX0_readSign.at 1 rfl) (by decide) (by decide) (off := 48) (tgt := 49) (by decide) (by decide) ?_
    refine v_iload_n C (oX0_readSign.at 11 rfl) rfl ?_
    refine v_bipush C (oX0_readSign.at 12 rfl) (v := nI 105) rfl ?_
    refine v_icmp_neN C (oX0_readSign.at 13 rfl) (tgt := 59) (by decide) (by omega) (by omega) (fun hc => ?_) (fun hc => ?_)
    · rw [if_neg hc] at C
      refine v_iload_n C (oX0_readSign.at 16 rfl) rfl ?_
      refine v_bipush C (oX0_readSign.at 17 rfl) (v := nI 97) rfl ?_
      refine v_icmp_neN C (oX0_readSign.at 18 rfl) (tgt := 69) (by decide) (by omega) (by omega) (fun hc => ?_) (fun hc => ?_)
      · rw [if_neg hc] at C
        refine v_aload_n C (oX0_readSign.at 21 rfl) rfl ?_
        refine v_callV C (oX0_readSign.at 22 rfl) cX0_59 hF.o (k_refuse hF) rfl rfl rfl ⟨rfl, rfl⟩ rfl rfl (fun _ => rfl) (fun h' hp => ?_)
        dsimp only [Option.toList, List.cons_append, List.nil_append]
        exact v_iret C (oX0_readSign.at 23 rfl) rfl rfl ⟨Nat.le_refl _, Nat.le_refl _⟩ ⟨rfl, hp⟩
      · rw [if_pos (by omega)] at C
        refine v_iconst C (oX0_readSign.at 19 rfl) (v := nI 4) rfl ?_
        refine v_goto C (oX0_readSign.at 20 rfl) (tgt := 73) (by decide) ?_
        exact v_iret C (oX0_readSign.at 23 rfl) rfl rfl ⟨Nat.le_refl _, Nat.le_refl _⟩ ⟨rfl, hF, FmC.rf _ _⟩
    · rw [if_pos (by omega)] at C
      refine v_iconst C (oX0_readSign.at 14 rfl) (v := nI 3) rfl ?_
      refine v_goto C (oX0_readSign.at 15 rfl) (tgt := 73) (by decide) ?_
      exact v_iret C (oX0_readSign.at 23 rfl) rfl rfl ⟨Nat.le_refl _, Nat.le_refl _⟩ ⟨rfl, hF, FmC.rf _ _⟩
  · rw [if_neg (by decide), if_neg (by decide), if_neg (by decide), if_pos rfl] at C
    refine v_tableIn C (oX0_readSign.at 1 rfl) (by decide) (by decide) (off := 73) (tgt := 74) (by decide) (by decide) ?_
    refine v_iload_n C (oX0_readSign.at 24 rfl) rfl ?_
    refine v_bipush C (oX0_readSign.at 25 rfl) (v := nI 110) rfl ?_
    refine v_icmp_neN C (oX0_readSign.at 26 rfl) (tgt := 90) (by decide) (by omega) (by omega) (fun hc => ?_) (fun hc => ?_)
    · rw [if_neg hc] at C
      refine v_aload_n C (oX0_readSign.at 32 rfl) rfl ?_
      refine v_callV C (oX0_readSign.at 33 rfl) cX0_59 hF.o (k_refuse hF) rfl rfl rfl ⟨rfl, rfl⟩ rfl rfl (fun _ => rfl) (fun h' hp => ?_)
      dsimp only [Option.toList, List.cons_append, List.nil_append]
      exact v_iret C (oX0_readSign.at 34 rfl) rfl rfl ⟨Nat.le_refl _, Nat.le_refl _⟩ ⟨rfl, hp⟩
    · rw [if_pos (by omega)] at C
      refine v_aload_n C (oX0_readSign.at 27 rfl) rfl ?_
      refine v_bipush C (oX0_readSign.at 28 rfl) (v := nI 78) rfl ?_
      refine v_iconst C (oX0_readSign.at 29 rfl) (v := nI 5) rfl ?_
      refine v_callV C (oX0_readSign.at 30 rfl) cX0_63 hF.o (k_hold hF (by omega) (by decide)) rfl rfl rfl ⟨rfl, rfl⟩ rfl rfl (fun _ => rfl) (fun h' hp => ?_)
      dsimp only [Option.toList, List.cons_append, List.nil_append]
      refine v_goto C (oX0_readSign.at 31 rfl) (tgt := 94) (by decide) ?_
      exact v_iret C (oX0_readSign.at 34 rfl) rfl rfl ⟨Nat.le_refl _, Nat.le_refl _⟩ ⟨rfl, hp⟩
  · rw [if_neg (by decide), if_neg (by decide), if_neg (by decide), if_neg (by decide), if_pos rfl] at C
    refine v_tableIn C (oX0_readSign.at 1 rfl) (by decide) (by decide) (off := 94) (tgt := 95) (by decide) (by decide) ?_
    refine v_iload_n C (oX0_readSign.at 35 rfl) rfl ?_
    refine v_bipush C (oX0_readSign.at 36 rfl) (v := nI 120) rfl ?_
    refine v_icmp_neN C (oX0_readSign.at 37 rfl) (tgt := 111) (by decide) (by omega) (by omega) (fun hc => ?_) (fun hc => ?_)
    · rw [if_neg hc] at C
      refine v_aload_n C (oX0_readSign.at 43 rfl) rfl ?_
      refine v_callV C (oX0_readSign.at 44 rfl) cX0_59 hF.o (k_refuse hF) rfl rfl rfl ⟨rfl, rfl⟩ rfl rfl (fun _ => rfl) (fun h' hp => ?_)
      dsimp only [Option.toList, List.cons_append, List.nil_append]
      exact v_iret C (oX0_readSign.at 45 rfl) rfl rfl ⟨Nat.le_refl _, Nat.le_refl _⟩ ⟨rfl, hp⟩
    · rw [if_pos (by omega)] at C
      refine v_aload_n C (oX0_readSign.at 38 rfl) rfl ?_
      refine v_bipush C (oX0_readSign.at 39 rfl) (v := nI 88) rfl ?_
      refine v_iconst C (oX0_readSign.at 40 rfl) (v := nI 5) rfl ?_
      refine v_callV C (oX0_readSign.at 41 rfl) cX0_63 hF.o (k_hold hF (by omega) (by decide)) rfl rfl rfl ⟨rfl, rfl⟩ rfl rfl (fun _ => rfl) (fun h' hp => ?_)
      dsimp only [Option.toList, List.cons_append, List.nil_append]
      refine v_goto C (oX0_readSign.at 42 rfl) (tgt := 115) (by decide) ?_
      exact v_iret C (oX0_readSign.at 45 rfl) rfl rfl ⟨Nat.le_refl _, Nat.le_refl _⟩ ⟨rfl, hp⟩
  · rw [if_neg (by decide), if_neg (by decide), if_neg (by decide), if_neg (by decide), if_neg (by decide)] at C
    refine v_tableOut C (oX0_readSign.at 1 rfl) (by decide) (tgt := 116) (by decide) ?_
    refine v_iload_n C (oX0_readSign.at 46 rfl) rfl ?_
    refine v_bipush C (oX0_readSign.at 47 rfl) (v := nI 40) rfl ?_
    refine v_icmp_neN C (oX0_readSign.at 48 rfl) (tgt := 126) (by decide) (by omega) (by omega) (fun hc => ?_) (fun hc => ?_)
    · rw [if_neg hc] at C
      refine v_aload_n C (oX0_readSign.at 51 rfl) rfl ?_
      refine v_callV C (oX0_readSign.at 52 rfl) cX0_59 hF.o (k_refuse hF) rfl rfl rfl ⟨rfl, rfl⟩ rfl rfl (fun _ => rfl) (fun h' hp => ?_)
      dsimp only [Option.toList, List.cons_append, List.nil_append]
      exact v_iret C (oX0_readSign.at 53 rfl) rfl rfl ⟨Nat.le_refl _, Nat.le_refl _⟩ ⟨rfl, hp⟩
    · rw [if_pos (by omega)] at C
      refine v_iconst C (oX0_readSign.at 49 rfl) (v := nI 0) rfl ?_
      refine v_goto C (oX0_readSign.at 50 rfl) (tgt := 130) (by decide) ?_
      exact v_iret C (oX0_readSign.at 53 rfl) rfl rfl ⟨Nat.le_refl _, Nat.le_refl _⟩ ⟨rfl, hF, FmC.rf _ _⟩
theorem sgn_len {due s wd : Nat} {c t : List Nat} : (sgn due s wd c t).2.2.1.length + (sgn due s wd c t).2.2.2.length ≤ c.length + t.length + 1 := by
  have he : ∀ c t, (endF c t).1.length + (endF c t).2.length = c.length + t.length := fun c t => endF_len t c
  have hm : ∀ r c t, (mvO r c t).1.length + (mvO r c t).2.length = c.length + t.length := fun r c t => mvO_len r t c
  unfold sgn
  split
  · unfold opnd
    repeat' split
    all_goals ((try rw [he]); (try simp only [List.length_cons]); (try omega))
  · split
    · unfold oprt
      have h1 := hm (max (rk s) 2) c t
      have h2 := hm 1 c t
      generalize (mvO (max (rk s) 2) c t).1 = c1 at *
      generalize (mvO (max (rk s) 2) c t).2 = t1 at *
      generalize (mvO 1 c t).1 = c2 at *
      generalize (mvO 1 c t).2 = t2 at *
      have h3 := List.length_tail (l := t2)
      split
      · split
        · dsimp only; omega
        · dsimp only; simp only [List.length_cons]; omega
      · split
        · dsimp only; simp only [List.length_cons]; omega
        · split
          · dsimp only
            rw [he]
            split
            · omega
            · simp only [List.length_cons]
              omega
          · dsimp only; omega
    · repeat' split
      all_goals ((try simp only [List.length_cons]); (try omega))
theorem sgn_due {due s wd : Nat} {c t : List Nat} : (sgn due s wd c t).2.1 ≤ 5 := by
  unfold sgn opnd oprt
  repeat' split
  all_goals (dsimp only; (try omega))
theorem sgn_err {due s wd : Nat} {c t : List Nat} : (sgn due s wd c t).1 ≤ 3 := by
  unfold sgn opnd oprt
  repeat' split
  all_goals (dsimp only; (try omega))
/-- the whole reading: the error, its place, the code, what still waits -/
abbrev Rr := Nat × Int32 × List Nat × List Nat
def rdE (len due : Nat) (m : List Nat × List Nat) : Rr := if due ≠ 1 ∨ m.2 ≠ [] then (2, nI len, m.1, m.2) else (0, -1, m.1, m.2)
def rdG (tx : Nat → Nat) (wd len : Nat) : Nat → Nat → Nat → List Nat → List Nat → Rr
  | 0, _, due, c, t => rdE len due (mvO 1 c t)
  | d + 1, i, due, c, t => if (sgn due (tx i) wd c t).1 ≠ 0 then ((sgn due (tx i) wd c t).1, nI i, (sgn due (tx i) wd c t).2.2.1, (sgn due (tx i) wd c t).2.2.2) else rdG tx wd len d (i + 1) (sgn due (tx i) wd c t).2.1 (sgn due (tx i) wd c t).2.2.1 (sgn due (tx i) wd c t).2.2.2
theorem k_read {w : Wt} {h : Hp} {p len ek wd : Nat} {ep : Int32} {c0 t0 : List Nat} {tx : Nat → Nat} (hF : FmOK h p len ek ep c0 t0 tx) (hlen : len ≤ 40) (htx : ∀ i, i < len → tx i < 128) (hw : wd < 128) : ConN mX0_read 4 (0, 0) w [.ref p, .int (nI wd)] h (.inl none) (fun h' => FmOK h' p len (rdG tx wd len len 0 0 [] []).1 (rdG tx wd len len 0 0 [] []).2.1 (rdG tx wd len len 0 0 [] []).2.2.1 (rdG tx wd len len 0 0 [] []).2.2.2 tx ∧ FmC h p h') := by
  obtain ⟨f1, f2, f3, f4, f5, a0, a1, a2, a3, a4, a5, a6, a7, a8, a9, a10⟩ := id hF
  refine conI (by decide +kernel) ⟨fun _ => rfl, rfl, by simp⟩ (fun X C => ?_)
  change V X (0, 0) w h 0 [some (.ref p), some (.int (nI wd)), none, none] []
  refine v_aload_n C (oX0_read.at 0 rfl) rfl ?_
  refine v_iconst C (oX0_read.at 1 rfl) (v := nI 0) rfl ?_
  refine v_putI C (oX0_read.at 2 rfl) fX0_13 p0_1 a0 rfl ?_
  refine v_aload_n C (oX0_read.at 3 rfl) rfl ?_
  refine v_iconst C (oX0_read.at 4 rfl) (v := -1) rfl ?_
  refine v_putI C (oX0_read.at 5 rfl) fX0_16 p0_2 (hu_s _ _ _) rfl ?_
  rw [hu_hu]
  refine v_aload_n C (oX0_read.at 6 rfl) rfl ?_
  refine v_iconst C (oX0_read.at 7 rfl) (v := nI 0) rfl ?_
  refine v_putI C (oX0_read.at 8 rfl) fX0_37 p0_5 (hu_s _ _ _) rfl ?_
  rw [hu_hu]
  refine v_aload_n C (oX0_read.at 9 rfl) rfl ?_
  refine v_iconst C (oX0_read.at 10 rfl) (v := nI 0) rfl ?_
  refine v_putI C (oX0_read.at 11 rfl) fX0_40 p0_7 (hu_s _ _ _) rfl ?_
  rw [hu_hu]
  change V X (0, 0) w (hu h p (FO p len 0 (-1) 0 0)) 20 [some (.ref p), some (.int (nI wd)), none, none] []
  have hF1 : FmOK (hu h p (FO p len 0 (-1) 0 0)) p len 0 (-1) [] [] tx := ⟨f1, f2, f3, f4, f5, hu_s _ _ _, (hu_n _ _ (by omega)).trans a1, a2, (hu_n _ _ (by omega)).trans a3, LA.nil _, fun x hx => (by cases hx), (hu_n _ _ (by omega)).trans a6, LA.nil _, fun x hx => (by cases hx), (hu_n _ _ (by omega)).trans a9, (hu_n _ _ (by omega)).trans a10⟩
  have hC1 : FmC h p (hu h p (FO p len 0 (-1) 0 0)) := FmC.u _ (by omega) (by omega)
  generalize hu h p (FO p len 0 (-1) 0 0) = h1 at *
  refine v_iconst C (oX0_read.at 12 rfl) (v := nI 0) rfl ?_
  refine v_istore_n C (oX0_read.at 13 rfl) rfl ?_
  refine v_iconst C (oX0_read.at 14 rfl) (v := nI 0) rfl ?_
  refine v_istore_n C (oX0_read.at 15 rfl) rfl ?_
  dsimp only [sto1, sto2, killL]
  suffices H : ∀ d i due c t h1, i + d = len → due ≤ 5 → c.length + t.length ≤ i → FmOK h1 p len 0 (-1) c t tx → FmC h p h1 → rdG tx wd len d i due c t = rdG tx wd len len 0 0 [] [] → V X (0, 0) w h1 24 [some (.ref p), some (.int (nI wd)), some (.int (nI due)), some (.int (nI i))] [] by
    exact H len 0 0 [] [] h1 (by omega) (by omega) (Nat.le_refl _) hF1 hC1 rfl
  clear hF1 hC1 h1 hF a0 a1 a2 a3 a4 a5 a6 a7 a8 a9 a10
  intro d
  induction d with
  | zero =>
    intro i due c t h1 hid hdu hl hF hC he
    rw [← he, rdG] at C
    have hl2 := mvO_len 1 t c
    refine v_iload_n C (oX0_read.at 16 rfl) rfl ?_
    refine v_aload_n C (oX0_read.at 17 rfl) rfl ?_
    refine v_getf C (oX0_read.at 18 rfl) fX0_7 hF.o rfl ?_
    refine v_icmp_geN C (oX0_read.at 19 rfl) (tgt := 64) (by decide) (by omega) (by omega) (fun hc => ?_) (fun hc => ?_)
    · refine v_aload_n C (oX0_read.at 38 rfl) rfl ?_
      refine v_iconst C (oX0_read.at 39 rfl) (v := nI 1) rfl ?_
      refine v_callV C (oX0_read.at 40 rfl) cX0_47 hF.o (k_moveOperators (by decide) _ _ _ hF (by omega)) rfl rfl rfl ⟨rfl, rfl⟩ rfl rfl (fun _ => rfl) (fun h' hp => ?_)
      dsimp only [Option.toList, List.cons_append, List.nil_append]
      obtain ⟨hM, hCM⟩ := hp
      generalize mvO 1 c t = m at *
      have hln : m.2.length ≠ 0 ↔ m.2 ≠ [] := by
        cases m.2 with
        | nil => exact ⟨fun q => absurd rfl q, fun q => absurd rfl q⟩
        | cons x l => exact ⟨fun _ q => (by cases q), fun _ => (by rw [List.length_cons]; omega)⟩
      have err : (due ≠ 1 ∨ m.2 ≠ []) → V X (0, 0) w h' 81 [some (.ref p), some (.int (nI wd)), some (.int (nI due)), some (.int (nI i))] [] := by
        intro n1
        unfold rdE at C
        rw [if_pos n1] at C
        refine v_aload_n C (oX0_read.at 47 rfl) rfl ?_
        refine v_iconst C (oX0_read.at 48 rfl) (v := nI 2) rfl ?_
        refine v_putI C (oX0_read.at 49 rfl) fX0_13 p0_1 hM.o rfl ?_
        refine v_aload_n C (oX0_read.at 50 rfl) rfl ?_
        refine v_aload_n C (oX0_read.at 51 rfl) rfl ?_
        refine v_getf C (oX0_read.at 52 rfl) fX0_7 (hu_s _ _ _) rfl ?_
        refine v_putI C (oX0_read.at 53 rfl) fX0_16 p0_2 (hu_s _ _ _) rfl ?_
        rw [hu_hu]
        exact v_vret C (oX0_read.at 54 rfl) rfl rfl ⟨Nat.le_refl _, Nat.le_refl _⟩ ⟨rfl, hM.fld, (hC.tr hCM).tr (FmC.u _ (by omega) (by omega))⟩
      refine v_iload_n C (oX0_read.at 41 rfl) rfl ?_
      refine v_iconst C (oX0_read.at 42 rfl) (v := nI 1) rfl ?_
      refine v_icmp_neN C (oX0_read.at 43 rfl) (tgt := 81) (by decide) (by omega) (by omega) (fun hc => ?_) (fun hc => ?_)
      · exact err (Or.inl hc)
      · refine v_aload_n C (oX0_read.at 44 rfl) rfl ?_
        refine v_getf C (oX0_read.at 45 rfl) fX0_40 hM.o rfl ?_
        refine v_if_eqN C (oX0_read.at 46 rfl) (tgt := 94) (by decide) (by omega) (fun hc => ?_) (fun hc => ?_)
        · unfold rdE at C
          rw [if_neg (by
            intro q
            rcases q with q | q
            · exact q (by omega)
            · exact hln.mpr q hc)] at C
          exact v_vret C (oX0_read.at 54 rfl) rfl rfl ⟨Nat.le_refl _, Nat.le_refl _⟩ ⟨rfl, hM, hC.tr hCM⟩
        · exact err (Or.inr (hln.mp hc))
    · exact absurd hc (by omega)
  | succ d ih =>
    intro i due c t h1 hid hdu hl hF hC he
    rw [rdG] at he
    have hs := htx i (by omega)
    have hl2 := sgn_len (due := due) (s := tx i) (wd := wd) (c := c) (t := t)
    have hd2 := sgn_due (due := due) (s := tx i) (wd := wd) (c := c) (t := t)
    have he2 := sgn_err (due := due) (s := tx i) (wd := wd) (c := c) (t := t)
    have kr := k_readSign (w := w) (due := due) (s := tx i) hF hdu (by omega) hs hw
    obtain ⟨f1, f2, f3, f4, f5, a0, a1, a2, -⟩ := id hF
    have hti := a2 i (by omega)
    refine v_iload_n C (oX0_read.at 16 rfl) rfl ?_
    refine v_aload_n C (oX0_read.at 17 rfl) rfl ?_
    refine v_getf C (oX0_read.at 18 rfl) fX0_7 hF.o rfl ?_
    refine v_icmp_geN C (oX0_read.at 19 rfl) (tgt := 64) (by decide) (by omega) (by omega) (fun hc => ?_) (fun hc => ?_)
    · exact absurd hc (by omega)
    · refine v_aload_n C (oX0_read.at 20 rfl) rfl ?_
      refine v_iload_n C (oX0_read.at 21 rfl) rfl ?_
      refine v_aload_n C (oX0_read.at 22 rfl) rfl ?_
      refine v_getf C (oX0_read.at 23 rfl) fX0_19 hF.o rfl ?_
      refine v_iload_n C (oX0_read.at 24 rfl) rfl ?_
      refine v_iald C (oX0_read.at 25 rfl) a1 (by decide) rfl (by omega) hti ?_
      refine v_iload_n C (oX0_read.at 26 rfl) rfl ?_
      refine v_callV C (oX0_read.at 27 rfl) cX0_43 hF.o (kr) rfl rfl rfl ⟨rfl, rfl⟩ rfl rfl (fun _ => rfl) (fun h' hp => ?_)
      dsimp only [Option.toList, List.cons_append, List.nil_append]
      obtain ⟨hM, hCM⟩ := hp
      generalize sgn due (tx i) wd c t = S at *
      refine v_istore_n C (oX0_read.at 28 rfl) rfl ?_
      refine v_aload_n C (oX0_read.at 29 rfl) rfl ?_
      refine v_getf C (oX0_read.at 30 rfl) fX0_13 hM.o rfl ?_
      dsimp only [sto1, sto2, killL]
      refine v_if_eqN C (oX0_read.at 31 rfl) (tgt := 58) (by decide) (by omega) (fun hc => ?_) (fun hc => ?_)
      · rw [if_neg (fun q => q hc)] at he
        rw [hc] at hM
        refine v_iincN C (oX0_read.at 36 rfl) rfl ?_
        refine v_goto C (oX0_read.at 37 rfl) (tgt := 24) (by decide) ?_
        dsimp only [sto1, sto2, killL]
        exact ih (i + 1) S.2.1 S.2.2.1 S.2.2.2 h' (by omega) hd2 (by omega) hM (hC.tr hCM) he
      · rw [if_pos hc] at he
        rw [← he] at C
        refine v_aload_n C (oX0_read.at 32 rfl) rfl ?_
        refine v_iload_n C (oX0_read.at 33 rfl) rfl ?_
        refine v_putI C (oX0_read.at 34 rfl) fX0_16 p0_2 hM.o rfl ?_
        exact v_vret C (oX0_read.at 35 rfl) rfl rfl ⟨Nat.le_refl _, Nat.le_refl _⟩ ⟨rfl, hM.fld, (hC.tr hCM).tr (FmC.u _ (by omega) (by omega))⟩
