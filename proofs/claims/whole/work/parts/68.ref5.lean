/-! ===== the reference's methods: numbers, registers ===== -/
theorem k9_numberOf {w : Wt} {G h : Hp} {th : Nat} {S Z : Sc} {sv : Bool} {F : Sf} {q : Nat} {f : Nat → Int32} {T0 : Nat → Nat} (hR : RF G h th S sv Z F) (hq : h q = io 27 f) (hT : TOK S f T0) : ConN mX9_numberOf 2 (0, 0) w [.ref 62, .ref q] h (.inl (some (.long (lN (hN S T0))))) (fun h' => h' = h) := by
  obtain ⟨u, o0, o1, o2⟩ := hR.o
  have hw := hR.so.1.w
  have hk := hR.so.1.k
  have hm := hR.so.1.m
  have hp0 : 0 < S.1 ^ S.2.1 := Nat.pow_pos (by omega)
  unfold hN
  refine conI (by decide +kernel) ⟨fun _ => rfl, rfl, by simp⟩ (fun X C => ?_)
  change V X (0, 0) w h 0 [some (.ref 62), some (.ref q), none, none, none] []
  refine v_lconst C (oX9_numberOf.at 0 rfl) (v := lN 0) rfl ?_
  refine v_lstore_n C (oX9_numberOf.at 1 rfl) rfl ?_
  refine v_aload_n C (oX9_numberOf.at 2 rfl) rfl ?_
  dsimp only [sto1, sto2, killL]
  refine v_callV C (oX9_numberOf.at 3 rfl) cX9_114 o0 (k9_all o0 o2.1 o2.2.1 (by omega)) rfl rfl rfl ⟨rfl, rfl⟩ rfl rfl (fun _ => rfl) (fun h' hp => ?_)
  rw [show h' = _ from hp]
  dsimp only [Option.toList, List.cons_append, List.nil_append]
  refine v_iconst C (oX9_numberOf.at 4 rfl) (v := nI 1) rfl ?_
  refine v_isubP C (oX9_numberOf.at 5 rfl) ?_
  refine v_istore C (oX9_numberOf.at 6 rfl) rfl ?_
  dsimp only [sto1, sto2, killL]
  suffices H : ∀ a, a ≤ S.1 ^ S.2.1 → V X (0, 0) w h 10 [some (.ref 62), some (.ref q), some (.long (lN (hor S.1 T0 a (S.1 ^ S.2.1 - a)))), none, some (.int (pI a))] [] by
    have := H (S.1 ^ S.2.1) (Nat.le_refl _)
    rw [Nat.sub_self] at this
    exact this
  intro a
  induction a with
  | zero =>
    intro ha
    refine v_iload C (oX9_numberOf.at 7 rfl) rfl ?_
    refine v_if_ltP C (oX9_numberOf.at 8 rfl) (tgt := 35) (by decide) (by omega) (fun hc => ?_) (fun b hc => ?_)
    · refine v_lload_n C (oX9_numberOf.at 22 rfl) rfl ?_
      exact v_lret C (oX9_numberOf.at 23 rfl) rfl rfl ⟨Nat.le_refl _, Nat.le_refl _⟩ ⟨rfl, rfl⟩
    · cases hc
  | succ a ih =>
    intro ha
    have hTa := hT a (by omega)
    refine v_iload C (oX9_numberOf.at 7 rfl) rfl ?_
    refine v_if_ltP C (oX9_numberOf.at 8 rfl) (tgt := 35) (by decide) (by omega) (fun hc => ?_) (fun b hc => ?_)
    · cases hc
    · cases hc
      rw [pI_succ]
      refine v_aload_n C (oX9_numberOf.at 9 rfl) rfl ?_
      refine v_getf C (oX9_numberOf.at 10 rfl) fX9_7 o0 rfl ?_
      rw [o2.1]
      refine v_i2lN C (oX9_numberOf.at 11 rfl) (by omega) ?_
      refine v_lload_n C (oX9_numberOf.at 12 rfl) rfl ?_
      refine v_lmulN C (oX9_numberOf.at 13 rfl) ?_
      refine v_aload_n C (oX9_numberOf.at 14 rfl) rfl ?_
      refine v_iload C (oX9_numberOf.at 15 rfl) rfl ?_
      refine v_iald C (oX9_numberOf.at 16 rfl) hq (by decide) rfl (by omega) hTa.1 ?_
      refine v_i2lN C (oX9_numberOf.at 17 rfl) (by omega) ?_
      refine v_laddN C (oX9_numberOf.at 18 rfl) ?_
      refine v_lstore_n C (oX9_numberOf.at 19 rfl) rfl ?_
      refine v_idecP C (oX9_numberOf.at 20 rfl) rfl ?_
      refine v_goto C (oX9_numberOf.at 21 rfl) (tgt := 10) (by decide) ?_
      dsimp only [sto1, sto2, killL]
      have := ih (by omega)
      rw [show S.1 ^ S.2.1 - a = (S.1 ^ S.2.1 - (a + 1)) + 1 by omega, hor, Nat.mul_comm] at this
      exact this
theorem k9_number {w : Wt} {G h : Hp} {th : Nat} {S Z : Sc} {sv : Bool} {F : Sf} (hR : RF G h th S sv Z F) : ConN mX9_number 3 (0, 0) w [.ref 62] h (.inl (some (.long (lN (hN S S.2.2.1))))) (fun h' => RF G h' 0 S sv Z F) := by
  obtain ⟨u, o0, o1, o2⟩ := hR.o
  refine conI (by decide +kernel) ⟨fun _ => rfl, rfl, by simp⟩ (fun X C => ?_)
  change V X (0, 0) w h 0 [some (.ref 62)] []
  refine v_aload_n C (oX9_number.at 0 rfl) rfl ?_
  refine v_iconst C (oX9_number.at 1 rfl) (v := nI 0) rfl ?_
  refine v_putI C (oX9_number.at 2 rfl) fX9_96 p9_0 o0 rfl ?_
  change V X (0, 0) w (hu h 62 (MO (upd u 0 (nI 0)))) 5 [some (.ref 62)] []
  have hR1 : RF G (hu h 62 (MO (upd u 0 (nI 0)))) 0 S sv Z F := hR.set_o rfl (o2.t _)
  have q0 : hu h 62 (MO (upd u 0 (nI 0))) 62 = MO (upd u 0 (nI 0)) := hu_s _ _ _
  generalize hu h 62 (MO (upd u 0 (nI 0))) = h1 at *
  obtain ⟨f, hf, hT⟩ := hR1.tk
  refine v_aload_n C (oX9_number.at 3 rfl) rfl ?_
  refine v_aload_n C (oX9_number.at 4 rfl) rfl ?_
  refine v_getf C (oX9_number.at 5 rfl) fX9_16 q0 rfl ?_
  refine v_callV C (oX9_number.at 6 rfl) cX9_124 q0 (k9_numberOf hR1 hf hT) rfl rfl rfl ⟨rfl, rfl⟩ rfl rfl (fun _ => rfl) (fun h' hp => ?_)
  rw [show h' = _ from hp]
  dsimp only [Option.toList, List.cons_append, List.nil_append]
  exact v_lret C (oX9_number.at 7 rfl) rfl rfl ⟨Nat.le_refl _, Nat.le_refl _⟩ ⟨rfl, hR1⟩
