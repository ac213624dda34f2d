/-! ===== the reference's methods, first part ===== -/
theorem inT {x : Int32} {n : Nat} (hn : 0 < n) (hn2 : n < 2 ^ 31) (h : InB x n) : decide (¬ x < nI 0 ∧ ¬ nI (n - 1) < x) = true := by
  exact decide_eq_true ((inD hn hn2).mpr h)
theorem inF {x : Int32} {n : Nat} (hn : 0 < n) (hn2 : n < 2 ^ 31) (h : ¬ InB x n) : decide (¬ x < nI 0 ∧ ¬ nI (n - 1) < x) = false := by
  exact decide_eq_false (fun z => h ((inD hn hn2).mp z))
theorem k9_sizeX {w : Wt} {G h : Hp} {th : Nat} {S Z : Sc} {sv : Bool} {F : Sf} {x : Int32} (hR : RF G h th S sv Z F) (hx : ¬ InB x 4) : ConN mX9_size 2 (0, 0) w [.ref 62, .int x] h (.inl (some (.int (nI 0)))) (fun h' => RF G h' 1 S sv Z F) := by
  obtain ⟨u, o0, o1, o2⟩ := hR.o
  have ki := k_isIn (w := w) (h := hu h 62 (MO (upd u 0 (nI 0)))) (x := x) (a := nI 0) (b := nI 3)
  rw [show decide (¬ x < nI 0 ∧ ¬ nI 3 < x) = false from inF (n := 4) (by decide) (by decide) hx] at ki
  refine conI (by decide +kernel) ⟨fun _ => rfl, rfl, by simp⟩ (fun X C => ?_)
  change V X (0, 0) w h 0 [some (.ref 62), some (.int x)] []
  refine v_aload_n C (oX9_size.at 0 rfl) rfl ?_
  refine v_iconst C (oX9_size.at 1 rfl) (v := nI 0) rfl ?_
  refine v_putI C (oX9_size.at 2 rfl) fX9_96 p9_0 o0 rfl ?_
  change V X (0, 0) w (hu h 62 (MO (upd u 0 (nI 0)))) 5 [some (.ref 62), some (.int x)] []
  have hR1 : RF G (hu h 62 (MO (upd u 0 (nI 0)))) 0 S sv Z F := hR.set_o rfl (o2.t _)
  have q0 : hu h 62 (MO (upd u 0 (nI 0))) 62 = MO (upd u 0 (nI 0)) := hu_s _ _ _
  generalize hu h 62 (MO (upd u 0 (nI 0))) = h1 at *
  refine v_iload_n C (oX9_size.at 3 rfl) rfl ?_
  refine v_iconst C (oX9_size.at 4 rfl) (v := nI 0) rfl ?_
  refine v_iconst C (oX9_size.at 5 rfl) (v := nI 3) rfl ?_
  refine v_callS C (oX9_size.at 6 rfl) cX9_103 (ki) rfl rfl rfl ⟨rfl, rfl⟩ rfl rfl (fun _ => rfl) (fun h' hp => ?_)
  rw [show h' = _ from hp]
  dsimp only [Option.toList, List.cons_append, List.nil_append]
  refine v_if_neB C (oX9_size.at 7 rfl) (tgt := 20) (by decide) (fun hc => ?_) (fun hc => ?_)
  · cases hc
  · refine v_aload_n C (oX9_size.at 8 rfl) rfl ?_
    refine v_iconst C (oX9_size.at 9 rfl) (v := nI 1) rfl ?_
    refine v_callV C (oX9_size.at 10 rfl) cX9_111 q0 (k9_no q0) rfl rfl rfl ⟨rfl, rfl⟩ rfl rfl (fun _ => rfl) (fun h' hp => ?_)
    dsimp only [Option.toList, List.cons_append, List.nil_append]
    rw [show h' = _ from hp]
    exact v_iret C (oX9_size.at 11 rfl) rfl rfl ⟨Nat.le_refl _, Nat.le_refl _⟩ ⟨rfl, hR1.set_o rfl ((o2.t _).t _)⟩
theorem k9_size {w : Wt} {G h : Hp} {th : Nat} {S Z : Sc} {sv : Bool} {F : Sf} {x : Nat} (hR : RF G h th S sv Z F) (hx : x < 4) : ConN mX9_size 2 (0, 0) w [.ref 62, .int (nI x)] h (.inl (some (.int (nI (szv S x))))) (fun h' => RF G h' 0 S sv Z F) := by
  obtain ⟨u, o0, o1, o2⟩ := hR.o
  have hw := hR.so.1.w
  have ki := k_isIn (w := w) (h := hu h 62 (MO (upd u 0 (nI 0)))) (x := nI x) (a := nI 0) (b := nI 3)
  rw [show decide (¬ nI x < nI 0 ∧ ¬ nI 3 < nI x) = true from inT (n := 4) (by decide) (by decide) (InB.of hx (by decide))] at ki
  refine conI (by decide +kernel) ⟨fun _ => rfl, rfl, by simp⟩ (fun X C => ?_)
  change V X (0, 0) w h 0 [some (.ref 62), some (.int (nI x))] []
  refine v_aload_n C (oX9_size.at 0 rfl) rfl ?_
  refine v_iconst C (oX9_size.at 1 rfl) (v := nI 0) rfl ?_
  refine v_putI C (oX9_size.at 2 rfl) fX9_96 p9_0 o0 rfl ?_
  change V X (0, 0) w (hu h 62 (MO (upd u 0 (nI 0)))) 5 [some (.ref 62), some (.int (nI x))] []
  have hR1 : RF G (hu h 62 (MO (upd u 0 (nI 0)))) 0 S sv Z F := hR.set_o rfl (o2.t _)
  have q0 : hu h 62 (MO (upd u 0 (nI 0))) 62 = MO (upd u 0 (nI 0)) := hu_s _ _ _
  have q1 : upd u 0 (nI 0) 1 = nI S.1 := o2.1
  have q2 : upd u 0 (nI 0) 2 = nI S.2.1 := o2.2.1
  generalize hu h 62 (MO (upd u 0 (nI 0))) = h1 at *
  generalize upd u 0 (nI 0) = u1 at *
  unfold szv at C
  refine v_iload_n C (oX9_size.at 3 rfl) rfl ?_
  refine v_iconst C (oX9_size.at 4 rfl) (v := nI 0) rfl ?_
  refine v_iconst C (oX9_size.at 5 rfl) (v := nI 3) rfl ?_
  refine v_callS C (oX9_size.at 6 rfl) cX9_103 (ki) rfl rfl rfl ⟨rfl, rfl⟩ rfl rfl (fun _ => rfl) (fun h' hp => ?_)
  rw [show h' = _ from hp]
  dsimp only [Option.toList, List.cons_append, List.nil_append]
  refine v_if_neB C (oX9_size.at 7 rfl) (tgt := 20) (by decide) (fun hc => ?_) (fun hc => ?_)
  · refine v_iload_n C (oX9_size.at 12 rfl) rfl ?_
    refine v_if_neN C (oX9_size.at 13 rfl) (tgt := 31) (by decide) (by omega) (fun hc => ?_) (fun hc => ?_)
    · rw [if_neg hc] at C
      refine v_iload_n C (oX9_size.at 17 rfl) rfl ?_
      refine v_iconst C (oX9_size.at 18 rfl) (v := nI 1) rfl ?_
      refine v_icmp_neN C (oX9_size.at 19 rfl) (tgt := 43) (by decide) (by omega) (by omega) (fun hc => ?_) (fun hc => ?_)
      · rw [if_neg hc] at C
        refine v_iload_n C (oX9_size.at 23 rfl) rfl ?_
        refine v_iconst C (oX9_size.at 24 rfl) (v := nI 2) rfl ?_
        refine v_icmp_neN C (oX9_size.at 25 rfl) (tgt := 55) (by decide) (by omega) (by omega) (fun hc => ?_) (fun hc => ?_)
        · rw [if_neg hc] at C
          refine v_aload_n C (oX9_size.at 29 rfl) rfl ?_
          refine v_callV C (oX9_size.at 30 rfl) cX9_118 q0 (k9_nodes q0 q1 q2 (by omega) (by omega)) rfl rfl rfl ⟨rfl, rfl⟩ rfl rfl (fun _ => rfl) (fun h' hp => ?_)
          rw [show h' = _ from hp]
          dsimp only [Option.toList, List.cons_append, List.nil_append]
          exact v_iret C (oX9_size.at 31 rfl) rfl rfl ⟨Nat.le_refl _, Nat.le_refl _⟩ ⟨rfl, hR1⟩
        · rw [if_pos (by omega)] at C
          refine v_aload_n C (oX9_size.at 26 rfl) rfl ?_
          refine v_callV C (oX9_size.at 27 rfl) cX9_114 q0 (k9_all q0 q1 q2 (by omega)) rfl rfl rfl ⟨rfl, rfl⟩ rfl rfl (fun _ => rfl) (fun h' hp => ?_)
          rw [show h' = _ from hp]
          dsimp only [Option.toList, List.cons_append, List.nil_append]
          refine v_goto C (oX9_size.at 28 rfl) (tgt := 59) (by decide) ?_
          exact v_iret C (oX9_size.at 31 rfl) rfl rfl ⟨Nat.le_refl _, Nat.le_refl _⟩ ⟨rfl, hR1⟩
      · rw [if_pos (by omega), ← q2] at C
        refine v_aload_n C (oX9_size.at 20 rfl) rfl ?_
        refine v_getf C (oX9_size.at 21 rfl) fX9_13 q0 rfl ?_
        refine v_goto C (oX9_size.at 22 rfl) (tgt := 59) (by decide) ?_
        exact v_iret C (oX9_size.at 31 rfl) rfl rfl ⟨Nat.le_refl _, Nat.le_refl _⟩ ⟨rfl, hR1⟩
    · rw [if_pos (by omega), ← q1] at C
      refine v_aload_n C (oX9_size.at 14 rfl) rfl ?_
      refine v_getf C (oX9_size.at 15 rfl) fX9_7 q0 rfl ?_
      refine v_goto C (oX9_size.at 16 rfl) (tgt := 59) (by decide) ?_
      exact v_iret C (oX9_size.at 31 rfl) rfl rfl ⟨Nat.le_refl _, Nat.le_refl _⟩ ⟨rfl, hR1⟩
  · cases hc
theorem k9_output {w : Wt} {G h : Hp} {th : Nat} {S Z : Sc} {sv : Bool} {F : Sf} {x : Nat} (hR : RF G h th S sv Z F) (hx : x < S.1 ^ S.2.1) : ConN mX9_output 2 (0, 0) w [.ref 62, .int (nI x)] h (.inl (some (.int (nI (S.2.2.1 x))))) (fun h' => RF G h' 0 S sv Z F) := by
  obtain ⟨u, o0, o1, o2⟩ := hR.o
  have hw := hR.so.1.w
  have hm := hR.so.1.m
  have ki := k_isIn (w := w) (h := hu h 62 (MO (upd u 0 (nI 0)))) (x := nI x) (a := nI 0) (b := nI (S.1 ^ S.2.1 - 1))
  rw [inT (n := S.1 ^ S.2.1) (by omega) (by omega) (InB.of hx (by omega))] at ki
  refine conI (by decide +kernel) ⟨fun _ => rfl, rfl, by simp⟩ (fun X C => ?_)
  change V X (0, 0) w h 0 [some (.ref 62), some (.int (nI x))] []
  refine v_aload_n C (oX9_output.at 0 rfl) rfl ?_
  refine v_iconst C (oX9_output.at 1 rfl) (v := nI 0) rfl ?_
  refine v_putI C (oX9_output.at 2 rfl) fX9_96 p9_0 o0 rfl ?_
  change V X (0, 0) w (hu h 62 (MO (upd u 0 (nI 0)))) 5 [some (.ref 62), some (.int (nI x))] []
  have hR1 : RF G (hu h 62 (MO (upd u 0 (nI 0)))) 0 S sv Z F := hR.set_o rfl (o2.t _)
  have q0 : hu h 62 (MO (upd u 0 (nI 0))) 62 = MO (upd u 0 (nI 0)) := hu_s _ _ _
  have q1 : upd u 0 (nI 0) 1 = nI S.1 := o2.1
  have q2 : upd u 0 (nI 0) 2 = nI S.2.1 := o2.2.1
  generalize hu h 62 (MO (upd u 0 (nI 0))) = h1 at *
  generalize upd u 0 (nI 0) = u1 at *
  obtain ⟨f, hf, hT⟩ := hR1.tk
  refine v_iload_n C (oX9_output.at 3 rfl) rfl ?_
  refine v_iconst C (oX9_output.at 4 rfl) (v := nI 0) rfl ?_
  refine v_aload_n C (oX9_output.at 5 rfl) rfl ?_
  refine v_callV C (oX9_output.at 6 rfl) cX9_114 q0 (k9_all q0 q1 q2 (by omega)) rfl rfl rfl ⟨rfl, rfl⟩ rfl rfl (fun _ => rfl) (fun h' hp => ?_)
  rw [show h' = _ from hp]
  dsimp only [Option.toList, List.cons_append, List.nil_append]
  refine v_iconst C (oX9_output.at 7 rfl) (v := nI 1) rfl ?_
  refine v_isubN C (oX9_output.at 8 rfl) (by omega) ?_
  refine v_callS C (oX9_output.at 9 rfl) cX9_103 (ki) rfl rfl rfl ⟨rfl, rfl⟩ rfl rfl (fun _ => rfl) (fun h' hp => ?_)
  rw [show h' = _ from hp]
  dsimp only [Option.toList, List.cons_append, List.nil_append]
  refine v_if_eqB C (oX9_output.at 10 rfl) (tgt := 28) (by decide) (fun hc => ?_) (fun hc => ?_)
  · cases hc
  · refine v_aload_n C (oX9_output.at 11 rfl) rfl ?_
    refine v_getf C (oX9_output.at 12 rfl) fX9_16 q0 rfl ?_
    refine v_iload_n C (oX9_output.at 13 rfl) rfl ?_
    refine v_iald C (oX9_output.at 14 rfl) hf (by decide) rfl (by omega) (hT x hx).1 ?_
    refine v_goto C (oX9_output.at 15 rfl) (tgt := 33) (by decide) ?_
    exact v_iret C (oX9_output.at 19 rfl) rfl rfl ⟨Nat.le_refl _, Nat.le_refl _⟩ ⟨rfl, hR1⟩
theorem k9_outputX {w : Wt} {G h : Hp} {th : Nat} {S Z : Sc} {sv : Bool} {F : Sf} {x : Int32} (hR : RF G h th S sv Z F) (hx : ¬ InB x (S.1 ^ S.2.1)) : ConN mX9_output 2 (0, 0) w [.ref 62, .int x] h (.inl (some (.int (nI 0)))) (fun h' => RF G h' 1 S sv Z F) := by
  obtain ⟨u, o0, o1, o2⟩ := hR.o
  have hw := hR.so.1.w
  have hk := hR.so.1.k
  have hm := hR.so.1.m
  have hp0 : 0 < S.1 ^ S.2.1 := Nat.pow_pos (by omega)
  have ki := k_isIn (w := w) (h := hu h 62 (MO (upd u 0 (nI 0)))) (x := x) (a := nI 0) (b := nI (S.1 ^ S.2.1 - 1))
  rw [inF (n := S.1 ^ S.2.1) hp0 (by omega) hx] at ki
  refine conI (by decide +kernel) ⟨fun _ => rfl, rfl, by simp⟩ (fun X C => ?_)
  change V X (0, 0) w h 0 [some (.ref 62), some (.int x)] []
  refine v_aload_n C (oX9_output.at 0 rfl) rfl ?_
  refine v_iconst C (oX9_output.at 1 rfl) (v := nI 0) rfl ?_
  refine v_putI C (oX9_output.at 2 rfl) fX9_96 p9_0 o0 rfl ?_
  change V X (0, 0) w (hu h 62 (MO (upd u 0 (nI 0)))) 5 [some (.ref 62), some (.int x)] []
  have hR1 : RF G (hu h 62 (MO (upd u 0 (nI 0)))) 0 S sv Z F := hR.set_o rfl (o2.t _)
  have q0 : hu h 62 (MO (upd u 0 (nI 0))) 62 = MO (upd u 0 (nI 0)) := hu_s _ _ _
  have q1 : upd u 0 (nI 0) 1 = nI S.1 := o2.1
  have q2 : upd u 0 (nI 0) 2 = nI S.2.1 := o2.2.1
  generalize hu h 62 (MO (upd u 0 (nI 0))) = h1 at *
  refine v_iload_n C (oX9_output.at 3 rfl) rfl ?_
  refine v_iconst C (oX9_output.at 4 rfl) (v := nI 0) rfl ?_
  refine v_aload_n C (oX9_output.at 5 rfl) rfl ?_
  refine v_callV C (oX9_output.at 6 rfl) cX9_114 q0 (k9_all q0 q1 q2 (by omega)) rfl rfl rfl ⟨rfl, rfl⟩ rfl rfl (fun _ => rfl) (fun h' hp => ?_)
  rw [show h' = _ from hp]
  dsimp only [Option.toList, List.cons_append, List.nil_append]
  refine v_iconst C (oX9_output.at 7 rfl) (v := nI 1) rfl ?_
  refine v_isubN C (oX9_output.at 8 rfl) (by omega) ?_
  refine v_callS C (oX9_output.at 9 rfl) cX9_103 (ki) rfl rfl rfl ⟨rfl, rfl⟩ rfl rfl (fun _ => rfl) (fun h' hp => ?_)
  rw [show h' = _ from hp]
  dsimp only [Option.toList, List.cons_append, List.nil_append]
  refine v_if_eqB C (oX9_output.at 10 rfl) (tgt := 28) (by decide) (fun hc => ?_) (fun hc => ?_)
  · refine v_aload_n C (oX9_output.at 16 rfl) rfl ?_
    refine v_iconst C (oX9_output.at 17 rfl) (v := nI 1) rfl ?_
    refine v_callV C (oX9_output.at 18 rfl) cX9_111 q0 (k9_no q0) rfl rfl rfl ⟨rfl, rfl⟩ rfl rfl (fun _ => rfl) (fun h' hp => ?_)
    dsimp only [Option.toList, List.cons_append, List.nil_append]
    rw [show h' = _ from hp]
    exact v_iret C (oX9_output.at 19 rfl) rfl rfl ⟨Nat.le_refl _, Nat.le_refl _⟩ ⟨rfl, hR1.set_o rfl ((o2.t _).t _)⟩
  · cases hc
