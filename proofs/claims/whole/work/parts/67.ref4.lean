/-! ===== the reference's methods: outputs, registers ===== -/
theorem RF.set_t {G h : Hp} {th : Nat} {S Z : Sc} {sv : Bool} {F : Sf} {f' : Nat → Int32} {T' : Nat → Nat} (hR : RF G h th S sv Z F) (hT : TOK S f' T') : RF G (hu h 63 (io 27 f')) th (withT S T') sv Z F := by
  obtain ⟨⟨u, a0, b0, c0⟩, p1, ⟨f2, a2, b2⟩, ⟨f3, a3, b3⟩, ⟨f4, a4, b4⟩, ⟨f5, a5, b5⟩, ⟨f6, a6, b6⟩, ⟨f7, a7, b7⟩, p8, z1, z2, z3, z4⟩ := hR
  exact ⟨⟨u, (hu_n _ _ (by decide)).trans a0, b0, c0⟩, ⟨f', hu_s _ _ _, hT⟩, ⟨f2, (hu_n _ _ (by decide)).trans a2, b2⟩, ⟨f3, (hu_n _ _ (by decide)).trans a3, b3⟩, ⟨f4, (hu_n _ _ (by decide)).trans a4, b4⟩, ⟨f5, (hu_n _ _ (by decide)).trans a5, b5⟩, ⟨f6, (hu_n _ _ (by decide)).trans a6, b6⟩, ⟨f7, (hu_n _ _ (by decide)).trans a7, b7⟩, p8.eq (fun j _ _ => hu_n _ _ (by omega)), z1, z2, z3, fun j hj => (hu_n _ _ (by omega)).trans (z4 j hj)⟩
theorem k9_setOutput {w : Wt} {G h : Hp} {th : Nat} {S Z : Sc} {sv : Bool} {F : Sf} {x y : Nat} (hR : RF G h th S sv Z F) (hx : x < S.1 ^ S.2.1) (hy : y < S.1) : ConN mX9_setOutput 2 (0, 0) w [.ref 62, .int (nI x), .int (nI y)] h (.inl (some (.int (nI (S.2.2.1 x))))) (fun h' => RF G h' 0 (withT S (updN S.2.2.1 x y)) sv Z F) := by
  obtain ⟨u, o0, o1, o2⟩ := hR.o
  have hw := hR.so.1.w
  have hk := hR.so.1.k
  have hm := hR.so.1.m
  have ki := k_isIn (w := w) (h := hu h 62 (MO (upd u 0 (nI 0)))) (x := nI x) (a := nI 0) (b := nI (S.1 ^ S.2.1 - 1))
  rw [inT (n := S.1 ^ S.2.1) (by omega) (by omega) (InB.of hx (by omega))] at ki
  have ki2 := k_isIn (w := w) (h := hu h 62 (MO (upd u 0 (nI 0)))) (x := nI y) (a := nI 0) (b := nI (S.1 - 1))
  rw [inT (n := S.1) (by omega) (by omega) (InB.of hy (by omega))] at ki2
  refine conI (by decide +kernel) ⟨fun _ => rfl, rfl, by simp⟩ (fun X C => ?_)
  change V X (0, 0) w h 0 [some (.ref 62), some (.int (nI x)), some (.int (nI y)), none] []
  refine v_aload_n C (oX9_setOutput.at 0 rfl) rfl ?_
  refine v_iconst C (oX9_setOutput.at 1 rfl) (v := nI 0) rfl ?_
  refine v_putI C (oX9_setOutput.at 2 rfl) fX9_96 p9_0 o0 rfl ?_
  change V X (0, 0) w (hu h 62 (MO (upd u 0 (nI 0)))) 5 [some (.ref 62), some (.int (nI x)), some (.int (nI y)), none] []
  have hR1 : RF G (hu h 62 (MO (upd u 0 (nI 0)))) 0 S sv Z F := hR.set_o rfl (o2.t _)
  have q0 : hu h 62 (MO (upd u 0 (nI 0))) 62 = MO (upd u 0 (nI 0)) := hu_s _ _ _
  have q1 : upd u 0 (nI 0) 1 = nI S.1 := o2.1
  have q2 : upd u 0 (nI 0) 2 = nI S.2.1 := o2.2.1
  generalize hu h 62 (MO (upd u 0 (nI 0))) = h1 at *
  generalize upd u 0 (nI 0) = u1 at *
  obtain ⟨f, hf, hT⟩ := hR1.tk
  refine v_iload_n C (oX9_setOutput.at 3 rfl) rfl ?_
  refine v_iconst C (oX9_setOutput.at 4 rfl) (v := nI 0) rfl ?_
  refine v_aload_n C (oX9_setOutput.at 5 rfl) rfl ?_
  refine v_callV C (oX9_setOutput.at 6 rfl) cX9_114 q0 (k9_all q0 q1 q2 (by omega)) rfl rfl rfl ⟨rfl, rfl⟩ rfl rfl (fun _ => rfl) (fun h' hp => ?_)
  rw [show h' = _ from hp]
  dsimp only [Option.toList, List.cons_append, List.nil_append]
  refine v_iconst C (oX9_setOutput.at 7 rfl) (v := nI 1) rfl ?_
  refine v_isubN C (oX9_setOutput.at 8 rfl) (by omega) ?_
  refine v_callS C (oX9_setOutput.at 9 rfl) cX9_103 (ki) rfl rfl rfl ⟨rfl, rfl⟩ rfl rfl (fun _ => rfl) (fun h' hp => ?_)
  rw [show h' = _ from hp]
  dsimp only [Option.toList, List.cons_append, List.nil_append]
  refine v_if_neB C (oX9_setOutput.at 10 rfl) (tgt := 25) (by decide) (fun hc => ?_) (fun hc => ?_)
  · refine v_iload_n C (oX9_setOutput.at 15 rfl) rfl ?_
    refine v_iconst C (oX9_setOutput.at 16 rfl) (v := nI 0) rfl ?_
    refine v_aload_n C (oX9_setOutput.at 17 rfl) rfl ?_
    refine v_getf C (oX9_setOutput.at 18 rfl) fX9_7 q0 rfl ?_
    rw [q1]
    refine v_iconst C (oX9_setOutput.at 19 rfl) (v := nI 1) rfl ?_
    refine v_isubN C (oX9_setOutput.at 20 rfl) (by omega) ?_
    refine v_callS C (oX9_setOutput.at 21 rfl) cX9_103 (ki2) rfl rfl rfl ⟨rfl, rfl⟩ rfl rfl (fun _ => rfl) (fun h' hp => ?_)
    rw [show h' = _ from hp]
    dsimp only [Option.toList, List.cons_append, List.nil_append]
    refine v_if_neB C (oX9_setOutput.at 22 rfl) (tgt := 45) (by decide) (fun hc => ?_) (fun hc => ?_)
    · refine v_aload_n C (oX9_setOutput.at 27 rfl) rfl ?_
      refine v_getf C (oX9_setOutput.at 28 rfl) fX9_16 q0 rfl ?_
      refine v_iload_n C (oX9_setOutput.at 29 rfl) rfl ?_
      refine v_iald C (oX9_setOutput.at 30 rfl) hf (by decide) rfl (by omega) (hT x hx).1 ?_
      refine v_istore_n C (oX9_setOutput.at 31 rfl) rfl ?_
      refine v_aload_n C (oX9_setOutput.at 32 rfl) rfl ?_
      refine v_getf C (oX9_setOutput.at 33 rfl) fX9_16 q0 rfl ?_
      refine v_iload_n C (oX9_setOutput.at 34 rfl) rfl ?_
      refine v_iload_n C (oX9_setOutput.at 35 rfl) rfl ?_
      refine v_iast C (oX9_setOutput.at 36 rfl) hf (by decide) rfl (by omega) ?_
      dsimp only [sto1, sto2, killL]
      refine v_iload_n C (oX9_setOutput.at 37 rfl) rfl ?_
      refine v_iret C (oX9_setOutput.at 38 rfl) rfl rfl ⟨Nat.le_refl _, Nat.le_refl _⟩ ⟨rfl, hR1.set_t (fun i hi => ?_)⟩
      unfold updN
      by_cases e : i = x
      · rw [e, pk_us, if_pos rfl]; exact ⟨rfl, hy⟩
      · rw [pk_un e, if_neg e]; exact hT i hi
    · cases hc
  · cases hc
theorem k_isRegister {w : Wt} {h : Hp} {x : Int32} : ConN mX9_isRegister 1 (0, 0) w [.int x] h (.inl (some (.int (bI (decide (¬ x < nI 0 ∧ ¬ nI 3 < x)))))) (fun h' => h' = h) := by
  refine conI (by decide +kernel) ⟨fun _ => rfl, rfl, by simp⟩ (fun X C => ?_)
  change V X (0, 0) w h 0 [some (.int x)] []
  refine v_iload_n C (oX9_isRegister.at 0 rfl) rfl ?_
  refine v_iconst C (oX9_isRegister.at 1 rfl) (v := nI 0) rfl ?_
  refine v_iconst C (oX9_isRegister.at 2 rfl) (v := nI 3) rfl ?_
  refine v_callS C (oX9_isRegister.at 3 rfl) cX9_103 (k_isIn) rfl rfl rfl ⟨rfl, rfl⟩ rfl rfl (fun _ => rfl) (fun h' hp => ?_)
  rw [show h' = _ from hp]
  dsimp only [Option.toList, List.cons_append, List.nil_append]
  exact v_zret C (oX9_isRegister.at 4 rfl) rfl rfl ⟨Nat.le_refl _, Nat.le_refl _⟩ ⟨rfl, rfl⟩
