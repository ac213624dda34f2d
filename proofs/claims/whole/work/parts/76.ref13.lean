/-! ===== the reference: copies, save, restore, compose ===== -/
theorem k9_copies {w : Wt} {h : Hp} {q d n : Nat} {f g : Nat → Int32} (hq : h q = io n f) (hd : h d = io n g) (hqd : q ≠ d) (hn : n < 2 ^ 31) : ConN mX9_copies 0 (0, 0) w [.ref q, .ref d] h (.inl none) (fun h' => h' = hu h d (io n (mix g f n))) := by
  have bq : ∀ g', hu h d (io n g') q = io n f := fun g' => (hu_n _ _ hqd).trans hq
  refine conI (by decide +kernel) ⟨fun _ => rfl, rfl, by simp⟩ (fun X C => ?_)
  change V X (0, 0) w h 0 [some (.ref q), some (.ref d), none] []
  refine v_iconst C (oX9_copies.at 0 rfl) (v := nI 0) rfl ?_
  refine v_istore_n C (oX9_copies.at 1 rfl) rfl ?_
  dsimp only [sto1, sto2, killL]
  suffices H : ∀ e i, i + e = n → V X (0, 0) w (hu h d (io n (mix g f i))) 2 [some (.ref q), some (.ref d), some (.int (nI i))] [] by
    have := H n 0 (by omega)
    rw [mix_0, hu_id h hd] at this
    exact this
  intro e
  induction e with
  | zero =>
    intro i hi
    obtain rfl : i = n := by omega
    refine v_iload_n C (oX9_copies.at 2 rfl) rfl ?_
    refine v_aload_n C (oX9_copies.at 3 rfl) rfl ?_
    refine v_alen C (oX9_copies.at 4 rfl) (hu_s _ _ _) rfl ?_
    dsimp only
    refine v_icmp_geN C (oX9_copies.at 5 rfl) (tgt := 20) (by decide) (by omega) (by omega) (fun hc => ?_) (fun hc => absurd hc (by omega))
    exact v_vret C (oX9_copies.at 14 rfl) rfl rfl ⟨Nat.le_refl _, Nat.le_refl _⟩ ⟨rfl, rfl⟩
  | succ e ih =>
    intro i hi
    refine v_iload_n C (oX9_copies.at 2 rfl) rfl ?_
    refine v_aload_n C (oX9_copies.at 3 rfl) rfl ?_
    refine v_alen C (oX9_copies.at 4 rfl) (hu_s _ _ _) rfl ?_
    dsimp only
    refine v_icmp_geN C (oX9_copies.at 5 rfl) (tgt := 20) (by decide) (by omega) (by omega) (fun hc => absurd hc (by omega)) (fun hc => ?_)
    refine v_aload_n C (oX9_copies.at 6 rfl) rfl ?_
    refine v_iload_n C (oX9_copies.at 7 rfl) rfl ?_
    refine v_aload_n C (oX9_copies.at 8 rfl) rfl ?_
    refine v_iload_n C (oX9_copies.at 9 rfl) rfl ?_
    refine v_iald C (oX9_copies.at 10 rfl) (bq _) hn rfl (by omega) rfl ?_
    refine v_iast C (oX9_copies.at 11 rfl) (hu_s _ _ _) hn rfl (by omega) ?_
    rw [hu_hu, mix_s _ _ _ _ rfl]
    refine v_iincN C (oX9_copies.at 12 rfl) rfl ?_
    refine v_goto C (oX9_copies.at 13 rfl) (tgt := 2) (by decide) ?_
    dsimp only [sto1, sto2, killL]
    exact ih (i + 1) (by omega)
theorem RF.set_Z {G h h' : Hp} {th th' : Nat} {S Z Z' : Sc} {sv sv' : Bool} {F : Sf} {u : Nat → Int32} {f1 f2 f3 : Nat → Int32} (hR : RF G h th S sv Z F) (h62 : h' 62 = MO u) (ht : u 0 = nI th') (hm : MuP S sv' Z' F u) (h66 : h' 66 = io 27 f1) (hT : TOK Z' f1 Z'.2.2.1) (h67 : h' 67 = io 4 f2) (hL : ∀ i, i < 4 → f2 i = nI (Z'.2.2.2.1 i)) (h68 : h' 68 = io 4 f3) (hI : ∀ i, i < 4 → f3 i = nI (Z'.2.2.2.2 i)) (hS : ScOK Z') (he : ∀ j, j ≠ 62 → j ≠ 66 → j ≠ 67 → j ≠ 68 → h' j = h j) : RF G h' th' S sv' Z' F := by
  obtain ⟨p0, ⟨g1, a1, b1⟩, ⟨g2, a2, b2⟩, ⟨g3, a3, b3⟩, p4, p5, p6, ⟨f7, a7, b7⟩, p8, z1, z2, z3, z4⟩ := hR
  exact ⟨⟨u, h62, ht, hm⟩, ⟨g1, (he _ (by decide) (by decide) (by decide) (by decide)).trans a1, b1⟩, ⟨g2, (he _ (by decide) (by decide) (by decide) (by decide)).trans a2, b2⟩, ⟨g3, (he _ (by decide) (by decide) (by decide) (by decide)).trans a3, b3⟩, ⟨f1, h66, fun _ => hT⟩, ⟨f2, h67, fun _ => hL⟩, ⟨f3, h68, fun _ => hI⟩, ⟨f7, (he _ (by decide) (by decide) (by decide) (by decide)).trans a7, b7⟩, p8.eq (fun j _ _ => he _ (by omega) (by omega) (by omega) (by omega)), z1, hS, z3, fun j hj => (he _ (by omega) (by omega) (by omega) (by omega)).trans (z4 j hj)⟩
theorem k9_save {w : Wt} {G h : Hp} {th : Nat} {S Z : Sc} {sv : Bool} {F : Sf} (hR : RF G h th S sv Z F) : ConN mX9_save 3 (0, 0) w [.ref 62] h (.inl (some (.long (lN (numS S))))) (fun h' => RF G h' 0 S true S F) := by
  refine conI (by decide +kernel) ⟨fun _ => rfl, rfl, by simp⟩ (fun X C => ?_)
  change V X (0, 0) w h 0 [some (.ref 62)] []
  refine v_aload_n C (oX9_save.at 0 rfl) rfl ?_
  refine v_iconst C (oX9_save.at 1 rfl) (v := nI 0) rfl ?_
  refine v_thr C (oX9_save.at 2 rfl) fX9_96 hR (fun h1 u1 hR1 q0 qt qm => ?_)
  refine v_aload_n C (oX9_save.at 3 rfl) rfl ?_
  refine v_aload_n C (oX9_save.at 4 rfl) rfl ?_
  refine v_getf C (oX9_save.at 5 rfl) fX9_7 q0 (congrArg (fun z => some (Value.int z)) (qm.1)) ?_
  refine v_put9 C (oX9_save.at 6 rfl) fX9_142 p9_6 q0 ⟨rfl, rfl, rfl⟩ ?_
  refine v_aload_n C (oX9_save.at 7 rfl) rfl ?_
  refine v_aload_n C (oX9_save.at 8 rfl) rfl ?_
  refine v_getf C (oX9_save.at 9 rfl) fX9_13 (hu_s _ _ _) (congrArg (fun z => some (Value.int z)) (qm.2.1)) ?_
  refine v_put9u C (oX9_save.at 10 rfl) fX9_139 p9_7 ⟨rfl, rfl, rfl⟩ ?_
  obtain ⟨f1, a1, hT⟩ := hR1.tk
  obtain ⟨f2, a2, hL⟩ := hR1.rl
  obtain ⟨f3, a3, hI⟩ := hR1.ri
  obtain ⟨f4, a4, -⟩ := hR1.2.2.2.2.1
  obtain ⟨f5, a5, -⟩ := hR1.2.2.2.2.2.1
  obtain ⟨f6, a6, -⟩ := hR1.2.2.2.2.2.2.1
  have cm : MuP S true S F (upd (upd u1 6 (nI S.1)) 7 (nI S.2.1)) := ⟨qm.1, qm.2.1, rfl, fun _ => rfl, qm.2.2.2.2⟩
  have ct : upd (upd u1 6 (nI S.1)) 7 (nI S.2.1) 0 = nI 0 := qt
  have c0 : hu h1 62 (MO (upd (upd u1 6 (nI S.1)) 7 (nI S.2.1))) 62 = MO (upd (upd u1 6 (nI S.1)) 7 (nI S.2.1)) := hu_s _ _ _
  have ce : ∀ j, j ≠ 62 → hu h1 62 (MO (upd (upd u1 6 (nI S.1)) 7 (nI S.2.1))) j = h1 j := fun j hj => hu_n _ _ hj
  generalize hu h1 62 (MO (upd (upd u1 6 (nI S.1)) 7 (nI S.2.1))) = h2 at *
  generalize upd (upd u1 6 (nI S.1)) 7 (nI S.2.1) = u2 at *
  refine v_aload_n C (oX9_save.at 11 rfl) rfl ?_
  refine v_getf C (oX9_save.at 12 rfl) fX9_16 c0 rfl ?_
  refine v_aload_n C (oX9_save.at 13 rfl) rfl ?_
  refine v_getf C (oX9_save.at 14 rfl) fX9_26 c0 rfl ?_
  refine v_callS C (oX9_save.at 15 rfl) cX9_286 (k9_copies ((ce 63 (by decide)).trans a1) ((ce 66 (by decide)).trans a4) (by decide) (by decide)) rfl rfl rfl ⟨rfl, rfl⟩ rfl rfl (fun _ => rfl) (fun h' hp => ?_)
  dsimp only [Option.toList, List.cons_append, List.nil_append]
  rw [show h' = _ from hp]
  refine v_aload_n C (oX9_save.at 16 rfl) rfl ?_
  refine v_getf C (oX9_save.at 17 rfl) fX9_20 ((hu_n _ _ (by decide)).trans c0) rfl ?_
  refine v_aload_n C (oX9_save.at 18 rfl) rfl ?_
  refine v_getf C (oX9_save.at 19 rfl) fX9_29 ((hu_n _ _ (by decide)).trans c0) rfl ?_
  refine v_callS C (oX9_save.at 20 rfl) cX9_286 (k9_copies ((hu_n _ _ (by decide)).trans ((ce 64 (by decide)).trans a2)) ((hu_n _ _ (by decide)).trans ((ce 67 (by decide)).trans a5)) (by decide) (by decide)) rfl rfl rfl ⟨rfl, rfl⟩ rfl rfl (fun _ => rfl) (fun h' hp => ?_)
  dsimp only [Option.toList, List.cons_append, List.nil_append]
  rw [show h' = _ from hp]
  refine v_aload_n C (oX9_save.at 21 rfl) rfl ?_
  refine v_getf C (oX9_save.at 22 rfl) fX9_23 ((hu_n _ _ (by decide)).trans ((hu_n _ _ (by decide)).trans c0)) rfl ?_
  refine v_aload_n C (oX9_save.at 23 rfl) rfl ?_
  refine v_getf C (oX9_save.at 24 rfl) fX9_32 ((hu_n _ _ (by decide)).trans ((hu_n _ _ (by decide)).trans c0)) rfl ?_
  refine v_callS C (oX9_save.at 25 rfl) cX9_286 (k9_copies ((hu_n _ _ (by decide)).trans ((hu_n _ _ (by decide)).trans ((ce 65 (by decide)).trans a3))) ((hu_n _ _ (by decide)).trans ((hu_n _ _ (by decide)).trans ((ce 68 (by decide)).trans a6))) (by decide) (by decide)) rfl rfl rfl ⟨rfl, rfl⟩ rfl rfl (fun _ => rfl) (fun h' hp => ?_)
  dsimp only [Option.toList, List.cons_append, List.nil_append]
  rw [show h' = _ from hp]
  have hR3 : RF G (hu (hu (hu h2 66 (io 27 (mix f4 f1 27))) 67 (io 4 (mix f5 f2 4))) 68 (io 4 (mix f6 f3 4))) 0 S true S F := by
    refine hR1.set_Z (u := u2) (f1 := mix f4 f1 27) (f2 := mix f5 f2 4) (f3 := mix f6 f3 4) ((hu_n _ _ (by decide)).trans ((hu_n _ _ (by decide)).trans ((hu_n _ _ (by decide)).trans c0))) ct cm ((hu_n _ _ (by decide)).trans ((hu_n _ _ (by decide)).trans (hu_s _ _ _))) (fun i hi => ?_) ((hu_n _ _ (by decide)).trans (hu_s _ _ _)) (fun i hi => ?_) (hu_s _ _ _) (fun i hi => ?_) hR.so (fun j j1 j2 j3 j4 => (hu_n _ _ j4).trans ((hu_n _ _ j3).trans ((hu_n _ _ j2).trans (ce j j1))))
    · have := hR.so.1.m
      rw [mix_lt (by omega)]; exact hT i hi
    · rw [mix_lt hi]; exact hL i hi
    · rw [mix_lt hi]; exact hI i hi
  generalize hu (hu (hu h2 66 (io 27 (mix f4 f1 27))) 67 (io 4 (mix f5 f2 4))) 68 (io 4 (mix f6 f3 4)) = h3 at *
  obtain ⟨u3, r0, -⟩ := hR3.o
  obtain ⟨f9, a9, t9⟩ := hR3.tk
  refine v_aload_n C (oX9_save.at 26 rfl) rfl ?_
  refine v_aload_n C (oX9_save.at 27 rfl) rfl ?_
  refine v_getf C (oX9_save.at 28 rfl) fX9_16 r0 rfl ?_
  refine v_callV C (oX9_save.at 29 rfl) cX9_124 r0 (k9_numberOf hR3 a9 t9) rfl rfl rfl ⟨rfl, rfl⟩ rfl rfl (fun _ => rfl) (fun h' hp => ?_)
  rw [show h' = _ from hp]
  dsimp only [Option.toList, List.cons_append, List.nil_append]
  exact v_lret C (oX9_save.at 30 rfl) rfl rfl ⟨Nat.le_refl _, Nat.le_refl _⟩ ⟨rfl, hR3⟩
theorem k9_restoreX {w : Wt} {G h : Hp} {th : Nat} {S Z : Sc} {F : Sf} (hR : RF G h th S false Z F) : ConN mX9_restore 3 (0, 0) w [.ref 62] h (.inl (some (.long (lN 0)))) (fun h' => RF G h' 1 S false Z F) := by
  obtain ⟨u, o0, o1, o2⟩ := hR.o
  have e6 : u 6 = nI 0 := o2.2.2.1
  refine conI (by decide +kernel) ⟨fun _ => rfl, rfl, by simp⟩ (fun X C => ?_)
  change V X (0, 0) w h 0 [some (.ref 62)] []
  refine v_aload_n C (oX9_restore.at 0 rfl) rfl ?_
  refine v_aload_n C (oX9_restore.at 1 rfl) rfl ?_
  refine v_getf C (oX9_restore.at 2 rfl) fX9_142 o0 (congrArg (fun z => some (Value.int z)) (e6)) ?_
  refine v_if_neN C (oX9_restore.at 3 rfl) (tgt := 12) (by decide) (by omega) (fun hc => absurd hc (by omega)) (fun hc => ?_)
  refine v_iconst C (oX9_restore.at 4 rfl) (v := nI 1) rfl ?_
  refine v_goto C (oX9_restore.at 5 rfl) (tgt := 13) (by decide) ?_
  refine v_thr C (oX9_restore.at 7 rfl) fX9_96 hR (fun h1 u1 hR1 q0 qt qm => ?_)
  refine v_aload_n C (oX9_restore.at 8 rfl) rfl ?_
  refine v_getf C (oX9_restore.at 9 rfl) fX9_96 q0 (congrArg (fun z => some (Value.int z)) (qt)) ?_
  refine v_iconst C (oX9_restore.at 10 rfl) (v := nI 1) rfl ?_
  refine v_icmp_neN C (oX9_restore.at 11 rfl) (tgt := 26) (by decide) (by omega) (by omega) (fun hc => absurd hc (by omega)) (fun hc => ?_)
  refine v_lconst C (oX9_restore.at 12 rfl) (v := lN 0) rfl ?_
  exact v_lret C (oX9_restore.at 13 rfl) rfl rfl ⟨Nat.le_refl _, Nat.le_refl _⟩ ⟨rfl, hR1⟩
theorem k9_restore {w : Wt} {G h : Hp} {th : Nat} {S Z : Sc} {F : Sf} (hR : RF G h th S true Z F) : ConN mX9_restore 3 (0, 0) w [.ref 62] h (.inl (some (.long (lN (numS Z))))) (fun h' => RF G h' 0 Z true Z F) := by
  obtain ⟨u, o0, o1, o2⟩ := hR.o
  have e6 : u 6 = nI Z.1 := o2.2.2.1
  have hZ : ScOK Z := hR.2.2.2.2.2.2.2.2.2.2.1
  have hzk := hZ.1.k
  refine conI (by decide +kernel) ⟨fun _ => rfl, rfl, by simp⟩ (fun X C => ?_)
  change V X (0, 0) w h 0 [some (.ref 62)] []
  refine v_aload_n C (oX9_restore.at 0 rfl) rfl ?_
  refine v_aload_n C (oX9_restore.at 1 rfl) rfl ?_
  refine v_getf C (oX9_restore.at 2 rfl) fX9_142 o0 (congrArg (fun z => some (Value.int z)) (e6)) ?_
  refine v_if_neN C (oX9_restore.at 3 rfl) (tgt := 12) (by decide) (by omega) (fun hc => ?_) (fun hc => absurd hc (by omega))
  refine v_iconst C (oX9_restore.at 6 rfl) (v := nI 0) rfl ?_
  refine v_thr C (oX9_restore.at 7 rfl) fX9_96 hR (fun h1 u1 hR1 q0 qt qm => ?_)
  refine v_aload_n C (oX9_restore.at 8 rfl) rfl ?_
  refine v_getf C (oX9_restore.at 9 rfl) fX9_96 q0 (congrArg (fun z => some (Value.int z)) (qt)) ?_
  refine v_iconst C (oX9_restore.at 10 rfl) (v := nI 1) rfl ?_
  refine v_icmp_neN C (oX9_restore.at 11 rfl) (tgt := 26) (by decide) (by omega) (by omega) (fun hc => ?_) (fun hc => absurd hc (by omega))
  have q6 : u1 6 = nI Z.1 := qm.2.2.1
  have q7 : u1 7 = nI Z.2.1 := qm.2.2.2.1 rfl
  refine v_aload_n C (oX9_restore.at 14 rfl) rfl ?_
  refine v_aload_n C (oX9_restore.at 15 rfl) rfl ?_
  refine v_getf C (oX9_restore.at 16 rfl) fX9_142 q0 (congrArg (fun z => some (Value.int z)) (q6)) ?_
  refine v_put9 C (oX9_restore.at 17 rfl) fX9_7 p9_1 q0 ⟨rfl, rfl, rfl⟩ ?_
  refine v_aload_n C (oX9_restore.at 18 rfl) rfl ?_
  refine v_aload_n C (oX9_restore.at 19 rfl) rfl ?_
  refine v_getf C (oX9_restore.at 20 rfl) fX9_139 (hu_s _ _ _) (congrArg (fun z => some (Value.int z)) (q7)) ?_
  refine v_put9u C (oX9_restore.at 21 rfl) fX9_13 p9_2 ⟨rfl, rfl, rfl⟩ ?_
  obtain ⟨f1, a1, -⟩ := hR1.tk
  obtain ⟨f2, a2, -⟩ := hR1.rl
  obtain ⟨f3, a3, -⟩ := hR1.ri
  obtain ⟨f4, a4, hT⟩ := hR1.2.2.2.2.1
  obtain ⟨f5, a5, hL⟩ := hR1.2.2.2.2.2.1
  obtain ⟨f6, a6, hI⟩ := hR1.2.2.2.2.2.2.1
  replace hT := hT rfl
  replace hL := hL rfl
  replace hI := hI rfl
  have cm : MuP Z true Z F (upd (upd u1 1 (nI Z.1)) 2 (nI Z.2.1)) := ⟨rfl, rfl, q6, fun _ => q7, qm.2.2.2.2⟩
  have ct : upd (upd u1 1 (nI Z.1)) 2 (nI Z.2.1) 0 = nI 0 := qt
  have c0 : hu h1 62 (MO (upd (upd u1 1 (nI Z.1)) 2 (nI Z.2.1))) 62 = MO (upd (upd u1 1 (nI Z.1)) 2 (nI Z.2.1)) := hu_s _ _ _
  have ce : ∀ j, j ≠ 62 → hu h1 62 (MO (upd (upd u1 1 (nI Z.1)) 2 (nI Z.2.1))) j = h1 j := fun j hj => hu_n _ _ hj
  generalize hu h1 62 (MO (upd (upd u1 1 (nI Z.1)) 2 (nI Z.2.1))) = h2 at *
  generalize upd (upd u1 1 (nI Z.1)) 2 (nI Z.2.1) = u2 at *
  refine v_aload_n C (oX9_restore.at 22 rfl) rfl ?_
  refine v_getf C (oX9_restore.at 23 rfl) fX9_26 c0 rfl ?_
  refine v_aload_n C (oX9_restore.at 24 rfl) rfl ?_
  refine v_getf C (oX9_restore.at 25 rfl) fX9_16 c0 rfl ?_
  refine v_callS C (oX9_restore.at 26 rfl) cX9_286 (k9_copies ((ce 66 (by decide)).trans a4) ((ce 63 (by decide)).trans a1) (by decide) (by decide)) rfl rfl rfl ⟨rfl, rfl⟩ rfl rfl (fun _ => rfl) (fun h' hp => ?_)
  dsimp only [Option.toList, List.cons_append, List.nil_append]
  rw [show h' = _ from hp]
  refine v_aload_n C (oX9_restore.at 27 rfl) rfl ?_
  refine v_getf C (oX9_restore.at 28 rfl) fX9_29 ((hu_n _ _ (by decide)).trans c0) rfl ?_
  refine v_aload_n C (oX9_restore.at 29 rfl) rfl ?_
  refine v_getf C (oX9_restore.at 30 rfl) fX9_20 ((hu_n _ _ (by decide)).trans c0) rfl ?_
  refine v_callS C (oX9_restore.at 31 rfl) cX9_286 (k9_copies ((hu_n _ _ (by decide)).trans ((ce 67 (by decide)).trans a5)) ((hu_n _ _ (by decide)).trans ((ce 64 (by decide)).trans a2)) (by decide) (by decide)) rfl rfl rfl ⟨rfl, rfl⟩ rfl rfl (fun _ => rfl) (fun h' hp => ?_)
  dsimp only [Option.toList, List.cons_append, List.nil_append]
  rw [show h' = _ from hp]
  refine v_aload_n C (oX9_restore.at 32 rfl) rfl ?_
  refine v_getf C (oX9_restore.at 33 rfl) fX9_32 ((hu_n _ _ (by decide)).trans ((hu_n _ _ (by decide)).trans c0)) rfl ?_
  refine v_aload_n C (oX9_restore.at 34 rfl) rfl ?_
  refine v_getf C (oX9_restore.at 35 rfl) fX9_23 ((hu_n _ _ (by decide)).trans ((hu_n _ _ (by decide)).trans c0)) rfl ?_
  refine v_callS C (oX9_restore.at 36 rfl) cX9_286 (k9_copies ((hu_n _ _ (by decide)).trans ((hu_n _ _ (by decide)).trans ((ce 68 (by decide)).trans a6))) ((hu_n _ _ (by decide)).trans ((hu_n _ _ (by decide)).trans ((ce 65 (by decide)).trans a3))) (by decide) (by decide)) rfl rfl rfl ⟨rfl, rfl⟩ rfl rfl (fun _ => rfl) (fun h' hp => ?_)
  dsimp only [Option.toList, List.cons_append, List.nil_append]
  rw [show h' = _ from hp]
  have hR3 : RF G (hu (hu (hu h2 63 (io 27 (mix f1 f4 27))) 64 (io 4 (mix f2 f5 4))) 65 (io 4 (mix f3 f6 4))) 0 Z true Z F := by
    refine hR1.set_S (u := u2) (f1 := mix f1 f4 27) (f2 := mix f2 f5 4) (f3 := mix f3 f6 4) ((hu_n _ _ (by decide)).trans ((hu_n _ _ (by decide)).trans ((hu_n _ _ (by decide)).trans c0))) ct cm ((hu_n _ _ (by decide)).trans ((hu_n _ _ (by decide)).trans (hu_s _ _ _))) (fun i hi => ?_) ((hu_n _ _ (by decide)).trans (hu_s _ _ _)) (fun i hi => ?_) (hu_s _ _ _) (fun i hi => ?_) hZ (fun j j1 => (hu_n _ _ (by omega)).trans ((hu_n _ _ (by omega)).trans ((hu_n _ _ (by omega)).trans (ce j (by omega)))))
    · have := hZ.1.m
      rw [mix_lt (by omega)]; exact hT i hi
    · rw [mix_lt hi]; exact hL i hi
    · rw [mix_lt hi]; exact hI i hi
  generalize hu (hu (hu h2 63 (io 27 (mix f1 f4 27))) 64 (io 4 (mix f2 f5 4))) 65 (io 4 (mix f3 f6 4)) = h3 at *
  obtain ⟨u3, r0, -⟩ := hR3.o
  obtain ⟨f9, a9, t9⟩ := hR3.tk
  refine v_aload_n C (oX9_restore.at 37 rfl) rfl ?_
  refine v_aload_n C (oX9_restore.at 38 rfl) rfl ?_
  refine v_getf C (oX9_restore.at 39 rfl) fX9_16 r0 rfl ?_
  refine v_callV C (oX9_restore.at 40 rfl) cX9_124 r0 (k9_numberOf hR3 a9 t9) rfl rfl rfl ⟨rfl, rfl⟩ rfl rfl (fun _ => rfl) (fun h' hp => ?_)
  rw [show h' = _ from hp]
  dsimp only [Option.toList, List.cons_append, List.nil_append]
  exact v_lret C (oX9_restore.at 41 rfl) rfl rfl ⟨Nat.le_refl _, Nat.le_refl _⟩ ⟨rfl, hR3⟩
/-- becomes, over any table -/
theorem k9_becomesI {w : Wt} {h : Hp} {u : Nat → Int32} {k wd : Nat} {f g : Nat → Int32} (o0 : h 62 = MO u) (hu1 : u 1 = nI k) (hu2 : u 2 = nI wd) (hs : SZ k wd) (hf : h 63 = io 27 f) (hg : h 70 = io 27 g) : ConN mX9_becomes 2 (0, 0) w [.ref 62] h (.inl (some (.int (nI (cnt (fun i => decide (f i ≠ g i)) (k ^ wd)))))) (fun h' => h' = hu h 63 (io 27 (mix f g (k ^ wd)))) := by
  have hw := hs.w
  have hk := hs.k
  have hm := hs.m
  have b0 : ∀ f', hu h 63 (io 27 f') 62 = MO u := fun f' => (hu_n _ _ (by decide)).trans o0
  have bg : ∀ f', hu h 63 (io 27 f') 70 = io 27 g := fun f' => (hu_n _ _ (by decide)).trans hg
  refine conI (by decide +kernel) ⟨fun _ => rfl, rfl, by simp⟩ (fun X C => ?_)
  change V X (0, 0) w h 0 [some (.ref 62), none, none] []
  refine v_iconst C (oX9_becomes.at 0 rfl) (v := nI 0) rfl ?_
  refine v_istore_n C (oX9_becomes.at 1 rfl) rfl ?_
  refine v_iconst C (oX9_becomes.at 2 rfl) (v := nI 0) rfl ?_
  refine v_istore_n C (oX9_becomes.at 3 rfl) rfl ?_
  dsimp only [sto1, sto2, killL]
  suffices H : ∀ d i, i + d = k ^ wd → V X (0, 0) w (hu h 63 (io 27 (mix f g i))) 4 [some (.ref 62), some (.int (nI (cnt (fun i => decide (f i ≠ g i)) i))), some (.int (nI i))] [] by
    have := H (k ^ wd) 0 (by omega)
    rw [mix_0, hu_id h hf] at this
    exact this
  intro d
  induction d with
  | zero =>
    intro i hi
    obtain rfl : i = k ^ wd := by omega
    refine v_iload_n C (oX9_becomes.at 4 rfl) rfl ?_
    refine v_aload_n C (oX9_becomes.at 5 rfl) rfl ?_
    refine v_callV C (oX9_becomes.at 6 rfl) cX9_114 (b0 _) (k9_all (b0 _) hu1 hu2 (by omega)) rfl rfl rfl ⟨rfl, rfl⟩ rfl rfl (fun _ => rfl) (fun h' hp => ?_)
    rw [show h' = _ from hp]
    dsimp only [Option.toList, List.cons_append, List.nil_append]
    refine v_icmp_geN C (oX9_becomes.at 7 rfl) (tgt := 53) (by decide) (by omega) (by omega) (fun hc => ?_) (fun hc => absurd hc (by omega))
    refine v_iload_n C (oX9_becomes.at 33 rfl) rfl ?_
    exact v_iret C (oX9_becomes.at 34 rfl) rfl rfl ⟨Nat.le_refl _, Nat.le_refl _⟩ ⟨rfl, rfl⟩
  | succ d ih =>
    intro i hi
    have e1 : mix f g i i = f i := mix_ge (Nat.le_refl _)
    have ih := ih (i + 1) (by omega)
    rw [cnt] at ih
    have fin : ∀ c, c = (if decide (f i ≠ g i) = true then 1 else 0) → V X (0, 0) w (hu h 63 (io 27 (mix f g i))) 33 [some (.ref 62), some (.int (nI (cnt (fun i => decide (f i ≠ g i)) i))), some (.int (nI i))] [.int (nI c), .int (nI (cnt (fun i => decide (f i ≠ g i)) i))] := by
      intro c hc
      rw [← hc] at ih
      refine v_iaddN C (oX9_becomes.at 21 rfl) ?_
      refine v_istore_n C (oX9_becomes.at 22 rfl) rfl ?_
      refine v_aload_n C (oX9_becomes.at 23 rfl) rfl ?_
      refine v_getf C (oX9_becomes.at 24 rfl) fX9_16 (b0 _) rfl ?_
      refine v_iload_n C (oX9_becomes.at 25 rfl) rfl ?_
      refine v_aload_n C (oX9_becomes.at 26 rfl) rfl ?_
      refine v_getf C (oX9_becomes.at 27 rfl) fX9_41 (b0 _) rfl ?_
      refine v_iload_n C (oX9_becomes.at 28 rfl) rfl ?_
      refine v_iald C (oX9_becomes.at 29 rfl) (bg _) (by decide) rfl (by omega) rfl ?_
      refine v_iast C (oX9_becomes.at 30 rfl) (hu_s _ _ _) (by decide) rfl (by omega) ?_
      dsimp only [sto1, sto2, killL]
      rw [hu_hu, mix_s _ _ _ _ rfl]
      refine v_iincN C (oX9_becomes.at 31 rfl) rfl ?_
      refine v_goto C (oX9_becomes.at 32 rfl) (tgt := 4) (by decide) ?_
      dsimp only [sto1, sto2, killL]
      exact ih
    refine v_iload_n C (oX9_becomes.at 4 rfl) rfl ?_
    refine v_aload_n C (oX9_becomes.at 5 rfl) rfl ?_
    refine v_callV C (oX9_becomes.at 6 rfl) cX9_114 (b0 _) (k9_all (b0 _) hu1 hu2 (by omega)) rfl rfl rfl ⟨rfl, rfl⟩ rfl rfl (fun _ => rfl) (fun h' hp => ?_)
    rw [show h' = _ from hp]
    dsimp only [Option.toList, List.cons_append, List.nil_append]
    refine v_icmp_geN C (oX9_becomes.at 7 rfl) (tgt := 53) (by decide) (by omega) (by omega) (fun hc => ?_) (fun hc => ?_)
    · exact absurd hc (by omega)
    · refine v_iload_n C (oX9_becomes.at 8 rfl) rfl ?_
      refine v_aload_n C (oX9_becomes.at 9 rfl) rfl ?_
      refine v_getf C (oX9_becomes.at 10 rfl) fX9_16 (b0 _) rfl ?_
      refine v_iload_n C (oX9_becomes.at 11 rfl) rfl ?_
      refine v_iald C (oX9_becomes.at 12 rfl) (hu_s _ _ _) (by decide) rfl (by omega) e1 ?_
      refine v_aload_n C (oX9_becomes.at 13 rfl) rfl ?_
      refine v_getf C (oX9_becomes.at 14 rfl) fX9_41 (b0 _) rfl ?_
      refine v_iload_n C (oX9_becomes.at 15 rfl) rfl ?_
      refine v_iald C (oX9_becomes.at 16 rfl) (bg _) (by decide) rfl (by omega) rfl ?_
      refine v_icmp_ne C (oX9_becomes.at 17 rfl) (tgt := 32) (by decide) (fun hc => ?_) (fun hc => ?_)
      · refine v_iconst C (oX9_becomes.at 20 rfl) (v := nI 1) rfl ?_
        exact fin 1 (by rw [if_pos (decide_eq_true hc)])
      · refine v_iconst C (oX9_becomes.at 18 rfl) (v := nI 0) rfl ?_
        refine v_goto C (oX9_becomes.at 19 rfl) (tgt := 33) (by decide) ?_
        exact fin 0 (by rw [if_neg (by simp [hc])])
theorem limg_self {k wd : Nat} {T : Nat → Nat} {y : Nat} (hy : y < k ^ wd) : limg k wd T wd y = T y := by
  unfold limg
  rw [Nat.sub_self, img, img, Nat.zero_mul, Nat.zero_add, hw_cel0 hy]
theorem k9_composeX {w : Wt} {G h : Hp} {th : Nat} {S Z : Sc} {F : Sf} (hR : RF G h th S false Z F) : ConN mX9_compose 2 (0, 0) w [.ref 62] h (.inl (some (.int (nI 0)))) (fun h' => RF G h' 1 S false Z F) := by
  refine conI (by decide +kernel) ⟨fun _ => rfl, rfl, by simp⟩ (fun X C => ?_)
  change V X (0, 0) w h 0 [some (.ref 62), none, none] []
  refine v_aload_n C (oX9_compose.at 0 rfl) rfl ?_
  refine v_iconst C (oX9_compose.at 1 rfl) (v := nI 0) rfl ?_
  refine v_thr C (oX9_compose.at 2 rfl) fX9_96 hR (fun h1 u1 hR1 q0 qt qm => ?_)
  have e6 : u1 6 = nI 0 := qm.2.2.1
  refine v_aload_n C (oX9_compose.at 3 rfl) rfl ?_
  refine v_getf C (oX9_compose.at 4 rfl) fX9_13 q0 (congrArg (fun z => some (Value.int z)) (qm.2.1)) ?_
  refine v_aload_n C (oX9_compose.at 5 rfl) rfl ?_
  refine v_getf C (oX9_compose.at 6 rfl) fX9_139 q0 rfl ?_
  refine v_iadd C (oX9_compose.at 7 rfl) ?_
  refine v_iconst C (oX9_compose.at 8 rfl) (v := nI 1) rfl ?_
  refine v_isub C (oX9_compose.at 9 rfl) ?_
  refine v_istore_n C (oX9_compose.at 10 rfl) rfl ?_
  refine v_aload_n C (oX9_compose.at 11 rfl) rfl ?_
  refine v_getf C (oX9_compose.at 12 rfl) fX9_142 q0 (congrArg (fun z => some (Value.int z)) (e6)) ?_
  dsimp only [sto1, sto2, killL]
  refine v_if_eqN C (oX9_compose.at 13 rfl) (tgt := 46) (by decide) (by omega) (fun hc => ?_) (fun hc => absurd hc (by omega))
  refine v_aload_n C (oX9_compose.at 24 rfl) rfl ?_
  refine v_iconst C (oX9_compose.at 25 rfl) (v := nI 1) rfl ?_
  refine v_callV C (oX9_compose.at 26 rfl) cX9_111 q0 (k9_noR hR1) rfl rfl rfl ⟨rfl, rfl⟩ rfl rfl (fun _ => rfl) (fun h' hp => ?_)
  dsimp only [Option.toList, List.cons_append, List.nil_append]
  exact v_iret C (oX9_compose.at 27 rfl) rfl rfl ⟨Nat.le_refl _, Nat.le_refl _⟩ ⟨rfl, hp⟩
theorem k9_composeY {w : Wt} {G h : Hp} {th : Nat} {S Z : Sc} {F : Sf} (hR : RF G h th S true Z F) (hne : Z.1 ≠ S.1) : ConN mX9_compose 2 (0, 0) w [.ref 62] h (.inl (some (.int (nI 0)))) (fun h' => RF G h' 1 S true Z F) := by
  have hZ : ScOK Z := hR.2.2.2.2.2.2.2.2.2.2.1
  have hzk := hZ.1.k
  have hk := hR.so.1.k
  refine conI (by decide +kernel) ⟨fun _ => rfl, rfl, by simp⟩ (fun X C => ?_)
  change V X (0, 0) w h 0 [some (.ref 62), none, none] []
  refine v_aload_n C (oX9_compose.at 0 rfl) rfl ?_
  refine v_iconst C (oX9_compose.at 1 rfl) (v := nI 0) rfl ?_
  refine v_thr C (oX9_compose.at 2 rfl) fX9_96 hR (fun h1 u1 hR1 q0 qt qm => ?_)
  have e6 : u1 6 = nI Z.1 := qm.2.2.1
  refine v_aload_n C (oX9_compose.at 3 rfl) rfl ?_
  refine v_getf C (oX9_compose.at 4 rfl) fX9_13 q0 (congrArg (fun z => some (Value.int z)) (qm.2.1)) ?_
  refine v_aload_n C (oX9_compose.at 5 rfl) rfl ?_
  refine v_getf C (oX9_compose.at 6 rfl) fX9_139 q0 rfl ?_
  refine v_iadd C (oX9_compose.at 7 rfl) ?_
  refine v_iconst C (oX9_compose.at 8 rfl) (v := nI 1) rfl ?_
  refine v_isub C (oX9_compose.at 9 rfl) ?_
  refine v_istore_n C (oX9_compose.at 10 rfl) rfl ?_
  refine v_aload_n C (oX9_compose.at 11 rfl) rfl ?_
  refine v_getf C (oX9_compose.at 12 rfl) fX9_142 q0 (congrArg (fun z => some (Value.int z)) (e6)) ?_
  dsimp only [sto1, sto2, killL]
  refine v_if_eqN C (oX9_compose.at 13 rfl) (tgt := 46) (by decide) (by omega) (fun hc => absurd hc (by omega)) (fun hc => ?_)
  refine v_aload_n C (oX9_compose.at 14 rfl) rfl ?_
  refine v_getf C (oX9_compose.at 15 rfl) fX9_142 q0 (congrArg (fun z => some (Value.int z)) (e6)) ?_
  refine v_aload_n C (oX9_compose.at 16 rfl) rfl ?_
  refine v_getf C (oX9_compose.at 17 rfl) fX9_7 q0 (congrArg (fun z => some (Value.int z)) (qm.1)) ?_
  refine v_icmp_neN C (oX9_compose.at 18 rfl) (tgt := 46) (by decide) (by omega) (by omega) (fun hc => ?_) (fun hc => absurd hc (by omega))
  refine v_aload_n C (oX9_compose.at 24 rfl) rfl ?_
  refine v_iconst C (oX9_compose.at 25 rfl) (v := nI 1) rfl ?_
  refine v_callV C (oX9_compose.at 26 rfl) cX9_111 q0 (k9_noR hR1) rfl rfl rfl ⟨rfl, rfl⟩ rfl rfl (fun _ => rfl) (fun h' hp => ?_)
  dsimp only [Option.toList, List.cons_append, List.nil_append]
  exact v_iret C (oX9_compose.at 27 rfl) rfl rfl ⟨Nat.le_refl _, Nat.le_refl _⟩ ⟨rfl, hp⟩
theorem k9_composeW {w : Wt} {G h : Hp} {th : Nat} {S Z : Sc} {F : Sf} (hR : RF G h th S true Z F) (hne : Z.1 = S.1) (hz : szB (nI S.1) (nI (S.2.1 + Z.2.1 - 1)) = false) : ConN mX9_compose 2 (0, 0) w [.ref 62] h (.inl (some (.int (nI 0)))) (fun h' => RF G h' 1 S true Z F) := by
  have hZ : ScOK Z := hR.2.2.2.2.2.2.2.2.2.2.1
  have hzk := hZ.1.k
  have hk := hR.so.1.k
  have hw := hR.so.1.w
  refine conI (by decide +kernel) ⟨fun _ => rfl, rfl, by simp⟩ (fun X C => ?_)
  change V X (0, 0) w h 0 [some (.ref 62), none, none] []
  refine v_aload_n C (oX9_compose.at 0 rfl) rfl ?_
  refine v_iconst C (oX9_compose.at 1 rfl) (v := nI 0) rfl ?_
  refine v_thr C (oX9_compose.at 2 rfl) fX9_96 hR (fun h1 u1 hR1 q0 qt qm => ?_)
  have e6 : u1 6 = nI Z.1 := qm.2.2.1
  have e7 : u1 7 = nI Z.2.1 := qm.2.2.2.1 rfl
  refine v_aload_n C (oX9_compose.at 3 rfl) rfl ?_
  refine v_getf C (oX9_compose.at 4 rfl) fX9_13 q0 (congrArg (fun z => some (Value.int z)) (qm.2.1)) ?_
  refine v_aload_n C (oX9_compose.at 5 rfl) rfl ?_
  refine v_getf C (oX9_compose.at 6 rfl) fX9_139 q0 (congrArg (fun z => some (Value.int z)) (e7)) ?_
  refine v_iaddN C (oX9_compose.at 7 rfl) ?_
  refine v_iconst C (oX9_compose.at 8 rfl) (v := nI 1) rfl ?_
  refine v_isubN C (oX9_compose.at 9 rfl) (by omega) ?_
  refine v_istore_n C (oX9_compose.at 10 rfl) rfl ?_
  refine v_aload_n C (oX9_compose.at 11 rfl) rfl ?_
  refine v_getf C (oX9_compose.at 12 rfl) fX9_142 q0 (congrArg (fun z => some (Value.int z)) (e6)) ?_
  dsimp only [sto1, sto2, killL]
  refine v_if_eqN C (oX9_compose.at 13 rfl) (tgt := 46) (by decide) (by omega) (fun hc => absurd hc (by omega)) (fun hc => ?_)
  refine v_aload_n C (oX9_compose.at 14 rfl) rfl ?_
  refine v_getf C (oX9_compose.at 15 rfl) fX9_142 q0 (congrArg (fun z => some (Value.int z)) (e6)) ?_
  refine v_aload_n C (oX9_compose.at 16 rfl) rfl ?_
  refine v_getf C (oX9_compose.at 17 rfl) fX9_7 q0 (congrArg (fun z => some (Value.int z)) (qm.1)) ?_
  refine v_icmp_neN C (oX9_compose.at 18 rfl) (tgt := 46) (by decide) (by omega) (by omega) (fun hc => absurd hc (by omega)) (fun hc => ?_)
  refine v_aload_n C (oX9_compose.at 19 rfl) rfl ?_
  refine v_getf C (oX9_compose.at 20 rfl) fX9_7 q0 (congrArg (fun z => some (Value.int z)) (qm.1)) ?_
  refine v_iload_n C (oX9_compose.at 21 rfl) rfl ?_
  refine v_callS C (oX9_compose.at 22 rfl) cX9_107 (k_isSizeE hz) rfl rfl rfl ⟨rfl, rfl⟩ rfl rfl (fun _ => rfl) (fun h' hp => ?_)
  rw [show h' = _ from hp]
  dsimp only [Option.toList, List.cons_append, List.nil_append]
  refine v_if_neB C (oX9_compose.at 23 rfl) (tgt := 52) (by decide) (fun z => absurd z (by decide)) (fun _ => ?_)
  refine v_aload_n C (oX9_compose.at 24 rfl) rfl ?_
  refine v_iconst C (oX9_compose.at 25 rfl) (v := nI 1) rfl ?_
  refine v_callV C (oX9_compose.at 26 rfl) cX9_111 q0 (k9_noR hR1) rfl rfl rfl ⟨rfl, rfl⟩ rfl rfl (fun _ => rfl) (fun h' hp => ?_)
  dsimp only [Option.toList, List.cons_append, List.nil_append]
  exact v_iret C (oX9_compose.at 27 rfl) rfl rfl ⟨Nat.le_refl _, Nat.le_refl _⟩ ⟨rfl, hp⟩
theorem k9_compose {w : Wt} {G h : Hp} {th : Nat} {S Z : Sc} {F : Sf} (hR : RF G h th S true Z F) (hne : Z.1 = S.1) (hz : SZ S.1 (S.2.1 + Z.2.1 - 1)) : ConN mX9_compose 3 (0, 0) w [.ref 62] h (.inl (some (.int (nI (S.2.1 + Z.2.1 - 1))))) (fun h' => RF G h' 0 (coS S Z) true Z F) := by
  have hZ : ScOK Z := hR.2.2.2.2.2.2.2.2.2.2.1
  have hzk := hZ.1.k
  have hzw := hZ.1.w
  have hk := hR.so.1.k
  have hw := hR.so.1.w
  have hm := hz.m
  have hww := hz.w
  have hZs : SZ S.1 Z.2.1 := hne ▸ hZ.1
  refine conI (by decide +kernel) ⟨fun _ => rfl, rfl, by simp⟩ (fun X C => ?_)
  change V X (0, 0) w h 0 [some (.ref 62), none, none] []
  refine v_aload_n C (oX9_compose.at 0 rfl) rfl ?_
  refine v_iconst C (oX9_compose.at 1 rfl) (v := nI 0) rfl ?_
  refine v_thr C (oX9_compose.at 2 rfl) fX9_96 hR (fun h1 u1 hR1 q0 qt qm => ?_)
  have e6 : u1 6 = nI Z.1 := qm.2.2.1
  have e7 : u1 7 = nI Z.2.1 := qm.2.2.2.1 rfl
  obtain ⟨f, hf, hT⟩ := hR1.tk
  obtain ⟨f4, a4, hT4⟩ := hR1.2.2.2.2.1
  replace hT4 := hT4 rfl
  obtain ⟨g, hg⟩ := hR1.sc (i := 70) (Or.inl ⟨by decide, by decide⟩)
  have hg : h1 70 = io 27 g := hg
  obtain ⟨f2, a2, hL⟩ := hR1.rl
  obtain ⟨f3, a3, hI⟩ := hR1.ri
  have hpw : S.1 ^ (S.2.1 + Z.2.1 - 1) ≤ 27 := hz.m
  have hmk : ∀ i, i < S.1 ^ (S.2.1 + Z.2.1 - 1) → limg S.1 Z.2.1 Z.2.2.1 (S.2.1 + Z.2.1 - 1) i < S.1 ^ S.2.1 := by
    intro i hi
    have := limg_lt (k := S.1) (wd := Z.2.1) (T := Z.2.2.1) (by omega) (fun j hj => by have := (hT4 j (by rw [hne]; exact hj)).2; omega) (S.2.1 + Z.2.1 - 1) i
    rw [show S.2.1 + Z.2.1 - 1 - Z.2.1 + 1 = S.2.1 by omega] at this
    exact this
  have b0 : ∀ y, hu h1 70 y 62 = MO u1 := fun y => (hu_n _ _ (by decide)).trans q0
  have b3 : ∀ y, hu h1 70 y 63 = io 27 f := fun y => (hu_n _ _ (by decide)).trans hf
  have b6 : ∀ y, hu h1 70 y 66 = io 27 f4 := fun y => (hu_n _ _ (by decide)).trans a4
  refine v_aload_n C (oX9_compose.at 3 rfl) rfl ?_
  refine v_getf C (oX9_compose.at 4 rfl) fX9_13 q0 (congrArg (fun z => some (Value.int z)) (qm.2.1)) ?_
  refine v_aload_n C (oX9_compose.at 5 rfl) rfl ?_
  refine v_getf C (oX9_compose.at 6 rfl) fX9_139 q0 (congrArg (fun z => some (Value.int z)) (e7)) ?_
  refine v_iaddN C (oX9_compose.at 7 rfl) ?_
  refine v_iconst C (oX9_compose.at 8 rfl) (v := nI 1) rfl ?_
  refine v_isubN C (oX9_compose.at 9 rfl) (by omega) ?_
  refine v_istore_n C (oX9_compose.at 10 rfl) rfl ?_
  refine v_aload_n C (oX9_compose.at 11 rfl) rfl ?_
  refine v_getf C (oX9_compose.at 12 rfl) fX9_142 q0 (congrArg (fun z => some (Value.int z)) (e6)) ?_
  dsimp only [sto1, sto2, killL]
  refine v_if_eqN C (oX9_compose.at 13 rfl) (tgt := 46) (by decide) (by omega) (fun hc => absurd hc (by omega)) (fun hc => ?_)
  refine v_aload_n C (oX9_compose.at 14 rfl) rfl ?_
  refine v_getf C (oX9_compose.at 15 rfl) fX9_142 q0 (congrArg (fun z => some (Value.int z)) (e6)) ?_
  refine v_aload_n C (oX9_compose.at 16 rfl) rfl ?_
  refine v_getf C (oX9_compose.at 17 rfl) fX9_7 q0 (congrArg (fun z => some (Value.int z)) (qm.1)) ?_
  refine v_icmp_neN C (oX9_compose.at 18 rfl) (tgt := 46) (by decide) (by omega) (by omega) (fun hc => absurd hc (by omega)) (fun hc => ?_)
  refine v_aload_n C (oX9_compose.at 19 rfl) rfl ?_
  refine v_getf C (oX9_compose.at 20 rfl) fX9_7 q0 (congrArg (fun z => some (Value.int z)) (qm.1)) ?_
  refine v_iload_n C (oX9_compose.at 21 rfl) rfl ?_
  refine v_callS C (oX9_compose.at 22 rfl) cX9_107 (k_isSizeE (szB_of hz)) rfl rfl rfl ⟨rfl, rfl⟩ rfl rfl (fun _ => rfl) (fun h' hp => ?_)
  rw [show h' = _ from hp]
  dsimp only [Option.toList, List.cons_append, List.nil_append]
  refine v_if_neB C (oX9_compose.at 23 rfl) (tgt := 52) (by decide) (fun _ => ?_) (fun z => absurd z (by decide))
  refine v_iconst C (oX9_compose.at 28 rfl) (v := nI 0) rfl ?_
  refine v_istore_n C (oX9_compose.at 29 rfl) rfl ?_
  dsimp only [sto1, sto2, killL]
  suffices H : ∀ d i, i + d = S.1 ^ (S.2.1 + Z.2.1 - 1) → V X (0, 0) w (hu h1 70 (io 27 (mix g (fun i => nI (coT S Z i)) i))) 54 [some (.ref 62), some (.int (nI (S.2.1 + Z.2.1 - 1))), some (.int (nI i))] [] by
    have := H (S.1 ^ (S.2.1 + Z.2.1 - 1)) 0 (by omega)
    rw [mix_0, hu_id h1 hg] at this
    exact this
  intro d
  induction d with
  | zero =>
    intro i hi
    obtain rfl : i = S.1 ^ (S.2.1 + Z.2.1 - 1) := by omega
    refine v_iload_n C (oX9_compose.at 30 rfl) rfl ?_
    refine v_aload_n C (oX9_compose.at 31 rfl) rfl ?_
    refine v_iload_n C (oX9_compose.at 32 rfl) rfl ?_
    refine v_callV C (oX9_compose.at 33 rfl) cX9_99 (b0 _) (k9_power (b0 _) qm.1 (by omega)) rfl rfl rfl ⟨rfl, rfl⟩ rfl rfl (fun _ => rfl) (fun h' hp => ?_)
    rw [show h' = _ from hp]
    dsimp only [Option.toList, List.cons_append, List.nil_append]
    refine v_icmp_geN C (oX9_compose.at 34 rfl) (tgt := 94) (by decide) (by omega) (by omega) (fun hc => ?_) (fun hc => absurd hc (by omega))
    refine v_aload_n C (oX9_compose.at 52 rfl) rfl ?_
    refine v_iload_n C (oX9_compose.at 53 rfl) rfl ?_
    refine v_put9 C (oX9_compose.at 54 rfl) fX9_13 p9_2 (b0 _) ⟨rfl, rfl, rfl⟩ ?_
    have kb := k9_becomesI (w := w) (h := hu (hu h1 70 (io 27 (mix g (fun i => nI (coT S Z i)) (S.1 ^ (S.2.1 + Z.2.1 - 1))))) 62 (MO (upd u1 2 (nI (S.2.1 + Z.2.1 - 1))))) (hu_s _ _ _) qm.1 rfl hz ((hu_n _ _ (by decide)).trans (b3 _)) ((hu_n _ _ (by decide)).trans (hu_s _ _ _))
    refine v_aload_n C (oX9_compose.at 55 rfl) rfl ?_
    refine v_callV C (oX9_compose.at 56 rfl) cX9_121 (hu_s _ _ _) (kb) rfl rfl rfl ⟨rfl, rfl⟩ rfl rfl (fun _ => rfl) (fun h' hp => ?_)
    dsimp only [Option.toList, List.cons_append, List.nil_append]
    rw [show h' = _ from hp]
    have hRF : RF G (hu (hu (hu h1 70 (io 27 (mix g (fun i => nI (coT S Z i)) (S.1 ^ (S.2.1 + Z.2.1 - 1))))) 62 (MO (upd u1 2 (nI (S.2.1 + Z.2.1 - 1))))) 63 (io 27 (mix f (mix g (fun i => nI (coT S Z i)) (S.1 ^ (S.2.1 + Z.2.1 - 1))) (S.1 ^ (S.2.1 + Z.2.1 - 1))))) 0 (coS S Z) true Z F := by
      refine (hR1.set_r (i := 70) (f' := mix g (fun i => nI (coT S Z i)) (S.1 ^ (S.2.1 + Z.2.1 - 1))) (Or.inl ⟨by decide, by decide⟩)).set_S (S' := coS S Z) ((hu_n _ _ (by decide)).trans (hu_s _ _ _)) qt ⟨qm.1, rfl, qm.2.2⟩ (hu_s _ _ _) (fun i hi => ?_) ((hu_n _ _ (by decide)).trans ((hu_n _ _ (by decide)).trans ((hu_n _ _ (by decide)).trans a2))) hL ((hu_n _ _ (by decide)).trans ((hu_n _ _ (by decide)).trans ((hu_n _ _ (by decide)).trans a3))) hI ⟨hz, hR.so.2⟩ (fun j hj => (hu_n _ _ (by omega)).trans (hu_n _ _ (by omega)))
      have hi : i < S.1 ^ (S.2.1 + Z.2.1 - 1) := hi
      rw [mix_lt hi, mix_lt hi]
      refine ⟨rfl, ?_⟩
      show coT S Z i < S.1
      unfold coT
      rw [limg_self (hmk i hi)]
      exact (hT _ (hmk i hi)).2
    refine v_istore_n C (oX9_compose.at 57 rfl) rfl ?_
    refine v_aload_n C (oX9_compose.at 58 rfl) rfl ?_
    refine v_getf C (oX9_compose.at 59 rfl) fX9_13 ((hu_n _ _ (by decide)).trans (hu_s _ _ _)) rfl ?_
    exact v_iret C (oX9_compose.at 60 rfl) rfl rfl ⟨Nat.le_refl _, Nat.le_refl _⟩ ⟨rfl, hRF⟩
  | succ d ih =>
    intro i hi
    have hmi := hmk i (by omega)
    have hmS := hR.so.1.m
    have ev : f (limg S.1 Z.2.1 Z.2.2.1 (S.2.1 + Z.2.1 - 1) i) = nI (coT S Z i) := by
      unfold coT
      rw [limg_self hmi]; exact (hT _ hmi).1
    refine v_iload_n C (oX9_compose.at 30 rfl) rfl ?_
    refine v_aload_n C (oX9_compose.at 31 rfl) rfl ?_
    refine v_iload_n C (oX9_compose.at 32 rfl) rfl ?_
    refine v_callV C (oX9_compose.at 33 rfl) cX9_99 (b0 _) (k9_power (b0 _) qm.1 (by omega)) rfl rfl rfl ⟨rfl, rfl⟩ rfl rfl (fun _ => rfl) (fun h' hp => ?_)
    rw [show h' = _ from hp]
    dsimp only [Option.toList, List.cons_append, List.nil_append]
    refine v_icmp_geN C (oX9_compose.at 34 rfl) (tgt := 94) (by decide) (by omega) (by omega) (fun hc => absurd hc (by omega)) (fun hc => ?_)
    refine v_aload_n C (oX9_compose.at 35 rfl) rfl ?_
    refine v_getf C (oX9_compose.at 36 rfl) fX9_41 (b0 _) rfl ?_
    refine v_iload_n C (oX9_compose.at 37 rfl) rfl ?_
    refine v_aload_n C (oX9_compose.at 38 rfl) rfl ?_
    refine v_getf C (oX9_compose.at 39 rfl) fX9_16 (b0 _) rfl ?_
    refine v_aload_n C (oX9_compose.at 40 rfl) rfl ?_
    refine v_iload_n C (oX9_compose.at 41 rfl) rfl ?_
    refine v_iload_n C (oX9_compose.at 42 rfl) rfl ?_
    refine v_aload_n C (oX9_compose.at 43 rfl) rfl ?_
    refine v_getf C (oX9_compose.at 44 rfl) fX9_26 (b0 _) rfl ?_
    refine v_aload_n C (oX9_compose.at 45 rfl) rfl ?_
    refine v_getf C (oX9_compose.at 46 rfl) fX9_139 (b0 _) (congrArg (fun z => some (Value.int z)) (e7)) ?_
    refine v_callV C (oX9_compose.at 47 rfl) cX9_145 (b0 _) (k9_imageOf (b0 _) qm.1 hZs (by omega) (by omega) (by omega) (b6 _) (fun j hj => (hT4 j (by rw [hne]; exact hj)).1)) rfl rfl rfl ⟨rfl, rfl⟩ rfl rfl (fun _ => rfl) (fun h' hp => ?_)
    rw [show h' = _ from hp]
    dsimp only [Option.toList, List.cons_append, List.nil_append]
    refine v_iald C (oX9_compose.at 48 rfl) (b3 _) (by decide) rfl (by omega) ev ?_
    refine v_iast C (oX9_compose.at 49 rfl) (hu_s _ _ _) (by decide) rfl (by omega) ?_
    rw [hu_hu, mix_s _ _ _ _ rfl]
    refine v_iincN C (oX9_compose.at 50 rfl) rfl ?_
    refine v_goto C (oX9_compose.at 51 rfl) (tgt := 54) (by decide) ?_
    dsimp only [sto1, sto2, killL]
    exact ih (i + 1) (by omega)
