/-! ===== the reference: setSize, setNumber, leastNumber ===== -/
/-- table and registers of the reference set anew -/
theorem RF.set_S {G h h' : Hp} {th th' : Nat} {S S' Z : Sc} {sv : Bool} {F : Sf} {u : Nat → Int32} {f1 f2 f3 : Nat → Int32} (hR : RF G h th S sv Z F) (h62 : h' 62 = MO u) (ht : u 0 = nI th') (hm : MuP S' sv Z F u) (h63 : h' 63 = io 27 f1) (hT : TOK S' f1 S'.2.2.1) (h64 : h' 64 = io 4 f2) (hL : ∀ i, i < 4 → f2 i = nI (S'.2.2.2.1 i)) (h65 : h' 65 = io 4 f3) (hI : ∀ i, i < 4 → f3 i = nI (S'.2.2.2.2 i)) (hS : ScOK S') (he : ∀ j, (j < 62 ∨ 65 < j) → h' j = h j) : RF G h' th' S' sv Z F := by
  obtain ⟨p0, p1, p2, p3, ⟨f4, a4, b4⟩, ⟨f5, a5, b5⟩, ⟨f6, a6, b6⟩, ⟨f7, a7, b7⟩, p8, z1, z2, z3, z4⟩ := hR
  exact ⟨⟨u, h62, ht, hm⟩, ⟨f1, h63, hT⟩, ⟨f2, h64, hL⟩, ⟨f3, h65, hI⟩, ⟨f4, (he _ (by decide)).trans a4, b4⟩, ⟨f5, (he _ (by decide)).trans a5, b5⟩, ⟨f6, (he _ (by decide)).trans a6, b6⟩, ⟨f7, (he _ (by decide)).trans a7, b7⟩, p8.eq (fun j _ _ => he _ (by omega)), hS, z2, z3, fun j hj => (he _ (by omega)).trans (z4 j hj)⟩
theorem RF.rl {G h : Hp} {th : Nat} {S Z : Sc} {sv : Bool} {F : Sf} (hR : RF G h th S sv Z F) : ∃ f, h 64 = io 4 f ∧ ∀ i, i < 4 → f i = nI (S.2.2.2.1 i) := hR.2.2.1
theorem RF.ri {G h : Hp} {th : Nat} {S Z : Sc} {sv : Bool} {F : Sf} (hR : RF G h th S sv Z F) : ∃ f, h 65 = io 4 f ∧ ∀ i, i < 4 → f i = nI (S.2.2.2.2 i) := hR.2.2.2.1
theorem RF.sc {G h : Hp} {th : Nat} {S Z : Sc} {sv : Bool} {F : Sf} (hR : RF G h th S sv Z F) {i : Nat} (hi : mIn i) : ∃ f, h i = io (mLn i) f := hR.2.2.2.2.2.2.2.2.1.1 i hi
theorem k9_setSize {w : Wt} {G h : Hp} {th : Nat} {S Z : Sc} {sv : Bool} {F : Sf} {k wd : Nat} (hR : RF G h th S sv Z F) (hs : SZ k wd) : ConN mX9_setSize 2 (0, 0) w [.ref 62, .int (nI k), .int (nI wd)] h (.inl (some (.int (nI (k ^ wd))))) (fun h' => RF G h' 0 (newS k wd) sv Z F) := by
  have hw := hs.w
  have hk := hs.k
  refine conI (by decide +kernel) ⟨fun _ => rfl, rfl, by simp⟩ (fun X C => ?_)
  change V X (0, 0) w h 0 [some (.ref 62), some (.int (nI k)), some (.int (nI wd)), none] []
  refine v_aload_n C (oX9_setSize.at 0 rfl) rfl ?_
  refine v_iconst C (oX9_setSize.at 1 rfl) (v := nI 0) rfl ?_
  refine v_thr C (oX9_setSize.at 2 rfl) fX9_96 hR (fun h1 u1 hR1 q0 qt qm => ?_)
  refine v_iload_n C (oX9_setSize.at 3 rfl) rfl ?_
  refine v_iload_n C (oX9_setSize.at 4 rfl) rfl ?_
  refine v_callS C (oX9_setSize.at 5 rfl) cX9_107 (k_isSizeE (szB_of hs)) rfl rfl rfl ⟨rfl, rfl⟩ rfl rfl (fun _ => rfl) (fun h' hp => ?_)
  rw [show h' = _ from hp]
  dsimp only [Option.toList, List.cons_append, List.nil_append]
  refine v_if_neB C (oX9_setSize.at 6 rfl) (tgt := 19) (by decide) (fun _ => ?_) (fun z => absurd z (by decide))
  refine v_aload_n C (oX9_setSize.at 11 rfl) rfl ?_
  refine v_iload_n C (oX9_setSize.at 12 rfl) rfl ?_
  refine v_put9 C (oX9_setSize.at 13 rfl) fX9_7 p9_1 q0 ⟨rfl, rfl, rfl⟩ ?_
  refine v_aload_n C (oX9_setSize.at 14 rfl) rfl ?_
  refine v_iload_n C (oX9_setSize.at 15 rfl) rfl ?_
  refine v_put9u C (oX9_setSize.at 16 rfl) fX9_13 p9_2 ⟨rfl, rfl, rfl⟩ ?_
  refine v_iconst C (oX9_setSize.at 17 rfl) (v := nI 0) rfl ?_
  refine v_istore_n C (oX9_setSize.at 18 rfl) rfl ?_
  dsimp only [sto1, sto2, killL]
  obtain ⟨f1, a1, -⟩ := hR1.tk
  obtain ⟨f2, a2, -⟩ := hR1.rl
  obtain ⟨f3, a3, -⟩ := hR1.ri
  have c1 : hu h1 62 (MO (upd (upd u1 1 (nI k)) 2 (nI wd))) 63 = io 27 f1 := (hu_n _ _ (by decide)).trans a1
  have c2 : hu h1 62 (MO (upd (upd u1 1 (nI k)) 2 (nI wd))) 64 = io 4 f2 := (hu_n _ _ (by decide)).trans a2
  have c3 : hu h1 62 (MO (upd (upd u1 1 (nI k)) 2 (nI wd))) 65 = io 4 f3 := (hu_n _ _ (by decide)).trans a3
  have c0 : hu h1 62 (MO (upd (upd u1 1 (nI k)) 2 (nI wd))) 62 = MO (upd (upd u1 1 (nI k)) 2 (nI wd)) := hu_s _ _ _
  have ce : ∀ j, j ≠ 62 → hu h1 62 (MO (upd (upd u1 1 (nI k)) 2 (nI wd))) j = h1 j := fun j hj => hu_n _ _ hj
  have cm : MuP (newS k wd) sv Z F (upd (upd u1 1 (nI k)) 2 (nI wd)) := ⟨rfl, rfl, qm.2.2⟩
  have ct : upd (upd u1 1 (nI k)) 2 (nI wd) 0 = nI 0 := qt
  generalize hu h1 62 (MO (upd (upd u1 1 (nI k)) 2 (nI wd))) = h2 at *
  generalize upd (upd u1 1 (nI k)) 2 (nI wd) = u2 at *
  have L2 : ∀ h3, h3 62 = MO u2 → h3 63 = io 27 (mix f1 (fun _ => nI 0) 27) → (∀ j, j ≠ 62 → j ≠ 63 → h3 j = h1 j) → V X (0, 0) w h3 52 [some (.ref 62), some (.int (nI k)), some (.int (nI wd)), some (.int (nI 0))] [] := by
    intro h3 d0 d1 de
    suffices H : ∀ d i, i + d = 4 → V X (0, 0) w (hu (hu h3 64 (io 4 (mix f2 (fun _ => nI 0) i))) 65 (io 4 (mix f3 (fun _ => nI 0) i))) 52 [some (.ref 62), some (.int (nI k)), some (.int (nI wd)), some (.int (nI i))] [] by
      have := H 4 0 (by omega)
      rw [mix_0, mix_0, hu_id (c := io 4 f2) h3 ((de 64 (by decide) (by decide)).trans a2), hu_id h3 ((de 65 (by decide) (by decide)).trans a3)] at this
      exact this
    intro d
    have b0 : ∀ x y, hu (hu h3 64 x) 65 y 62 = MO u2 := fun x y => (hu_n _ _ (by decide)).trans ((hu_n _ _ (by decide)).trans d0)
    have b4 : ∀ x y, hu (hu h3 64 x) 65 y 64 = x := fun x y => (hu_n _ _ (by decide)).trans (hu_s _ _ _)
    have b5 : ∀ x y, hu (hu h3 64 x) 65 y 65 = y := fun x y => hu_s _ _ _
    induction d with
    | zero =>
      intro i hi
      obtain rfl : i = 4 := by omega
      refine v_iload_n C (oX9_setSize.at 31 rfl) rfl ?_
      refine v_iconst C (oX9_setSize.at 32 rfl) (v := nI 4) rfl ?_
      refine v_icmp_geN C (oX9_setSize.at 33 rfl) (tgt := 77) (by decide) (by omega) (by omega) (fun hc => ?_) (fun hc => absurd hc (by omega))
      refine v_aload_n C (oX9_setSize.at 46 rfl) rfl ?_
      refine v_callV C (oX9_setSize.at 47 rfl) cX9_114 (b0 _ _) (k9_all (b0 _ _) cm.1 cm.2.1 (by show wd < _; omega)) rfl rfl rfl ⟨rfl, rfl⟩ rfl rfl (fun _ => rfl) (fun h' hp => ?_)
      rw [show h' = _ from hp]
      dsimp only [Option.toList, List.cons_append, List.nil_append]
      exact v_iret C (oX9_setSize.at 48 rfl) rfl rfl ⟨Nat.le_refl _, Nat.le_refl _⟩ ⟨rfl, hR1.set_S (b0 _ _) ct cm ((hu_n _ _ (by decide)).trans ((hu_n _ _ (by decide)).trans d1)) (fun i hi => ⟨mix_lt (Nat.lt_of_lt_of_le hi hs.m), by show 0 < k; omega⟩) (b4 _ _) (fun i hi => mix_lt hi) (b5 _ _) (fun i hi => mix_lt hi) (newS_ok hs) (fun j hj => (hu_n _ _ (by omega)).trans ((hu_n _ _ (by omega)).trans (de j (by omega) (by omega))))⟩
    | succ d ih =>
      intro i hi
      refine v_iload_n C (oX9_setSize.at 31 rfl) rfl ?_
      refine v_iconst C (oX9_setSize.at 32 rfl) (v := nI 4) rfl ?_
      refine v_icmp_geN C (oX9_setSize.at 33 rfl) (tgt := 77) (by decide) (by omega) (by omega) (fun hc => absurd hc (by omega)) (fun hc => ?_)
      refine v_aload_n C (oX9_setSize.at 34 rfl) rfl ?_
      refine v_getf C (oX9_setSize.at 35 rfl) fX9_20 (b0 _ _) rfl ?_
      refine v_iload_n C (oX9_setSize.at 36 rfl) rfl ?_
      refine v_iconst C (oX9_setSize.at 37 rfl) (v := nI 0) rfl ?_
      refine v_iast C (oX9_setSize.at 38 rfl) (b4 _ _) (by decide) rfl (by omega) ?_
      rw [mix_s _ _ _ _ rfl, hu_c _ _ _ (by decide), hu_hu]
      refine v_aload_n C (oX9_setSize.at 39 rfl) rfl ?_
      refine v_getf C (oX9_setSize.at 40 rfl) fX9_23 (b0 _ _) rfl ?_
      refine v_iload_n C (oX9_setSize.at 41 rfl) rfl ?_
      refine v_iconst C (oX9_setSize.at 42 rfl) (v := nI 0) rfl ?_
      refine v_iast C (oX9_setSize.at 43 rfl) (b5 _ _) (by decide) rfl (by omega) ?_
      rw [mix_s _ _ _ _ rfl, hu_hu]
      refine v_iincN C (oX9_setSize.at 44 rfl) rfl ?_
      refine v_goto C (oX9_setSize.at 45 rfl) (tgt := 52) (by decide) ?_
      dsimp only [sto1, sto2, killL]
      exact ih (i + 1) (by omega)
  suffices H : ∀ d i, i + d = 27 → V X (0, 0) w (hu h2 63 (io 27 (mix f1 (fun _ => nI 0) i))) 31 [some (.ref 62), some (.int (nI k)), some (.int (nI wd)), some (.int (nI i))] [] by
    have := H 27 0 (by omega)
    rw [mix_0, hu_id h2 c1] at this
    exact this
  intro d
  have b0 : ∀ x, hu h2 63 x 62 = MO u2 := fun x => (hu_n _ _ (by decide)).trans c0
  induction d with
  | zero =>
    intro i hi
    obtain rfl : i = 27 := by omega
    refine v_iload_n C (oX9_setSize.at 19 rfl) rfl ?_
    refine v_bipush C (oX9_setSize.at 20 rfl) (v := nI 27) rfl ?_
    refine v_icmp_geN C (oX9_setSize.at 21 rfl) (tgt := 50) (by decide) (by omega) (by omega) (fun hc => ?_) (fun hc => absurd hc (by omega))
    refine v_iconst C (oX9_setSize.at 29 rfl) (v := nI 0) rfl ?_
    refine v_istore_n C (oX9_setSize.at 30 rfl) rfl ?_
    dsimp only [sto1, sto2, killL]
    exact L2 _ (b0 _) (hu_s _ _ _) (fun j h1 h2 => (hu_n _ _ h2).trans (ce j h1))
  | succ d ih =>
    intro i hi
    refine v_iload_n C (oX9_setSize.at 19 rfl) rfl ?_
    refine v_bipush C (oX9_setSize.at 20 rfl) (v := nI 27) rfl ?_
    refine v_icmp_geN C (oX9_setSize.at 21 rfl) (tgt := 50) (by decide) (by omega) (by omega) (fun hc => absurd hc (by omega)) (fun hc => ?_)
    refine v_aload_n C (oX9_setSize.at 22 rfl) rfl ?_
    refine v_getf C (oX9_setSize.at 23 rfl) fX9_16 (b0 _) rfl ?_
    refine v_iload_n C (oX9_setSize.at 24 rfl) rfl ?_
    refine v_iconst C (oX9_setSize.at 25 rfl) (v := nI 0) rfl ?_
    refine v_iast C (oX9_setSize.at 26 rfl) (hu_s _ _ _) (by decide) rfl (by omega) ?_
    rw [mix_s _ _ _ _ rfl, hu_hu]
    refine v_iincN C (oX9_setSize.at 27 rfl) rfl ?_
    refine v_goto C (oX9_setSize.at 28 rfl) (tgt := 31) (by decide) ?_
    dsimp only [sto1, sto2, killL]
    exact ih (i + 1) (by omega)
theorem k9_setNumberN {w : Wt} {G h : Hp} {th : Nat} {S Z : Sc} {sv : Bool} {F : Sf} {a : Int64} (hR : RF G h th S sv Z F) (ha : a < 0) : ConN mX9_setNumber 3 (0, 0) w [.ref 62, .long a] h (.inl (some (.int (nI 0)))) (fun h' => RF G h' 1 S sv Z F) := by
  have hw := hR.so.1.w
  have hm := hR.so.1.m
  have hp0 : 0 < S.1 ^ S.2.1 := Nat.pow_pos (by have := hR.so.1.k; omega)
  have hc1 : lg_cmp a (lN 0) < 0 := by
    unfold lg_cmp
    have e0 : lN 0 = 0 := rfl
    rw [e0, if_neg (fun z => Int64.lt_irrefl (Int64.lt_trans z ha)), if_neg (fun z => by rw [z] at ha; exact Int64.lt_irrefl ha)]
    decide
  refine conI (by decide +kernel) ⟨fun _ => rfl, rfl, by simp⟩ (fun X C => ?_)
  change V X (0, 0) w h 0 [some (.ref 62), some (.long a), none, none, none, none] []
  refine v_aload_n C (oX9_setNumber.at 0 rfl) rfl ?_
  refine v_iconst C (oX9_setNumber.at 1 rfl) (v := nI 0) rfl ?_
  refine v_thr C (oX9_setNumber.at 2 rfl) fX9_96 hR (fun h1 u1 hR1 q0 qt qm => ?_)
  refine v_lload_n C (oX9_setNumber.at 3 rfl) rfl ?_
  refine v_lstore_n C (oX9_setNumber.at 4 rfl) rfl ?_
  refine v_iconst C (oX9_setNumber.at 5 rfl) (v := nI 0) rfl ?_
  refine v_istore C (oX9_setNumber.at 6 rfl) rfl ?_
  refine v_iload C (oX9_setNumber.at 7 rfl) rfl ?_
  refine v_aload_n C (oX9_setNumber.at 8 rfl) rfl ?_
  dsimp only [sto1, sto2, killL]
  refine v_callV C (oX9_setNumber.at 9 rfl) cX9_114 q0 (k9_all q0 qm.1 qm.2.1 (by omega)) rfl rfl rfl ⟨rfl, rfl⟩ rfl rfl (fun _ => rfl) (fun h' hp => ?_)
  rw [show h' = _ from hp]
  dsimp only [Option.toList, List.cons_append, List.nil_append]
  refine v_icmp_geN C (oX9_setNumber.at 10 rfl) (tgt := 54) (by decide) (by omega) (by omega) (fun hc => absurd hc (by omega)) (fun hc => ?_)
  refine v_lload_n C (oX9_setNumber.at 11 rfl) rfl ?_
  refine v_lconst C (oX9_setNumber.at 12 rfl) (v := lN 0) rfl ?_
  refine v_lcmp C (oX9_setNumber.at 13 rfl) ?_
  refine v_if_lt C (oX9_setNumber.at 14 rfl) (tgt := 54) (by decide) (fun hc => ?_) (fun hc => absurd hc1 hc)
  refine v_lload_n C (oX9_setNumber.at 33 rfl) rfl ?_
  refine v_lconst C (oX9_setNumber.at 34 rfl) (v := lN 0) rfl ?_
  refine v_lcmp C (oX9_setNumber.at 35 rfl) ?_
  refine v_if_lt C (oX9_setNumber.at 36 rfl) (tgt := 66) (by decide) (fun hc => ?_) (fun hc => absurd hc1 hc)
  refine v_aload_n C (oX9_setNumber.at 41 rfl) rfl ?_
  refine v_iconst C (oX9_setNumber.at 42 rfl) (v := nI 1) rfl ?_
  refine v_callV C (oX9_setNumber.at 43 rfl) cX9_111 q0 (k9_noR hR1) rfl rfl rfl ⟨rfl, rfl⟩ rfl rfl (fun _ => rfl) (fun h' hp => ?_)
  dsimp only [Option.toList, List.cons_append, List.nil_append]
  refine v_goto C (oX9_setNumber.at 44 rfl) (tgt := 78) (by decide) ?_
  exact v_iret C (oX9_setNumber.at 47 rfl) rfl rfl ⟨Nat.le_refl _, Nat.le_refl _⟩ ⟨rfl, hp⟩
/-- the loop of setNumber: digits into made -/
theorem sn_loop {X : CT} {P : Wt → Hp → Prop} {o : Oc} {zR : Nat × Nat} {w : Wt} {h : Hp} {u : Nat → Int32} {k wd a : Nat} {g : Nat → Int32} (C : Cx X mX9_setNumber [] 3 zR o P) (q0 : h 62 = MO u) (q1 : u 1 = nI k) (q2 : u 2 = nI wd) (hs : SZ k wd) (hg : h 70 = io 27 g) (ha : a < 2 ^ 63) (K : V X (0, 0) w (hu h 70 (io 27 (mix g (fun i => nI (a / k ^ i % k)) (k ^ wd)))) 54 [some (.ref 62), some (.long (lN a)), none, some (.long (lN (a / k ^ k ^ wd))), none, some (.int (nI (k ^ wd)))] []) : V X (0, 0) w h 10 [some (.ref 62), some (.long (lN a)), none, some (.long (lN a)), none, some (.int (nI 0))] [] := by
  have hw := hs.w
  have hk := hs.k
  have hm := hs.m
  suffices H : ∀ d i, i + d = k ^ wd → V X (0, 0) w (hu h 70 (io 27 (mix g (fun i => nI (a / k ^ i % k)) i))) 10 [some (.ref 62), some (.long (lN a)), none, some (.long (lN (a / k ^ i))), none, some (.int (nI i))] [] by
    have := H (k ^ wd) 0 (by omega)
    rw [mix_0, hu_id h hg, Nat.pow_zero, Nat.div_one] at this
    exact this
  intro d
  have b0 : ∀ x, hu h 70 x 62 = MO u := fun x => (hu_n _ _ (by decide)).trans q0
  induction d with
  | zero =>
    intro i hi
    obtain rfl : i = k ^ wd := by omega
    refine v_iload C (oX9_setNumber.at 7 rfl) rfl ?_
    refine v_aload_n C (oX9_setNumber.at 8 rfl) rfl ?_
    refine v_callV C (oX9_setNumber.at 9 rfl) cX9_114 (b0 _) (k9_all (b0 _) q1 q2 (by omega)) rfl rfl rfl ⟨rfl, rfl⟩ rfl rfl (fun _ => rfl) (fun h' hp => ?_)
    rw [show h' = _ from hp]
    dsimp only [Option.toList, List.cons_append, List.nil_append]
    refine v_icmp_geN C (oX9_setNumber.at 10 rfl) (tgt := 54) (by decide) (by omega) (by omega) (fun hc => ?_) (fun hc => absurd hc (by omega))
    exact K
  | succ d ih =>
    intro i hi
    have h63 : a / k ^ i < 2 ^ 63 := Nat.lt_of_le_of_lt (Nat.div_le_self _ _) ha
    refine v_iload C (oX9_setNumber.at 7 rfl) rfl ?_
    refine v_aload_n C (oX9_setNumber.at 8 rfl) rfl ?_
    refine v_callV C (oX9_setNumber.at 9 rfl) cX9_114 (b0 _) (k9_all (b0 _) q1 q2 (by omega)) rfl rfl rfl ⟨rfl, rfl⟩ rfl rfl (fun _ => rfl) (fun h' hp => ?_)
    rw [show h' = _ from hp]
    dsimp only [Option.toList, List.cons_append, List.nil_append]
    refine v_icmp_geN C (oX9_setNumber.at 10 rfl) (tgt := 54) (by decide) (by omega) (by omega) (fun hc => absurd hc (by omega)) (fun hc => ?_)
    refine v_lload_n C (oX9_setNumber.at 11 rfl) rfl ?_
    refine v_lconst C (oX9_setNumber.at 12 rfl) (v := lN 0) rfl ?_
    refine v_lcmp C (oX9_setNumber.at 13 rfl) ?_
    refine v_if_lt C (oX9_setNumber.at 14 rfl) (tgt := 54) (by decide) (fun hc => absurd ((cmp_lt ha (by decide)).mp hc) (by omega)) (fun hc => ?_)
    refine v_aload_n C (oX9_setNumber.at 15 rfl) rfl ?_
    refine v_getf C (oX9_setNumber.at 16 rfl) fX9_41 (b0 _) rfl ?_
    refine v_iload C (oX9_setNumber.at 17 rfl) rfl ?_
    refine v_lload_n C (oX9_setNumber.at 18 rfl) rfl ?_
    refine v_aload_n C (oX9_setNumber.at 19 rfl) rfl ?_
    refine v_getf C (oX9_setNumber.at 20 rfl) fX9_7 (b0 _) (congrArg (fun z => some (Value.int z)) (q1)) ?_
    refine v_i2lN C (oX9_setNumber.at 21 rfl) (by omega) ?_
    refine v_lremN C (oX9_setNumber.at 22 rfl) (by omega) (by omega) (by omega) ?_
    refine v_l2iN C (oX9_setNumber.at 23 rfl) ?_
    refine v_iast C (oX9_setNumber.at 24 rfl) (hu_s _ _ _) (by decide) rfl (by omega) ?_
    rw [mix_s _ _ _ _ rfl, hu_hu]
    refine v_lload_n C (oX9_setNumber.at 25 rfl) rfl ?_
    refine v_aload_n C (oX9_setNumber.at 26 rfl) rfl ?_
    refine v_getf C (oX9_setNumber.at 27 rfl) fX9_7 (b0 _) (congrArg (fun z => some (Value.int z)) (q1)) ?_
    refine v_i2lN C (oX9_setNumber.at 28 rfl) (by omega) ?_
    refine v_ldivN C (oX9_setNumber.at 29 rfl) (by omega) (by omega) (by omega) ?_
    refine v_lstore_n C (oX9_setNumber.at 30 rfl) rfl ?_
    refine v_iincN C (oX9_setNumber.at 31 rfl) rfl ?_
    refine v_goto C (oX9_setNumber.at 32 rfl) (tgt := 10) (by decide) ?_
    dsimp only [sto1, sto2, killL]
    have := ih (i + 1) (by omega)
    rw [show k ^ (i + 1) = k ^ i * k from Nat.pow_succ _ _, ← Nat.div_div_eq_div_mul] at this
    exact this
theorem k9_setNumber {w : Wt} {G h : Hp} {th : Nat} {S Z : Sc} {sv : Bool} {F : Sf} {a : Nat} (hR : RF G h th S sv Z F) (ha : a < S.1 ^ (S.1 ^ S.2.1)) : ConN mX9_setNumber 3 (0, 0) w [.ref 62, .long (lN a)] h (.inl (some (.int (nI (chg S.2.2.1 (fun i => a / S.1 ^ i % S.1) (S.1 ^ S.2.1)))))) (fun h' => RF G h' 0 (withT S (fun i => a / S.1 ^ i % S.1)) sv Z F) := by
  have hk := hR.so.1.k
  have hm := hR.so.1.m
  have h1 : S.1 ^ (S.1 ^ S.2.1) ≤ 3 ^ (S.1 ^ S.2.1) := Nat.pow_le_pow_left (by omega) _
  have h2 : 3 ^ (S.1 ^ S.2.1) ≤ 3 ^ 27 := Nat.pow_le_pow_right (by decide) hm
  have h3 : (3 : Nat) ^ 27 < 2 ^ 63 := by decide
  have ha2 : a < 2 ^ 63 := by omega
  refine conI (by decide +kernel) ⟨fun _ => rfl, rfl, by simp⟩ (fun X C => ?_)
  change V X (0, 0) w h 0 [some (.ref 62), some (.long (lN a)), none, none, none, none] []
  refine v_aload_n C (oX9_setNumber.at 0 rfl) rfl ?_
  refine v_iconst C (oX9_setNumber.at 1 rfl) (v := nI 0) rfl ?_
  refine v_thr C (oX9_setNumber.at 2 rfl) fX9_96 hR (fun h1 u1 hR1 q0 qt qm => ?_)
  refine v_lload_n C (oX9_setNumber.at 3 rfl) rfl ?_
  refine v_lstore_n C (oX9_setNumber.at 4 rfl) rfl ?_
  refine v_iconst C (oX9_setNumber.at 5 rfl) (v := nI 0) rfl ?_
  refine v_istore C (oX9_setNumber.at 6 rfl) rfl ?_
  dsimp only [sto1, sto2, killL]
  obtain ⟨g, hg⟩ := hR1.sc (i := 70) (Or.inl ⟨by decide, by decide⟩)
  refine sn_loop C q0 qm.1 qm.2.1 hR.so.1 hg ha2 ?_
  rw [Nat.div_eq_of_lt ha]
  have hR2 : RF G (hu h1 70 (io 27 (mix g (fun i => nI (a / S.1 ^ i % S.1)) (S.1 ^ S.2.1)))) 0 S sv Z F := hR1.set_r (i := 70) (Or.inl ⟨by decide, by decide⟩)
  have kb := k9_becomes (w := w) (T' := fun i => a / S.1 ^ i % S.1) hR2 (hu_s _ _ _) (fun i hi => ⟨mix_lt hi, Nat.mod_lt _ (by omega)⟩)
  obtain ⟨u2, r0, -⟩ := hR2.o
  generalize hu h1 70 (io 27 (mix g (fun i => nI (a / S.1 ^ i % S.1)) (S.1 ^ S.2.1))) = h2 at *
  refine v_lload_n C (oX9_setNumber.at 33 rfl) rfl ?_
  refine v_lconst C (oX9_setNumber.at 34 rfl) (v := lN 0) rfl ?_
  refine v_lcmp C (oX9_setNumber.at 35 rfl) ?_
  refine v_if_lt C (oX9_setNumber.at 36 rfl) (tgt := 66) (by decide) (fun hc => absurd ((cmp_lt ha2 (by decide)).mp hc) (by omega)) (fun hc => ?_)
  refine v_lload_n C (oX9_setNumber.at 37 rfl) rfl ?_
  refine v_lconst C (oX9_setNumber.at 38 rfl) (v := lN 0) rfl ?_
  refine v_lcmp C (oX9_setNumber.at 39 rfl) ?_
  refine v_if_le C (oX9_setNumber.at 40 rfl) (tgt := 74) (by decide) (fun hc => ?_) (fun hc => absurd (by decide) hc)
  refine v_aload_n C (oX9_setNumber.at 45 rfl) rfl ?_
  refine v_callV C (oX9_setNumber.at 46 rfl) cX9_121 r0 (kb) rfl rfl rfl ⟨rfl, rfl⟩ rfl rfl (fun _ => rfl) (fun h' hp => ?_)
  dsimp only [Option.toList, List.cons_append, List.nil_append]
  exact v_iret C (oX9_setNumber.at 47 rfl) rfl rfl ⟨Nat.le_refl _, Nat.le_refl _⟩ ⟨rfl, hp⟩
theorem k9_setNumberX {w : Wt} {G h : Hp} {th : Nat} {S Z : Sc} {sv : Bool} {F : Sf} {a : Nat} (hR : RF G h th S sv Z F) (ha : S.1 ^ (S.1 ^ S.2.1) ≤ a) (ha2 : a < 2 ^ 63) : ConN mX9_setNumber 3 (0, 0) w [.ref 62, .long (lN a)] h (.inl (some (.int (nI 0)))) (fun h' => RF G h' 1 S sv Z F) := by
  have hk := hR.so.1.k
  have hq : 0 < a / S.1 ^ (S.1 ^ S.2.1) := Nat.div_pos ha (Nat.pow_pos (by omega))
  have hq2 : a / S.1 ^ (S.1 ^ S.2.1) < 2 ^ 63 := Nat.lt_of_le_of_lt (Nat.div_le_self _ _) ha2
  refine conI (by decide +kernel) ⟨fun _ => rfl, rfl, by simp⟩ (fun X C => ?_)
  change V X (0, 0) w h 0 [some (.ref 62), some (.long (lN a)), none, none, none, none] []
  refine v_aload_n C (oX9_setNumber.at 0 rfl) rfl ?_
  refine v_iconst C (oX9_setNumber.at 1 rfl) (v := nI 0) rfl ?_
  refine v_thr C (oX9_setNumber.at 2 rfl) fX9_96 hR (fun h1 u1 hR1 q0 qt qm => ?_)
  refine v_lload_n C (oX9_setNumber.at 3 rfl) rfl ?_
  refine v_lstore_n C (oX9_setNumber.at 4 rfl) rfl ?_
  refine v_iconst C (oX9_setNumber.at 5 rfl) (v := nI 0) rfl ?_
  refine v_istore C (oX9_setNumber.at 6 rfl) rfl ?_
  dsimp only [sto1, sto2, killL]
  obtain ⟨g, hg⟩ := hR1.sc (i := 70) (Or.inl ⟨by decide, by decide⟩)
  refine sn_loop C q0 qm.1 qm.2.1 hR.so.1 hg ha2 ?_
  have hR2 : RF G (hu h1 70 (io 27 (mix g (fun i => nI (a / S.1 ^ i % S.1)) (S.1 ^ S.2.1)))) 0 S sv Z F := hR1.set_r (i := 70) (Or.inl ⟨by decide, by decide⟩)
  obtain ⟨u2, r0, -⟩ := hR2.o
  generalize hu h1 70 (io 27 (mix g (fun i => nI (a / S.1 ^ i % S.1)) (S.1 ^ S.2.1))) = h2 at *
  refine v_lload_n C (oX9_setNumber.at 33 rfl) rfl ?_
  refine v_lconst C (oX9_setNumber.at 34 rfl) (v := lN 0) rfl ?_
  refine v_lcmp C (oX9_setNumber.at 35 rfl) ?_
  refine v_if_lt C (oX9_setNumber.at 36 rfl) (tgt := 66) (by decide) (fun hc => absurd ((cmp_lt ha2 (by decide)).mp hc) (by omega)) (fun hc => ?_)
  refine v_lload_n C (oX9_setNumber.at 37 rfl) rfl ?_
  refine v_lconst C (oX9_setNumber.at 38 rfl) (v := lN 0) rfl ?_
  refine v_lcmp C (oX9_setNumber.at 39 rfl) ?_
  refine v_if_le C (oX9_setNumber.at 40 rfl) (tgt := 74) (by decide) (fun hc => absurd ((cmp_gt hq2 (by decide)).mpr hq) (Int32.not_lt.mpr hc)) (fun hc => ?_)
  refine v_aload_n C (oX9_setNumber.at 41 rfl) rfl ?_
  refine v_iconst C (oX9_setNumber.at 42 rfl) (v := nI 1) rfl ?_
  refine v_callV C (oX9_setNumber.at 43 rfl) cX9_111 r0 (k9_noR hR2) rfl rfl rfl ⟨rfl, rfl⟩ rfl rfl (fun _ => rfl) (fun h' hp => ?_)
  dsimp only [Option.toList, List.cons_append, List.nil_append]
  refine v_goto C (oX9_setNumber.at 44 rfl) (tgt := 78) (by decide) ?_
  exact v_iret C (oX9_setNumber.at 47 rfl) rfl rfl ⟨Nat.le_refl _, Nat.le_refl _⟩ ⟨rfl, hp⟩
theorem k9_leastNumber {w : Wt} {G h : Hp} {th : Nat} {S Z : Sc} {sv : Bool} {F : Sf} (hR : RF G h th S sv Z F) : ConN mX9_leastNumber 3 (0, 0) w [.ref 62] h (.inl (some (.long (lN (lsN S))))) (fun h' => RF G h' 0 S sv Z F) := by
  have hk := hR.so.1.k
  have hs := hR.so.1
  refine conI (by decide +kernel) ⟨fun _ => rfl, rfl, by simp⟩ (fun X C => ?_)
  change V X (0, 0) w h 0 [some (.ref 62), none, none] []
  refine v_aload_n C (oX9_leastNumber.at 0 rfl) rfl ?_
  refine v_iconst C (oX9_leastNumber.at 1 rfl) (v := nI 0) rfl ?_
  refine v_thr C (oX9_leastNumber.at 2 rfl) fX9_96 hR (fun h1 u1 hR1 q0 qt qm => ?_)
  obtain ⟨f, hf, hT⟩ := hR1.tk
  obtain ⟨g, hg⟩ := hR1.sc (i := 70) (Or.inl ⟨by decide, by decide⟩)
  have km := k9_mirrors (w := w) q0 qm.1 qm.2.1 hs hf (show h1 70 = io 27 g from hg) (by decide) (by decide)
  refine v_aload_n C (oX9_leastNumber.at 3 rfl) rfl ?_
  refine v_aload_n C (oX9_leastNumber.at 4 rfl) rfl ?_
  refine v_getf C (oX9_leastNumber.at 5 rfl) fX9_16 q0 rfl ?_
  refine v_callV C (oX9_leastNumber.at 6 rfl) cX9_124 q0 (k9_numberOf hR1 hf hT) rfl rfl rfl ⟨rfl, rfl⟩ rfl rfl (fun _ => rfl) (fun h' hp => ?_)
  rw [show h' = _ from hp]
  dsimp only [Option.toList, List.cons_append, List.nil_append]
  refine v_lstore_n C (oX9_leastNumber.at 7 rfl) rfl ?_
  refine v_aload_n C (oX9_leastNumber.at 8 rfl) rfl ?_
  refine v_aload_n C (oX9_leastNumber.at 9 rfl) rfl ?_
  refine v_getf C (oX9_leastNumber.at 10 rfl) fX9_16 q0 rfl ?_
  refine v_aload_n C (oX9_leastNumber.at 11 rfl) rfl ?_
  refine v_getf C (oX9_leastNumber.at 12 rfl) fX9_41 q0 rfl ?_
  dsimp only [sto1, sto2, killL]
  refine v_callV C (oX9_leastNumber.at 13 rfl) cX9_132 q0 (km) rfl rfl rfl ⟨rfl, rfl⟩ rfl rfl (fun _ => rfl) (fun h' hp => ?_)
  dsimp only [Option.toList, List.cons_append, List.nil_append]
  rw [show h' = _ from hp]
  have hR2 : RF G (hu h1 70 (io 27 (mix g (fun i => f (rvw S.1 i S.2.1)) (S.1 ^ S.2.1)))) 0 S sv Z F := hR1.set_r (i := 70) (Or.inl ⟨by decide, by decide⟩)
  have tm : TOK S (mix g (fun i => f (rvw S.1 i S.2.1)) (S.1 ^ S.2.1)) (mrT S S.2.2.1) := fun i hi => by rw [mix_lt hi]; exact hT _ (rvw_lt (by omega) _ _)
  have hf2 : hu h1 70 (io 27 (mix g (fun i => f (rvw S.1 i S.2.1)) (S.1 ^ S.2.1))) 63 = io 27 f := (hu_n _ _ (by decide)).trans hf
  have hg2 : hu h1 70 (io 27 (mix g (fun i => f (rvw S.1 i S.2.1)) (S.1 ^ S.2.1))) 70 = io 27 (mix g (fun i => f (rvw S.1 i S.2.1)) (S.1 ^ S.2.1)) := hu_s _ _ _
  generalize hu h1 70 (io 27 (mix g (fun i => f (rvw S.1 i S.2.1)) (S.1 ^ S.2.1))) = h2 at *
  generalize mix g (fun i => f (rvw S.1 i S.2.1)) (S.1 ^ S.2.1) = g2 at *
  obtain ⟨u2, r0, r1, r2⟩ := hR2.o
  obtain ⟨g3, hg3⟩ := hR2.sc (i := 71) (Or.inl ⟨by decide, by decide⟩)
  have kc := k9_complements (w := w) (T0 := mrT S S.2.2.1) r0 r2.1 r2.2.1 hs hg2 tm (show h2 71 = io 27 g3 from hg3) (by decide) (by decide)
  refine v_aload_n C (oX9_leastNumber.at 14 rfl) rfl ?_
  refine v_aload_n C (oX9_leastNumber.at 15 rfl) rfl ?_
  refine v_getf C (oX9_leastNumber.at 16 rfl) fX9_41 r0 rfl ?_
  refine v_aload_n C (oX9_leastNumber.at 17 rfl) rfl ?_
  refine v_getf C (oX9_leastNumber.at 18 rfl) fX9_44 r0 rfl ?_
  refine v_callV C (oX9_leastNumber.at 19 rfl) cX9_136 r0 (kc) rfl rfl rfl ⟨rfl, rfl⟩ rfl rfl (fun _ => rfl) (fun h' hp => ?_)
  dsimp only [Option.toList, List.cons_append, List.nil_append]
  rw [show h' = _ from hp]
  have hR3 : RF G (hu h2 71 (io 27 (mix g3 (fun i => nI (S.1 - 1 - mrT S S.2.2.1 (S.1 ^ S.2.1 - 1 - i))) (S.1 ^ S.2.1)))) 0 S sv Z F := hR2.set_r (i := 71) (Or.inl ⟨by decide, by decide⟩)
  have to : TOK S (mix g3 (fun i => nI (S.1 - 1 - mrT S S.2.2.1 (S.1 ^ S.2.1 - 1 - i))) (S.1 ^ S.2.1)) (cmT S (mrT S S.2.2.1)) := fun i hi => ⟨mix_lt hi, by unfold cmT; omega⟩
  have hf3 : hu h2 71 (io 27 (mix g3 (fun i => nI (S.1 - 1 - mrT S S.2.2.1 (S.1 ^ S.2.1 - 1 - i))) (S.1 ^ S.2.1))) 63 = io 27 f := (hu_n _ _ (by decide)).trans hf2
  have hm3 : hu h2 71 (io 27 (mix g3 (fun i => nI (S.1 - 1 - mrT S S.2.2.1 (S.1 ^ S.2.1 - 1 - i))) (S.1 ^ S.2.1))) 70 = io 27 g2 := (hu_n _ _ (by decide)).trans hg2
  have ho3 : hu h2 71 (io 27 (mix g3 (fun i => nI (S.1 - 1 - mrT S S.2.2.1 (S.1 ^ S.2.1 - 1 - i))) (S.1 ^ S.2.1))) 71 = io 27 (mix g3 (fun i => nI (S.1 - 1 - mrT S S.2.2.1 (S.1 ^ S.2.1 - 1 - i))) (S.1 ^ S.2.1)) := hu_s _ _ _
  generalize hu h2 71 (io 27 (mix g3 (fun i => nI (S.1 - 1 - mrT S S.2.2.1 (S.1 ^ S.2.1 - 1 - i))) (S.1 ^ S.2.1))) = h3 at *
  generalize mix g3 (fun i => nI (S.1 - 1 - mrT S S.2.2.1 (S.1 ^ S.2.1 - 1 - i))) (S.1 ^ S.2.1) = g4 at *
  have B0 := hN_lt hs hT
  have B1 := hN_lt hs tm
  have B2 := hN_lt hs to
  obtain ⟨u3, s0, s1, s2⟩ := hR3.o
  have kc2 := k9_complements (w := w) (T0 := S.2.2.1) s0 s2.1 s2.2.1 hs hf3 hT ho3 (by decide) (by decide)
  have hR4 : RF G (hu h3 71 (io 27 (mix g4 (fun i => nI (S.1 - 1 - S.2.2.1 (S.1 ^ S.2.1 - 1 - i))) (S.1 ^ S.2.1)))) 0 S sv Z F := hR3.set_r (i := 71) (Or.inl ⟨by decide, by decide⟩)
  have t4 : TOK S (mix g4 (fun i => nI (S.1 - 1 - S.2.2.1 (S.1 ^ S.2.1 - 1 - i))) (S.1 ^ S.2.1)) (cmT S S.2.2.1) := fun i hi => ⟨mix_lt hi, by unfold cmT; omega⟩
  have ho4 : hu h3 71 (io 27 (mix g4 (fun i => nI (S.1 - 1 - S.2.2.1 (S.1 ^ S.2.1 - 1 - i))) (S.1 ^ S.2.1))) 71 = io 27 (mix g4 (fun i => nI (S.1 - 1 - S.2.2.1 (S.1 ^ S.2.1 - 1 - i))) (S.1 ^ S.2.1)) := hu_s _ _ _
  have B4 := hN_lt hs t4
  have L3 : ∀ x, x < 2 ^ 63 → min x (hN S (cmT S S.2.2.1)) = lsN S → V X (0, 0) w h3 90 [some (.ref 62), some (.long (lN x)), none] [] := by
    intro x hx hmx
    refine v_aload_n C (oX9_leastNumber.at 48 rfl) rfl ?_
    refine v_aload_n C (oX9_leastNumber.at 49 rfl) rfl ?_
    refine v_getf C (oX9_leastNumber.at 50 rfl) fX9_16 s0 rfl ?_
    refine v_aload_n C (oX9_leastNumber.at 51 rfl) rfl ?_
    refine v_getf C (oX9_leastNumber.at 52 rfl) fX9_44 s0 rfl ?_
    refine v_callV C (oX9_leastNumber.at 53 rfl) cX9_136 s0 (kc2) rfl rfl rfl ⟨rfl, rfl⟩ rfl rfl (fun _ => rfl) (fun h' hp => ?_)
    dsimp only [Option.toList, List.cons_append, List.nil_append]
    rw [show h' = _ from hp]
    generalize hu h3 71 (io 27 (mix g4 (fun i => nI (S.1 - 1 - S.2.2.1 (S.1 ^ S.2.1 - 1 - i))) (S.1 ^ S.2.1))) = h4 at *
    obtain ⟨u4, t0, -⟩ := hR4.o
    refine v_aload_n C (oX9_leastNumber.at 54 rfl) rfl ?_
    refine v_aload_n C (oX9_leastNumber.at 55 rfl) rfl ?_
    refine v_getf C (oX9_leastNumber.at 56 rfl) fX9_44 t0 rfl ?_
    refine v_callV C (oX9_leastNumber.at 57 rfl) cX9_124 t0 (k9_numberOf hR4 ho4 t4) rfl rfl rfl ⟨rfl, rfl⟩ rfl rfl (fun _ => rfl) (fun h' hp => ?_)
    rw [show h' = _ from hp]
    dsimp only [Option.toList, List.cons_append, List.nil_append]
    refine v_lload_n C (oX9_leastNumber.at 58 rfl) rfl ?_
    refine v_lcmp C (oX9_leastNumber.at 59 rfl) ?_
    refine v_if_ge C (oX9_leastNumber.at 60 rfl) (tgt := 126) (by decide) (fun hc => ?_) (fun hc => ?_)
    · have hle : x ≤ hN S (cmT S S.2.2.1) := Nat.not_lt.mp (fun q => Int32.not_lt.mpr hc ((cmp_lt B4 hx).mpr q))
      rw [Nat.min_eq_left hle] at hmx
      rw [← hmx] at C
      refine v_lload_n C (oX9_leastNumber.at 66 rfl) rfl ?_
      exact v_lret C (oX9_leastNumber.at 67 rfl) rfl rfl ⟨Nat.le_refl _, Nat.le_refl _⟩ ⟨rfl, hR4⟩
    · have hle : hN S (cmT S S.2.2.1) < x := (cmp_lt B4 hx).mp (Int32.not_le.mp hc)
      rw [Nat.min_eq_right (by omega)] at hmx
      rw [← hmx] at C
      refine v_aload_n C (oX9_leastNumber.at 61 rfl) rfl ?_
      refine v_aload_n C (oX9_leastNumber.at 62 rfl) rfl ?_
      refine v_getf C (oX9_leastNumber.at 63 rfl) fX9_44 t0 rfl ?_
      refine v_callV C (oX9_leastNumber.at 64 rfl) cX9_124 t0 (k9_numberOf hR4 ho4 t4) rfl rfl rfl ⟨rfl, rfl⟩ rfl rfl (fun _ => rfl) (fun h' hp => ?_)
      rw [show h' = _ from hp]
      dsimp only [Option.toList, List.cons_append, List.nil_append]
      refine v_goto C (oX9_leastNumber.at 65 rfl) (tgt := 127) (by decide) ?_
      exact v_lret C (oX9_leastNumber.at 67 rfl) rfl rfl ⟨Nat.le_refl _, Nat.le_refl _⟩ ⟨rfl, hR4⟩
  have L2 : ∀ x, x < 2 ^ 63 → min (min x (hN S (cmT S (mrT S S.2.2.1)))) (hN S (cmT S S.2.2.1)) = lsN S → V X (0, 0) w h3 64 [some (.ref 62), some (.long (lN x)), none] [] := by
    intro x hx hmx
    refine v_aload_n C (oX9_leastNumber.at 34 rfl) rfl ?_
    refine v_aload_n C (oX9_leastNumber.at 35 rfl) rfl ?_
    refine v_getf C (oX9_leastNumber.at 36 rfl) fX9_44 s0 rfl ?_
    refine v_callV C (oX9_leastNumber.at 37 rfl) cX9_124 s0 (k9_numberOf hR3 ho3 to) rfl rfl rfl ⟨rfl, rfl⟩ rfl rfl (fun _ => rfl) (fun h' hp => ?_)
    rw [show h' = _ from hp]
    dsimp only [Option.toList, List.cons_append, List.nil_append]
    refine v_lload_n C (oX9_leastNumber.at 38 rfl) rfl ?_
    refine v_lcmp C (oX9_leastNumber.at 39 rfl) ?_
    refine v_if_ge C (oX9_leastNumber.at 40 rfl) (tgt := 88) (by decide) (fun hc => ?_) (fun hc => ?_)
    · have hle : x ≤ hN S (cmT S (mrT S S.2.2.1)) := Nat.not_lt.mp (fun q => Int32.not_lt.mpr hc ((cmp_lt B2 hx).mpr q))
      rw [Nat.min_eq_left hle] at hmx
      refine v_lload_n C (oX9_leastNumber.at 46 rfl) rfl ?_
      refine v_lstore_n C (oX9_leastNumber.at 47 rfl) rfl ?_
      dsimp only [sto1, sto2, killL]
      exact L3 _ hx hmx
    · have hle : hN S (cmT S (mrT S S.2.2.1)) < x := (cmp_lt B2 hx).mp (Int32.not_le.mp hc)
      rw [Nat.min_eq_right (Nat.le_of_lt hle)] at hmx
      refine v_aload_n C (oX9_leastNumber.at 41 rfl) rfl ?_
      refine v_aload_n C (oX9_leastNumber.at 42 rfl) rfl ?_
      refine v_getf C (oX9_leastNumber.at 43 rfl) fX9_44 s0 rfl ?_
      refine v_callV C (oX9_leastNumber.at 44 rfl) cX9_124 s0 (k9_numberOf hR3 ho3 to) rfl rfl rfl ⟨rfl, rfl⟩ rfl rfl (fun _ => rfl) (fun h' hp => ?_)
      rw [show h' = _ from hp]
      dsimp only [Option.toList, List.cons_append, List.nil_append]
      refine v_goto C (oX9_leastNumber.at 45 rfl) (tgt := 89) (by decide) ?_
      refine v_lstore_n C (oX9_leastNumber.at 47 rfl) rfl ?_
      dsimp only [sto1, sto2, killL]
      exact L3 _ B2 hmx
  refine v_aload_n C (oX9_leastNumber.at 20 rfl) rfl ?_
  refine v_aload_n C (oX9_leastNumber.at 21 rfl) rfl ?_
  refine v_getf C (oX9_leastNumber.at 22 rfl) fX9_41 s0 rfl ?_
  refine v_callV C (oX9_leastNumber.at 23 rfl) cX9_124 s0 (k9_numberOf hR3 hm3 tm) rfl rfl rfl ⟨rfl, rfl⟩ rfl rfl (fun _ => rfl) (fun h' hp => ?_)
  rw [show h' = _ from hp]
  dsimp only [Option.toList, List.cons_append, List.nil_append]
  refine v_lload_n C (oX9_leastNumber.at 24 rfl) rfl ?_
  refine v_lcmp C (oX9_leastNumber.at 25 rfl) ?_
  refine v_if_ge C (oX9_leastNumber.at 26 rfl) (tgt := 62) (by decide) (fun hc => ?_) (fun hc => ?_)
  · have hle : hN S S.2.2.1 ≤ hN S (mrT S S.2.2.1) := Nat.not_lt.mp (fun q => Int32.not_lt.mpr hc ((cmp_lt B1 B0).mpr q))
    refine v_lload_n C (oX9_leastNumber.at 32 rfl) rfl ?_
    refine v_lstore_n C (oX9_leastNumber.at 33 rfl) rfl ?_
    dsimp only [sto1, sto2, killL]
    refine L2 _ B0 ?_
    unfold lsN; omega
  · have hle : hN S (mrT S S.2.2.1) < hN S S.2.2.1 := (cmp_lt B1 B0).mp (Int32.not_le.mp hc)
    refine v_aload_n C (oX9_leastNumber.at 27 rfl) rfl ?_
    refine v_aload_n C (oX9_leastNumber.at 28 rfl) rfl ?_
    refine v_getf C (oX9_leastNumber.at 29 rfl) fX9_41 s0 rfl ?_
    refine v_callV C (oX9_leastNumber.at 30 rfl) cX9_124 s0 (k9_numberOf hR3 hm3 tm) rfl rfl rfl ⟨rfl, rfl⟩ rfl rfl (fun _ => rfl) (fun h' hp => ?_)
    rw [show h' = _ from hp]
    dsimp only [Option.toList, List.cons_append, List.nil_append]
    refine v_goto C (oX9_leastNumber.at 31 rfl) (tgt := 63) (by decide) ?_
    refine v_lstore_n C (oX9_leastNumber.at 33 rfl) rfl ?_
    dsimp only [sto1, sto2, killL]
    refine L2 _ B1 ?_
    unfold lsN; omega
