/-! ===== the reference: setWord, apply, orbit ===== -/
theorem RF.set_w {G h : Hp} {th : Nat} {S Z : Sc} {sv : Bool} {F : Sf} {f e : Nat → Int32} {x l v : Nat} (hR : RF G h th S sv Z F) (hf : ∀ i, i < 4 → f i = nI (S.2.2.2.1 i)) (he : ∀ i, i < 4 → e i = nI (S.2.2.2.2 i)) (hl : l ≤ 14) (hv : v < S.1 ^ l) : RF G (hu (hu h 64 (io 4 (upd f x (nI l)))) 65 (io 4 (upd e x (nI v)))) th (withR S x l v) sv Z F := by
  obtain ⟨u, o0, o1, o2⟩ := hR.o
  obtain ⟨g, hg, hT⟩ := hR.tk
  refine hR.set_S (S' := withR S x l v) (h' := hu (hu h 64 (io 4 (upd f x (nI l)))) 65 (io 4 (upd e x (nI v)))) ((hu_n _ _ (by decide)).trans ((hu_n _ _ (by decide)).trans o0)) o1 o2 ((hu_n _ _ (by decide)).trans ((hu_n _ _ (by decide)).trans hg)) hT ((hu_n _ _ (by decide)).trans (hu_s _ _ _)) ?_ (hu_s _ _ _) ?_ ⟨hR.so.1, ?_⟩ (fun j hj => (hu_n _ _ (by omega)).trans (hu_n _ _ (by omega)))
  · intro i hi
    show _ = nI (updN S.2.2.2.1 x l i)
    unfold updN
    by_cases q : i = x
    · rw [q, pk_us, if_pos rfl]
    · rw [pk_un q, if_neg q]; exact hf i hi
  · intro i hi
    show _ = nI (updN S.2.2.2.2 x v i)
    unfold updN
    by_cases q : i = x
    · rw [q, pk_us, if_pos rfl]
    · rw [pk_un q, if_neg q]; exact he i hi
  · intro r hr
    show updN S.2.2.2.1 x l r ≤ 14 ∧ updN S.2.2.2.2 x v r < S.1 ^ updN S.2.2.2.1 x l r
    unfold updN
    by_cases q : r = x
    · rw [if_pos q, if_pos q]; exact ⟨hl, hv⟩
    · rw [if_neg q, if_neg q]; exact hR.so.2 r hr
theorem k9_setWordR {w : Wt} {G h : Hp} {th : Nat} {S Z : Sc} {sv : Bool} {F : Sf} {x y v : Int32} (hR : RF G h th S sv Z F) (hx : ¬ InB x 4) : ConN mX9_setWord 3 (0, 0) w [.ref 62, .int x, .int y, .int v] h (.inl (some (.int (nI 0)))) (fun h' => RF G h' 1 S sv Z F) := by
  obtain ⟨u, o0, o1, o2⟩ := hR.o
  refine conI (by decide +kernel) ⟨fun _ => rfl, rfl, by simp⟩ (fun X C => ?_)
  change V X (0, 0) w h 0 [some (.ref 62), some (.int x), some (.int y), some (.int v), none] []
  refine v_aload_n C (oX9_setWord.at 0 rfl) rfl ?_
  refine v_iload_n C (oX9_setWord.at 1 rfl) rfl ?_
  refine v_callV C (oX9_setWord.at 2 rfl) cX9_213 o0 (k9_isOneF hR hx) rfl rfl rfl ⟨rfl, rfl⟩ rfl rfl (fun _ => rfl) (fun h' hp => ?_)
  dsimp only [Option.toList, List.cons_append, List.nil_append]
  refine v_if_neB C (oX9_setWord.at 3 rfl) (tgt := 10) (by decide) (fun z => absurd z (by decide)) (fun _ => ?_)
  refine v_iconst C (oX9_setWord.at 4 rfl) (v := nI 0) rfl ?_
  exact v_iret C (oX9_setWord.at 5 rfl) rfl rfl ⟨Nat.le_refl _, Nat.le_refl _⟩ ⟨rfl, hp⟩
theorem k9_setWordL {w : Wt} {G h : Hp} {th : Nat} {S Z : Sc} {sv : Bool} {F : Sf} {x : Nat} {y v : Int32} (hR : RF G h th S sv Z F) (hx : x < 4) (hy : ¬ InB y 15) : ConN mX9_setWord 3 (0, 0) w [.ref 62, .int (nI x), .int y, .int v] h (.inl (some (.int (nI 0)))) (fun h' => RF G h' 2 S sv Z F) := by
  obtain ⟨u, o0, o1, o2⟩ := hR.o
  refine conI (by decide +kernel) ⟨fun _ => rfl, rfl, by simp⟩ (fun X C => ?_)
  change V X (0, 0) w h 0 [some (.ref 62), some (.int (nI x)), some (.int y), some (.int v), none] []
  refine v_aload_n C (oX9_setWord.at 0 rfl) rfl ?_
  refine v_iload_n C (oX9_setWord.at 1 rfl) rfl ?_
  refine v_callV C (oX9_setWord.at 2 rfl) cX9_213 o0 (k9_isOneT hR (InB.of hx (by decide))) rfl rfl rfl ⟨rfl, rfl⟩ rfl rfl (fun _ => rfl) (fun h' hp => ?_)
  dsimp only [Option.toList, List.cons_append, List.nil_append]
  have hR1 : RF G h' 0 S sv Z F := hp
  obtain ⟨u1, r0, -⟩ := hR1.o
  clear hp
  obtain ⟨h2, e2⟩ : ∃ z, z = h' := ⟨h', rfl⟩
  rw [← e2] at hR1 r0 ⊢
  refine v_if_neB C (oX9_setWord.at 3 rfl) (tgt := 10) (by decide) (fun _ => ?_) (fun z => absurd z (by decide))
  refine v_iload_n C (oX9_setWord.at 6 rfl) rfl ?_
  refine v_iconst C (oX9_setWord.at 7 rfl) (v := nI 0) rfl ?_
  refine v_bipush C (oX9_setWord.at 8 rfl) (v := nI 14) rfl ?_
  refine v_callS C (oX9_setWord.at 9 rfl) cX9_103 (k_inF 15 (by decide) (by decide) rfl hy) rfl rfl rfl ⟨rfl, rfl⟩ rfl rfl (fun _ => rfl) (fun h' hp => ?_)
  rw [show h' = _ from hp]
  dsimp only [Option.toList, List.cons_append, List.nil_append]
  refine v_if_eqB C (oX9_setWord.at 10 rfl) (tgt := 35) (by decide) (fun _ => ?_) (fun z => absurd z (by decide))
  refine v_aload_n C (oX9_setWord.at 20 rfl) rfl ?_
  refine v_iconst C (oX9_setWord.at 21 rfl) (v := nI 2) rfl ?_
  refine v_callV C (oX9_setWord.at 22 rfl) cX9_111 r0 (k9_noR hR1) rfl rfl rfl ⟨rfl, rfl⟩ rfl rfl (fun _ => rfl) (fun h' hp => ?_)
  dsimp only [Option.toList, List.cons_append, List.nil_append]
  exact v_iret C (oX9_setWord.at 23 rfl) rfl rfl ⟨Nat.le_refl _, Nat.le_refl _⟩ ⟨rfl, hp⟩
theorem k9_setWordI {w : Wt} {G h : Hp} {th : Nat} {S Z : Sc} {sv : Bool} {F : Sf} {x l : Nat} {v : Int32} (hR : RF G h th S sv Z F) (hx : x < 4) (hl : l ≤ 14) (hv : ¬ InB v (S.1 ^ l)) : ConN mX9_setWord 3 (0, 0) w [.ref 62, .int (nI x), .int (nI l), .int v] h (.inl (some (.int (nI 0)))) (fun h' => RF G h' 2 S sv Z F) := by
  obtain ⟨u, o0, o1, o2⟩ := hR.o
  have hk := hR.so.1.k
  have p0 : 0 < S.1 ^ l := Nat.pow_pos (by omega)
  have p1 := pw14 hk (n := l) (by omega)
  refine conI (by decide +kernel) ⟨fun _ => rfl, rfl, by simp⟩ (fun X C => ?_)
  change V X (0, 0) w h 0 [some (.ref 62), some (.int (nI x)), some (.int (nI l)), some (.int v), none] []
  refine v_aload_n C (oX9_setWord.at 0 rfl) rfl ?_
  refine v_iload_n C (oX9_setWord.at 1 rfl) rfl ?_
  refine v_callV C (oX9_setWord.at 2 rfl) cX9_213 o0 (k9_isOneT hR (InB.of hx (by decide))) rfl rfl rfl ⟨rfl, rfl⟩ rfl rfl (fun _ => rfl) (fun h' hp => ?_)
  dsimp only [Option.toList, List.cons_append, List.nil_append]
  have hR1 : RF G h' 0 S sv Z F := hp
  clear hp
  obtain ⟨h2, e2⟩ : ∃ z, z = h' := ⟨h', rfl⟩
  rw [← e2] at hR1 ⊢
  obtain ⟨u1, r0, -, r2⟩ := hR1.o
  refine v_if_neB C (oX9_setWord.at 3 rfl) (tgt := 10) (by decide) (fun _ => ?_) (fun z => absurd z (by decide))
  refine v_iload_n C (oX9_setWord.at 6 rfl) rfl ?_
  refine v_iconst C (oX9_setWord.at 7 rfl) (v := nI 0) rfl ?_
  refine v_bipush C (oX9_setWord.at 8 rfl) (v := nI 14) rfl ?_
  refine v_callS C (oX9_setWord.at 9 rfl) cX9_103 (k_inT 15 (by decide) (by decide) rfl (InB.of (show l < 15 by omega) (by decide))) rfl rfl rfl ⟨rfl, rfl⟩ rfl rfl (fun _ => rfl) (fun h' hp => ?_)
  rw [show h' = _ from hp]
  dsimp only [Option.toList, List.cons_append, List.nil_append]
  refine v_if_eqB C (oX9_setWord.at 10 rfl) (tgt := 35) (by decide) (fun z => absurd z (by decide)) (fun _ => ?_)
  refine v_iload_n C (oX9_setWord.at 11 rfl) rfl ?_
  refine v_iconst C (oX9_setWord.at 12 rfl) (v := nI 0) rfl ?_
  refine v_aload_n C (oX9_setWord.at 13 rfl) rfl ?_
  refine v_iload_n C (oX9_setWord.at 14 rfl) rfl ?_
  refine v_callV C (oX9_setWord.at 15 rfl) cX9_99 r0 (k9_power r0 r2.1 (by omega)) rfl rfl rfl ⟨rfl, rfl⟩ rfl rfl (fun _ => rfl) (fun h' hp => ?_)
  rw [show h' = _ from hp]
  dsimp only [Option.toList, List.cons_append, List.nil_append]
  refine v_iconst C (oX9_setWord.at 16 rfl) (v := nI 1) rfl ?_
  refine v_isubN C (oX9_setWord.at 17 rfl) (by omega) ?_
  refine v_callS C (oX9_setWord.at 18 rfl) cX9_103 (k_inF (S.1 ^ l) p0 (by omega) rfl hv) rfl rfl rfl ⟨rfl, rfl⟩ rfl rfl (fun _ => rfl) (fun h' hp => ?_)
  rw [show h' = _ from hp]
  dsimp only [Option.toList, List.cons_append, List.nil_append]
  refine v_if_neB C (oX9_setWord.at 19 rfl) (tgt := 41) (by decide) (fun z => absurd z (by decide)) (fun _ => ?_)
  refine v_aload_n C (oX9_setWord.at 20 rfl) rfl ?_
  refine v_iconst C (oX9_setWord.at 21 rfl) (v := nI 2) rfl ?_
  refine v_callV C (oX9_setWord.at 22 rfl) cX9_111 r0 (k9_noR hR1) rfl rfl rfl ⟨rfl, rfl⟩ rfl rfl (fun _ => rfl) (fun h' hp => ?_)
  dsimp only [Option.toList, List.cons_append, List.nil_append]
  exact v_iret C (oX9_setWord.at 23 rfl) rfl rfl ⟨Nat.le_refl _, Nat.le_refl _⟩ ⟨rfl, hp⟩
theorem k9_setWord {w : Wt} {G h : Hp} {th : Nat} {S Z : Sc} {sv : Bool} {F : Sf} {x l v : Nat} (hR : RF G h th S sv Z F) (hx : x < 4) (hl : l ≤ 14) (hv : v < S.1 ^ l) : ConN mX9_setWord 3 (0, 0) w [.ref 62, .int (nI x), .int (nI l), .int (nI v)] h (.inl (some (.int (nI (S.2.2.2.1 x))))) (fun h' => RF G h' 0 (withR S x l v) sv Z F) := by
  obtain ⟨u, o0, o1, o2⟩ := hR.o
  have hk := hR.so.1.k
  have p0 : 0 < S.1 ^ l := Nat.pow_pos (by omega)
  have p1 := pw14 hk (n := l) (by omega)
  refine conI (by decide +kernel) ⟨fun _ => rfl, rfl, by simp⟩ (fun X C => ?_)
  change V X (0, 0) w h 0 [some (.ref 62), some (.int (nI x)), some (.int (nI l)), some (.int (nI v)), none] []
  refine v_aload_n C (oX9_setWord.at 0 rfl) rfl ?_
  refine v_iload_n C (oX9_setWord.at 1 rfl) rfl ?_
  refine v_callV C (oX9_setWord.at 2 rfl) cX9_213 o0 (k9_isOneT hR (InB.of hx (by decide))) rfl rfl rfl ⟨rfl, rfl⟩ rfl rfl (fun _ => rfl) (fun h' hp => ?_)
  dsimp only [Option.toList, List.cons_append, List.nil_append]
  have hR1 : RF G h' 0 S sv Z F := hp
  clear hp
  obtain ⟨h2, e2⟩ : ∃ z, z = h' := ⟨h', rfl⟩
  rw [← e2] at hR1 ⊢
  obtain ⟨u1, r0, -, r2⟩ := hR1.o
  obtain ⟨f, hf, hL⟩ := hR1.rl
  obtain ⟨e, he, hI⟩ := hR1.ri
  refine v_if_neB C (oX9_setWord.at 3 rfl) (tgt := 10) (by decide) (fun _ => ?_) (fun z => absurd z (by decide))
  refine v_iload_n C (oX9_setWord.at 6 rfl) rfl ?_
  refine v_iconst C (oX9_setWord.at 7 rfl) (v := nI 0) rfl ?_
  refine v_bipush C (oX9_setWord.at 8 rfl) (v := nI 14) rfl ?_
  refine v_callS C (oX9_setWord.at 9 rfl) cX9_103 (k_inT 15 (by decide) (by decide) rfl (InB.of (show l < 15 by omega) (by decide))) rfl rfl rfl ⟨rfl, rfl⟩ rfl rfl (fun _ => rfl) (fun h' hp => ?_)
  rw [show h' = _ from hp]
  dsimp only [Option.toList, List.cons_append, List.nil_append]
  refine v_if_eqB C (oX9_setWord.at 10 rfl) (tgt := 35) (by decide) (fun z => absurd z (by decide)) (fun _ => ?_)
  refine v_iload_n C (oX9_setWord.at 11 rfl) rfl ?_
  refine v_iconst C (oX9_setWord.at 12 rfl) (v := nI 0) rfl ?_
  refine v_aload_n C (oX9_setWord.at 13 rfl) rfl ?_
  refine v_iload_n C (oX9_setWord.at 14 rfl) rfl ?_
  refine v_callV C (oX9_setWord.at 15 rfl) cX9_99 r0 (k9_power r0 r2.1 (by omega)) rfl rfl rfl ⟨rfl, rfl⟩ rfl rfl (fun _ => rfl) (fun h' hp => ?_)
  rw [show h' = _ from hp]
  dsimp only [Option.toList, List.cons_append, List.nil_append]
  refine v_iconst C (oX9_setWord.at 16 rfl) (v := nI 1) rfl ?_
  refine v_isubN C (oX9_setWord.at 17 rfl) (by omega) ?_
  refine v_callS C (oX9_setWord.at 18 rfl) cX9_103 (k_inT (S.1 ^ l) p0 (by omega) rfl (InB.of hv (by omega))) rfl rfl rfl ⟨rfl, rfl⟩ rfl rfl (fun _ => rfl) (fun h' hp => ?_)
  rw [show h' = _ from hp]
  dsimp only [Option.toList, List.cons_append, List.nil_append]
  refine v_if_neB C (oX9_setWord.at 19 rfl) (tgt := 41) (by decide) (fun _ => ?_) (fun z => absurd z (by decide))
  refine v_aload_n C (oX9_setWord.at 24 rfl) rfl ?_
  refine v_getf C (oX9_setWord.at 25 rfl) fX9_20 r0 rfl ?_
  refine v_iload_n C (oX9_setWord.at 26 rfl) rfl ?_
  refine v_iald C (oX9_setWord.at 27 rfl) hf (by decide) rfl (by omega) (hL x hx) ?_
  refine v_istore C (oX9_setWord.at 28 rfl) rfl ?_
  refine v_aload_n C (oX9_setWord.at 29 rfl) rfl ?_
  refine v_getf C (oX9_setWord.at 30 rfl) fX9_20 r0 rfl ?_
  refine v_iload_n C (oX9_setWord.at 31 rfl) rfl ?_
  refine v_iload_n C (oX9_setWord.at 32 rfl) rfl ?_
  refine v_iast C (oX9_setWord.at 33 rfl) hf (by decide) rfl (by omega) ?_
  dsimp only [sto1, sto2, killL]
  refine v_aload_n C (oX9_setWord.at 34 rfl) rfl ?_
  refine v_getf C (oX9_setWord.at 35 rfl) fX9_23 ((hu_n _ _ (by decide)).trans r0) rfl ?_
  refine v_iload_n C (oX9_setWord.at 36 rfl) rfl ?_
  refine v_iload_n C (oX9_setWord.at 37 rfl) rfl ?_
  refine v_iast C (oX9_setWord.at 38 rfl) ((hu_n _ _ (by decide)).trans he) (by decide) rfl (by omega) ?_
  refine v_iload C (oX9_setWord.at 39 rfl) rfl ?_
  exact v_iret C (oX9_setWord.at 40 rfl) rfl rfl ⟨Nat.le_refl _, Nat.le_refl _⟩ ⟨rfl, hR1.set_w hL hI hl hv⟩
theorem k9_applyR {w : Wt} {G h : Hp} {th : Nat} {S Z : Sc} {sv : Bool} {F : Sf} {x y : Int32} (hR : RF G h th S sv Z F) (hx : ¬ InB x 4) : ConN mX9_apply 3 (0, 0) w [.ref 62, .int x, .int y] h (.inl (some (.int (nI 0)))) (fun h' => RF G h' 1 S sv Z F) := by
  obtain ⟨u, o0, o1, o2⟩ := hR.o
  refine conI (by decide +kernel) ⟨fun _ => rfl, rfl, by simp⟩ (fun X C => ?_)
  change V X (0, 0) w h 0 [some (.ref 62), some (.int x), some (.int y)] []
  refine v_aload_n C (oX9_apply.at 0 rfl) rfl ?_
  refine v_iload_n C (oX9_apply.at 1 rfl) rfl ?_
  refine v_callV C (oX9_apply.at 2 rfl) cX9_213 o0 (k9_isOneF hR hx) rfl rfl rfl ⟨rfl, rfl⟩ rfl rfl (fun _ => rfl) (fun h' hp => ?_)
  dsimp only [Option.toList, List.cons_append, List.nil_append]
  refine v_if_neB C (oX9_apply.at 3 rfl) (tgt := 10) (by decide) (fun z => absurd z (by decide)) (fun _ => ?_)
  refine v_iconst C (oX9_apply.at 4 rfl) (v := nI 0) rfl ?_
  exact v_iret C (oX9_apply.at 5 rfl) rfl rfl ⟨Nat.le_refl _, Nat.le_refl _⟩ ⟨rfl, hp⟩
theorem k9_applyX {w : Wt} {G h : Hp} {th : Nat} {S Z : Sc} {sv : Bool} {F : Sf} {x : Nat} {c : Bool} (hR : RF G h th S sv Z F) (hx : x < 4) (hl : S.2.2.2.1 x < if c then 1 else S.2.1) : ConN mX9_apply 3 (0, 0) w [.ref 62, .int (nI x), .int (bI c)] h (.inl (some (.int (nI 0)))) (fun h' => RF G h' 2 S sv Z F) := by
  obtain ⟨u, o0, o1, o2⟩ := hR.o
  obtain ⟨b1, b2⟩ := hR.so.2 x hx
  have hw := hR.so.1.w
  refine conI (by decide +kernel) ⟨fun _ => rfl, rfl, by simp⟩ (fun X C => ?_)
  change V X (0, 0) w h 0 [some (.ref 62), some (.int (nI x)), some (.int (bI c))] []
  refine v_aload_n C (oX9_apply.at 0 rfl) rfl ?_
  refine v_iload_n C (oX9_apply.at 1 rfl) rfl ?_
  refine v_callV C (oX9_apply.at 2 rfl) cX9_213 o0 (k9_isOneT hR (InB.of hx (by decide))) rfl rfl rfl ⟨rfl, rfl⟩ rfl rfl (fun _ => rfl) (fun h' hp => ?_)
  dsimp only [Option.toList, List.cons_append, List.nil_append]
  have hR1 : RF G h' 0 S sv Z F := hp
  clear hp
  obtain ⟨h2, e2⟩ : ∃ z, z = h' := ⟨h', rfl⟩
  rw [← e2] at hR1 ⊢
  obtain ⟨u1, r0, -, r2⟩ := hR1.o
  obtain ⟨f, hf, hL⟩ := hR1.rl
  cases c with
  | false =>
    rw [if_neg (by decide)] at hl
    refine v_if_neB C (oX9_apply.at 3 rfl) (tgt := 10) (by decide) (fun _ => ?_) (fun z => absurd z (by decide))
    refine v_aload_n C (oX9_apply.at 6 rfl) rfl ?_
    refine v_getf C (oX9_apply.at 7 rfl) fX9_20 r0 rfl ?_
    refine v_iload_n C (oX9_apply.at 8 rfl) rfl ?_
    refine v_iald C (oX9_apply.at 9 rfl) hf (by decide) rfl (by omega) (hL x hx) ?_
    refine v_iload_n C (oX9_apply.at 10 rfl) rfl ?_
    refine v_if_eqB C (oX9_apply.at 11 rfl) (tgt := 24) (by decide) (fun _ => ?_) (fun z => absurd z (by decide))
    refine v_aload_n C (oX9_apply.at 14 rfl) rfl ?_
    refine v_getf C (oX9_apply.at 15 rfl) fX9_13 r0 (congrArg (fun z => some (Value.int z)) (r2.2.1)) ?_
    refine v_icmp_geN C (oX9_apply.at 16 rfl) (tgt := 37) (by decide) (by omega) (by omega) (fun hc => absurd hc (by omega)) (fun hc => ?_)
    refine v_aload_n C (oX9_apply.at 17 rfl) rfl ?_
    refine v_iconst C (oX9_apply.at 18 rfl) (v := nI 2) rfl ?_
    refine v_callV C (oX9_apply.at 19 rfl) cX9_111 r0 (k9_noR hR1) rfl rfl rfl ⟨rfl, rfl⟩ rfl rfl (fun _ => rfl) (fun h' hp => ?_)
    dsimp only [Option.toList, List.cons_append, List.nil_append]
    exact v_iret C (oX9_apply.at 20 rfl) rfl rfl ⟨Nat.le_refl _, Nat.le_refl _⟩ ⟨rfl, hp⟩
  | true =>
    rw [if_pos rfl] at hl
    refine v_if_neB C (oX9_apply.at 3 rfl) (tgt := 10) (by decide) (fun _ => ?_) (fun z => absurd z (by decide))
    refine v_aload_n C (oX9_apply.at 6 rfl) rfl ?_
    refine v_getf C (oX9_apply.at 7 rfl) fX9_20 r0 rfl ?_
    refine v_iload_n C (oX9_apply.at 8 rfl) rfl ?_
    refine v_iald C (oX9_apply.at 9 rfl) hf (by decide) rfl (by omega) (hL x hx) ?_
    refine v_iload_n C (oX9_apply.at 10 rfl) rfl ?_
    refine v_if_eqB C (oX9_apply.at 11 rfl) (tgt := 24) (by decide) (fun z => absurd z (by decide)) (fun _ => ?_)
    refine v_iconst C (oX9_apply.at 12 rfl) (v := nI 1) rfl ?_
    refine v_goto C (oX9_apply.at 13 rfl) (tgt := 28) (by decide) ?_
    refine v_icmp_geN C (oX9_apply.at 16 rfl) (tgt := 37) (by decide) (by omega) (by omega) (fun hc => absurd hc (by omega)) (fun hc => ?_)
    refine v_aload_n C (oX9_apply.at 17 rfl) rfl ?_
    refine v_iconst C (oX9_apply.at 18 rfl) (v := nI 2) rfl ?_
    refine v_callV C (oX9_apply.at 19 rfl) cX9_111 r0 (k9_noR hR1) rfl rfl rfl ⟨rfl, rfl⟩ rfl rfl (fun _ => rfl) (fun h' hp => ?_)
    dsimp only [Option.toList, List.cons_append, List.nil_append]
    exact v_iret C (oX9_apply.at 20 rfl) rfl rfl ⟨Nat.le_refl _, Nat.le_refl _⟩ ⟨rfl, hp⟩
theorem k9_apply {w : Wt} {G h : Hp} {th : Nat} {S Z : Sc} {sv : Bool} {F : Sf} {x : Nat} {c : Bool} (hR : RF G h th S sv Z F) (hx : x < 4) (hl : (if c then 1 else S.2.1) ≤ S.2.2.2.1 x) : ConN mX9_apply 3 (0, 0) w [.ref 62, .int (nI x), .int (bI c)] h (.inl (some (.int (nI ((appS S x c).2.2.2.1 x))))) (fun h' => RF G h' 0 (appS S x c) sv Z F) := by
  obtain ⟨u, o0, o1, o2⟩ := hR.o
  obtain ⟨b1, b2⟩ := hR.so.2 x hx
  have hw := hR.so.1.w
  have hk := hR.so.1.k
  have p4 := pw14 hk (n := S.2.2.2.1 x) (by omega)
  refine conI (by decide +kernel) ⟨fun _ => rfl, rfl, by simp⟩ (fun X C => ?_)
  change V X (0, 0) w h 0 [some (.ref 62), some (.int (nI x)), some (.int (bI c))] []
  refine v_aload_n C (oX9_apply.at 0 rfl) rfl ?_
  refine v_iload_n C (oX9_apply.at 1 rfl) rfl ?_
  refine v_callV C (oX9_apply.at 2 rfl) cX9_213 o0 (k9_isOneT hR (InB.of hx (by decide))) rfl rfl rfl ⟨rfl, rfl⟩ rfl rfl (fun _ => rfl) (fun h' hp => ?_)
  dsimp only [Option.toList, List.cons_append, List.nil_append]
  have hR1 : RF G h' 0 S sv Z F := hp
  clear hp
  obtain ⟨h2, e2⟩ : ∃ z, z = h' := ⟨h', rfl⟩
  rw [← e2] at hR1 ⊢
  obtain ⟨u1, r0, -, r2⟩ := hR1.o
  obtain ⟨f, hf, hL⟩ := hR1.rl
  obtain ⟨e, he, hI⟩ := hR1.ri
  obtain ⟨g, hg, hT⟩ := hR1.tk
  have b0 : ∀ y, hu h2 65 y 62 = MO u1 := fun y => (hu_n _ _ (by decide)).trans r0
  have b4 : ∀ y, hu h2 65 y 64 = io 4 f := fun y => (hu_n _ _ (by decide)).trans hf
  have c0 : ∀ y z, hu (hu h2 65 y) 64 z 62 = MO u1 := fun y z => (hu_n _ _ (by decide)).trans (b0 _)
  cases c with
  | true =>
    rw [if_pos rfl] at hl
    unfold appS at C
    rw [if_pos rfl] at C
    have ec : (withR S x (S.2.2.2.1 x) (cimg S.1 S.2.1 S.2.2.1 (S.2.2.2.1 x) (S.2.2.2.2 x))).2.2.2.1 x = S.2.2.2.1 x := by show updN _ _ _ x = _; unfold updN; rw [if_pos rfl]
    rw [ec] at C
    refine v_if_neB C (oX9_apply.at 3 rfl) (tgt := 10) (by decide) (fun _ => ?_) (fun z => absurd z (by decide))
    refine v_aload_n C (oX9_apply.at 6 rfl) rfl ?_
    refine v_getf C (oX9_apply.at 7 rfl) fX9_20 r0 rfl ?_
    refine v_iload_n C (oX9_apply.at 8 rfl) rfl ?_
    refine v_iald C (oX9_apply.at 9 rfl) hf (by decide) rfl (by omega) (hL x hx) ?_
    refine v_iload_n C (oX9_apply.at 10 rfl) rfl ?_
    refine v_if_eqB C (oX9_apply.at 11 rfl) (tgt := 24) (by decide) (fun z => absurd z (by decide)) (fun _ => ?_)
    refine v_iconst C (oX9_apply.at 12 rfl) (v := nI 1) rfl ?_
    refine v_goto C (oX9_apply.at 13 rfl) (tgt := 28) (by decide) ?_
    refine v_icmp_geN C (oX9_apply.at 16 rfl) (tgt := 37) (by decide) (by omega) (by omega) (fun hc => ?_) (fun hc => absurd hc (by omega))
    refine v_aload_n C (oX9_apply.at 21 rfl) rfl ?_
    refine v_getf C (oX9_apply.at 22 rfl) fX9_23 r0 rfl ?_
    refine v_iload_n C (oX9_apply.at 23 rfl) rfl ?_
    refine v_iload_n C (oX9_apply.at 24 rfl) rfl ?_
    refine v_if_eqB C (oX9_apply.at 25 rfl) (tgt := 65) (by decide) (fun z => absurd z (by decide)) (fun _ => ?_)
    refine v_aload_n C (oX9_apply.at 26 rfl) rfl ?_
    refine v_aload_n C (oX9_apply.at 27 rfl) rfl ?_
    refine v_getf C (oX9_apply.at 28 rfl) fX9_23 r0 rfl ?_
    refine v_iload_n C (oX9_apply.at 29 rfl) rfl ?_
    refine v_iald C (oX9_apply.at 30 rfl) he (by decide) rfl (by omega) (hI x hx) ?_
    refine v_aload_n C (oX9_apply.at 31 rfl) rfl ?_
    refine v_getf C (oX9_apply.at 32 rfl) fX9_20 r0 rfl ?_
    refine v_iload_n C (oX9_apply.at 33 rfl) rfl ?_
    refine v_iald C (oX9_apply.at 34 rfl) hf (by decide) rfl (by omega) (hL x hx) ?_
    refine v_callV C (oX9_apply.at 35 rfl) cX9_219 r0 (k9_cyclicImage r0 r2.1 r2.2.1 hR.so.1 (by omega) b1 hg (fun i hi => (hT i hi).1)) rfl rfl rfl ⟨rfl, rfl⟩ rfl rfl (fun _ => rfl) (fun h' hp => ?_)
    rw [show h' = _ from hp]
    dsimp only [Option.toList, List.cons_append, List.nil_append]
    refine v_goto C (oX9_apply.at 36 rfl) (tgt := 89) (by decide) ?_
    refine v_iast C (oX9_apply.at 51 rfl) he (by decide) rfl (by omega) ?_
    refine v_aload_n C (oX9_apply.at 52 rfl) rfl ?_
    refine v_getf C (oX9_apply.at 53 rfl) fX9_20 (b0 _) rfl ?_
    refine v_iload_n C (oX9_apply.at 54 rfl) rfl ?_
    refine v_dup2 C (oX9_apply.at 55 rfl) rfl rfl ?_
    refine v_iald C (oX9_apply.at 56 rfl) (b4 _) (by decide) rfl (by omega) (hL x hx) ?_
    refine v_iload_n C (oX9_apply.at 57 rfl) rfl ?_
    refine v_if_eqB C (oX9_apply.at 58 rfl) (tgt := 105) (by decide) (fun z => absurd z (by decide)) (fun _ => ?_)
    refine v_iconst C (oX9_apply.at 59 rfl) (v := nI 0) rfl ?_
    refine v_goto C (oX9_apply.at 60 rfl) (tgt := 111) (by decide) ?_
    refine v_isubN C (oX9_apply.at 65 rfl) (by omega) ?_
    refine v_iast C (oX9_apply.at 66 rfl) (b4 _) (by decide) rfl (by omega) ?_
    rw [hu_c _ _ _ (by decide)]
    rw [Nat.sub_zero]
    have hF := hR1.set_w (x := x) hL hI b1 (cimg_lt (k := S.1) (wd := S.2.1) (T := S.2.2.1) (by omega) (fun i hi => (hT i hi).2) (S.2.2.2.1 x) (S.2.2.2.2 x))
    refine v_aload_n C (oX9_apply.at 67 rfl) rfl ?_
    refine v_getf C (oX9_apply.at 68 rfl) fX9_20 ((hu_n _ _ (by decide)).trans ((hu_n _ _ (by decide)).trans r0)) rfl ?_
    refine v_iload_n C (oX9_apply.at 69 rfl) rfl ?_
    refine v_iald C (oX9_apply.at 70 rfl) ((hu_n _ _ (by decide)).trans (hu_s _ _ _)) (by decide) rfl (by omega) pk_us ?_
    exact v_iret C (oX9_apply.at 71 rfl) rfl rfl ⟨Nat.le_refl _, Nat.le_refl _⟩ ⟨rfl, hF⟩
  | false =>
    rw [if_neg (by decide)] at hl
    unfold appS at C
    rw [if_neg (by decide)] at C
    have ec : (withR S x (S.2.2.2.1 x - S.2.1 + 1) (limg S.1 S.2.1 S.2.2.1 (S.2.2.2.1 x) (S.2.2.2.2 x))).2.2.2.1 x = S.2.2.2.1 x - S.2.1 + 1 := by show updN _ _ _ x = _; unfold updN; rw [if_pos rfl]
    rw [ec] at C
    refine v_if_neB C (oX9_apply.at 3 rfl) (tgt := 10) (by decide) (fun _ => ?_) (fun z => absurd z (by decide))
    refine v_aload_n C (oX9_apply.at 6 rfl) rfl ?_
    refine v_getf C (oX9_apply.at 7 rfl) fX9_20 r0 rfl ?_
    refine v_iload_n C (oX9_apply.at 8 rfl) rfl ?_
    refine v_iald C (oX9_apply.at 9 rfl) hf (by decide) rfl (by omega) (hL x hx) ?_
    refine v_iload_n C (oX9_apply.at 10 rfl) rfl ?_
    refine v_if_eqB C (oX9_apply.at 11 rfl) (tgt := 24) (by decide) (fun _ => ?_) (fun z => absurd z (by decide))
    refine v_aload_n C (oX9_apply.at 14 rfl) rfl ?_
    refine v_getf C (oX9_apply.at 15 rfl) fX9_13 r0 (congrArg (fun z => some (Value.int z)) (r2.2.1)) ?_
    refine v_icmp_geN C (oX9_apply.at 16 rfl) (tgt := 37) (by decide) (by omega) (by omega) (fun hc => ?_) (fun hc => absurd hc (by omega))
    refine v_aload_n C (oX9_apply.at 21 rfl) rfl ?_
    refine v_getf C (oX9_apply.at 22 rfl) fX9_23 r0 rfl ?_
    refine v_iload_n C (oX9_apply.at 23 rfl) rfl ?_
    refine v_iload_n C (oX9_apply.at 24 rfl) rfl ?_
    refine v_if_eqB C (oX9_apply.at 25 rfl) (tgt := 65) (by decide) (fun _ => ?_) (fun z => absurd z (by decide))
    refine v_aload_n C (oX9_apply.at 37 rfl) rfl ?_
    refine v_aload_n C (oX9_apply.at 38 rfl) rfl ?_
    refine v_getf C (oX9_apply.at 39 rfl) fX9_23 r0 rfl ?_
    refine v_iload_n C (oX9_apply.at 40 rfl) rfl ?_
    refine v_iald C (oX9_apply.at 41 rfl) he (by decide) rfl (by omega) (hI x hx) ?_
    refine v_aload_n C (oX9_apply.at 42 rfl) rfl ?_
    refine v_getf C (oX9_apply.at 43 rfl) fX9_20 r0 rfl ?_
    refine v_iload_n C (oX9_apply.at 44 rfl) rfl ?_
    refine v_iald C (oX9_apply.at 45 rfl) hf (by decide) rfl (by omega) (hL x hx) ?_
    refine v_aload_n C (oX9_apply.at 46 rfl) rfl ?_
    refine v_getf C (oX9_apply.at 47 rfl) fX9_16 r0 rfl ?_
    refine v_aload_n C (oX9_apply.at 48 rfl) rfl ?_
    refine v_getf C (oX9_apply.at 49 rfl) fX9_13 r0 (congrArg (fun z => some (Value.int z)) (r2.2.1)) ?_
    refine v_callV C (oX9_apply.at 50 rfl) cX9_145 r0 (k9_imageOf r0 r2.1 hR.so.1 (by omega) (by omega) hl hg (fun i hi => (hT i hi).1)) rfl rfl rfl ⟨rfl, rfl⟩ rfl rfl (fun _ => rfl) (fun h' hp => ?_)
    rw [show h' = _ from hp]
    dsimp only [Option.toList, List.cons_append, List.nil_append]
    refine v_iast C (oX9_apply.at 51 rfl) he (by decide) rfl (by omega) ?_
    refine v_aload_n C (oX9_apply.at 52 rfl) rfl ?_
    refine v_getf C (oX9_apply.at 53 rfl) fX9_20 (b0 _) rfl ?_
    refine v_iload_n C (oX9_apply.at 54 rfl) rfl ?_
    refine v_dup2 C (oX9_apply.at 55 rfl) rfl rfl ?_
    refine v_iald C (oX9_apply.at 56 rfl) (b4 _) (by decide) rfl (by omega) (hL x hx) ?_
    refine v_iload_n C (oX9_apply.at 57 rfl) rfl ?_
    refine v_if_eqB C (oX9_apply.at 58 rfl) (tgt := 105) (by decide) (fun _ => ?_) (fun z => absurd z (by decide))
    refine v_aload_n C (oX9_apply.at 61 rfl) rfl ?_
    refine v_getf C (oX9_apply.at 62 rfl) fX9_13 (b0 _) (congrArg (fun z => some (Value.int z)) (r2.2.1)) ?_
    refine v_iconst C (oX9_apply.at 63 rfl) (v := nI 1) rfl ?_
    refine v_isubN C (oX9_apply.at 64 rfl) (by omega) ?_
    refine v_isubN C (oX9_apply.at 65 rfl) (by omega) ?_
    refine v_iast C (oX9_apply.at 66 rfl) (b4 _) (by decide) rfl (by omega) ?_
    rw [hu_c _ _ _ (by decide)]
    rw [show S.2.2.2.1 x - (S.2.1 - 1) = S.2.2.2.1 x - S.2.1 + 1 by omega]
    have hF := hR1.set_w (x := x) hL hI (show S.2.2.2.1 x - S.2.1 + 1 ≤ 14 by omega) (limg_lt (k := S.1) (wd := S.2.1) (T := S.2.2.1) (by omega) (fun i hi => (hT i hi).2) (S.2.2.2.1 x) (S.2.2.2.2 x))
    refine v_aload_n C (oX9_apply.at 67 rfl) rfl ?_
    refine v_getf C (oX9_apply.at 68 rfl) fX9_20 ((hu_n _ _ (by decide)).trans ((hu_n _ _ (by decide)).trans r0)) rfl ?_
    refine v_iload_n C (oX9_apply.at 69 rfl) rfl ?_
    refine v_iald C (oX9_apply.at 70 rfl) ((hu_n _ _ (by decide)).trans (hu_s _ _ _)) (by decide) rfl (by omega) pk_us ?_
    exact v_iret C (oX9_apply.at 71 rfl) rfl rfl ⟨Nat.le_refl _, Nat.le_refl _⟩ ⟨rfl, hF⟩
theorem k9_orbitR {w : Wt} {G h : Hp} {th : Nat} {S Z : Sc} {sv : Bool} {F : Sf} {x y : Int32} (hR : RF G h th S sv Z F) (hx : ¬ InB x 4) : ConN mX9_orbit 2 (0, 0) w [.ref 62, .int x, .int y] h (.inl (some (.int (nI 0)))) (fun h' => RF G h' 1 S sv Z F) := by
  refine conI (by decide +kernel) ⟨fun _ => rfl, rfl, by simp⟩ (fun X C => ?_)
  change V X (0, 0) w h 0 [some (.ref 62), some (.int x), some (.int y), none, none] []
  refine v_aload_n C (oX9_orbit.at 0 rfl) rfl ?_
  refine v_iconst C (oX9_orbit.at 1 rfl) (v := nI 0) rfl ?_
  refine v_thr C (oX9_orbit.at 2 rfl) fX9_96 hR (fun h1 u1 hR1 q0 qt qm => ?_)
  refine v_iload_n C (oX9_orbit.at 3 rfl) rfl ?_
  refine v_callS C (oX9_orbit.at 4 rfl) cX9_210 (k_regF hx) rfl rfl rfl ⟨rfl, rfl⟩ rfl rfl (fun _ => rfl) (fun h' hp => ?_)
  rw [show h' = _ from hp]
  dsimp only [Option.toList, List.cons_append, List.nil_append]
  refine v_if_eqB C (oX9_orbit.at 5 rfl) (tgt := 21) (by decide) (fun _ => ?_) (fun z => absurd z (by decide))
  refine v_aload_n C (oX9_orbit.at 11 rfl) rfl ?_
  refine v_iconst C (oX9_orbit.at 12 rfl) (v := nI 1) rfl ?_
  refine v_callV C (oX9_orbit.at 13 rfl) cX9_111 q0 (k9_noR hR1) rfl rfl rfl ⟨rfl, rfl⟩ rfl rfl (fun _ => rfl) (fun h' hp => ?_)
  dsimp only [Option.toList, List.cons_append, List.nil_append]
  exact v_iret C (oX9_orbit.at 14 rfl) rfl rfl ⟨Nat.le_refl _, Nat.le_refl _⟩ ⟨rfl, hp⟩
theorem k9_orbitB {w : Wt} {G h : Hp} {th : Nat} {S Z : Sc} {sv : Bool} {F : Sf} {x : Nat} {y : Int32} (hR : RF G h th S sv Z F) (hx : x < 4) (hy : ¬ InB y 2) : ConN mX9_orbit 2 (0, 0) w [.ref 62, .int (nI x), .int y] h (.inl (some (.int (nI 0)))) (fun h' => RF G h' 1 S sv Z F) := by
  refine conI (by decide +kernel) ⟨fun _ => rfl, rfl, by simp⟩ (fun X C => ?_)
  change V X (0, 0) w h 0 [some (.ref 62), some (.int (nI x)), some (.int y), none, none] []
  refine v_aload_n C (oX9_orbit.at 0 rfl) rfl ?_
  refine v_iconst C (oX9_orbit.at 1 rfl) (v := nI 0) rfl ?_
  refine v_thr C (oX9_orbit.at 2 rfl) fX9_96 hR (fun h1 u1 hR1 q0 qt qm => ?_)
  refine v_iload_n C (oX9_orbit.at 3 rfl) rfl ?_
  refine v_callS C (oX9_orbit.at 4 rfl) cX9_210 (k_regT (InB.of hx (by decide))) rfl rfl rfl ⟨rfl, rfl⟩ rfl rfl (fun _ => rfl) (fun h' hp => ?_)
  rw [show h' = _ from hp]
  dsimp only [Option.toList, List.cons_append, List.nil_append]
  refine v_if_eqB C (oX9_orbit.at 5 rfl) (tgt := 21) (by decide) (fun z => absurd z (by decide)) (fun _ => ?_)
  refine v_iload_n C (oX9_orbit.at 6 rfl) rfl ?_
  refine v_iconst C (oX9_orbit.at 7 rfl) (v := nI 0) rfl ?_
  refine v_iconst C (oX9_orbit.at 8 rfl) (v := nI 1) rfl ?_
  refine v_callS C (oX9_orbit.at 9 rfl) cX9_103 (k_inF 2 (by decide) (by decide) rfl hy) rfl rfl rfl ⟨rfl, rfl⟩ rfl rfl (fun _ => rfl) (fun h' hp => ?_)
  rw [show h' = _ from hp]
  dsimp only [Option.toList, List.cons_append, List.nil_append]
  refine v_if_neB C (oX9_orbit.at 10 rfl) (tgt := 27) (by decide) (fun z => absurd z (by decide)) (fun _ => ?_)
  refine v_aload_n C (oX9_orbit.at 11 rfl) rfl ?_
  refine v_iconst C (oX9_orbit.at 12 rfl) (v := nI 1) rfl ?_
  refine v_callV C (oX9_orbit.at 13 rfl) cX9_111 q0 (k9_noR hR1) rfl rfl rfl ⟨rfl, rfl⟩ rfl rfl (fun _ => rfl) (fun h' hp => ?_)
  dsimp only [Option.toList, List.cons_append, List.nil_append]
  exact v_iret C (oX9_orbit.at 14 rfl) rfl rfl ⟨Nat.le_refl _, Nat.le_refl _⟩ ⟨rfl, hp⟩
theorem isIn_n {w : Wt} {h : Hp} {x a b : Nat} {q : Bool} (hx : x < 2 ^ 31) (ha : a < 2 ^ 31) (hb : b < 2 ^ 31) (hq : q = decide (a ≤ x ∧ x ≤ b)) : ConN mX9_isIn 0 (0, 0) w [.int (nI x), .int (nI a), .int (nI b)] h (.inl (some (.int (bI q)))) (fun h' => h' = h) := by
  have ki := k_isIn (w := w) (h := h) (x := nI x) (a := nI a) (b := nI b)
  have e : decide (¬ nI x < nI a ∧ ¬ nI b < nI x) = q := by
    rw [hq]
    refine decide_eq_decide.mpr ?_
    rw [Int32.lt_iff_toInt_lt, Int32.lt_iff_toInt_lt, nI_toInt hx, nI_toInt ha, nI_toInt hb]
    omega
  rw [e] at ki
  exact ki
theorem k9_orbitX {w : Wt} {G h : Hp} {th : Nat} {S Z : Sc} {sv : Bool} {F : Sf} {x y : Nat} (hR : RF G h th S sv Z F) (hx : x < 4) (hy : y < 2) (hl : S.2.2.2.1 x = 0 ∨ 8 < S.2.2.2.1 x) : ConN mX9_orbit 2 (0, 0) w [.ref 62, .int (nI x), .int (nI y)] h (.inl (some (.int (nI 0)))) (fun h' => RF G h' 2 S sv Z F) := by
  obtain ⟨b1, b2⟩ := hR.so.2 x hx
  refine conI (by decide +kernel) ⟨fun _ => rfl, rfl, by simp⟩ (fun X C => ?_)
  change V X (0, 0) w h 0 [some (.ref 62), some (.int (nI x)), some (.int (nI y)), none, none] []
  refine v_aload_n C (oX9_orbit.at 0 rfl) rfl ?_
  refine v_iconst C (oX9_orbit.at 1 rfl) (v := nI 0) rfl ?_
  refine v_thr C (oX9_orbit.at 2 rfl) fX9_96 hR (fun h1 u1 hR1 q0 qt qm => ?_)
  refine v_iload_n C (oX9_orbit.at 3 rfl) rfl ?_
  refine v_callS C (oX9_orbit.at 4 rfl) cX9_210 (k_regT (InB.of hx (by decide))) rfl rfl rfl ⟨rfl, rfl⟩ rfl rfl (fun _ => rfl) (fun h' hp => ?_)
  rw [show h' = _ from hp]
  dsimp only [Option.toList, List.cons_append, List.nil_append]
  refine v_if_eqB C (oX9_orbit.at 5 rfl) (tgt := 21) (by decide) (fun z => absurd z (by decide)) (fun _ => ?_)
  refine v_iload_n C (oX9_orbit.at 6 rfl) rfl ?_
  refine v_iconst C (oX9_orbit.at 7 rfl) (v := nI 0) rfl ?_
  refine v_iconst C (oX9_orbit.at 8 rfl) (v := nI 1) rfl ?_
  refine v_callS C (oX9_orbit.at 9 rfl) cX9_103 (k_inT 2 (by decide) (by decide) rfl (InB.of hy (by decide))) rfl rfl rfl ⟨rfl, rfl⟩ rfl rfl (fun _ => rfl) (fun h' hp => ?_)
  rw [show h' = _ from hp]
  dsimp only [Option.toList, List.cons_append, List.nil_append]
  refine v_if_neB C (oX9_orbit.at 10 rfl) (tgt := 27) (by decide) (fun _ => ?_) (fun z => absurd z (by decide))
  obtain ⟨f, hf, hL⟩ := hR1.rl
  refine v_aload_n C (oX9_orbit.at 15 rfl) rfl ?_
  refine v_getf C (oX9_orbit.at 16 rfl) fX9_20 q0 rfl ?_
  refine v_iload_n C (oX9_orbit.at 17 rfl) rfl ?_
  refine v_iald C (oX9_orbit.at 18 rfl) hf (by decide) rfl (by omega) (hL x hx) ?_
  refine v_iconst C (oX9_orbit.at 19 rfl) (v := nI 1) rfl ?_
  refine v_bipush C (oX9_orbit.at 20 rfl) (v := nI 8) rfl ?_
  refine v_callS C (oX9_orbit.at 21 rfl) cX9_103 (isIn_n (q := false) (by omega) (by decide) (by decide) (by symm; exact decide_eq_false (by omega))) rfl rfl rfl ⟨rfl, rfl⟩ rfl rfl (fun _ => rfl) (fun h' hp => ?_)
  rw [show h' = _ from hp]
  dsimp only [Option.toList, List.cons_append, List.nil_append]
  refine v_if_neB C (oX9_orbit.at 22 rfl) (tgt := 48) (by decide) (fun z => absurd z (by decide)) (fun _ => ?_)
  refine v_aload_n C (oX9_orbit.at 23 rfl) rfl ?_
  refine v_iconst C (oX9_orbit.at 24 rfl) (v := nI 2) rfl ?_
  refine v_callV C (oX9_orbit.at 25 rfl) cX9_111 q0 (k9_noR hR1) rfl rfl rfl ⟨rfl, rfl⟩ rfl rfl (fun _ => rfl) (fun h' hp => ?_)
  dsimp only [Option.toList, List.cons_append, List.nil_append]
  exact v_iret C (oX9_orbit.at 26 rfl) rfl rfl ⟨Nat.le_refl _, Nat.le_refl _⟩ ⟨rfl, hp⟩
theorem k9_orbit {w : Wt} {G h : Hp} {th : Nat} {S Z : Sc} {sv : Bool} {F : Sf} {x y s j0 : Nat} (hR : RF G h th S sv Z F) (hx : x < 4) (hy : y < 2) (hl0 : 0 < S.2.2.2.1 x) (hl : S.2.2.2.1 x ≤ 8) (hF : FR (itC S.1 S.2.1 S.2.2.1 (S.2.2.2.1 x) (S.2.2.2.2 x)) s j0) (hsK : s ≤ S.1 ^ S.2.2.2.1 x) : ConN mX9_orbit 2 (0, 0) w [.ref 62, .int (nI x), .int (nI y)] h (.inl (some (.int (nI (if y = 0 then j0 else s - j0))))) (fun h' => RF G h' 0 S sv Z F) := by
  obtain ⟨b1, b2⟩ := hR.so.2 x hx
  have hk := hR.so.1.k
  have p8 : S.1 ^ S.2.2.2.1 x ≤ 6561 := pw_le hk (b := 8) hl
  obtain ⟨hj0, hjs, hinj⟩ := hF
  refine conI (by decide +kernel) ⟨fun _ => rfl, rfl, by simp⟩ (fun X C => ?_)
  change V X (0, 0) w h 0 [some (.ref 62), some (.int (nI x)), some (.int (nI y)), none, none] []
  refine v_aload_n C (oX9_orbit.at 0 rfl) rfl ?_
  refine v_iconst C (oX9_orbit.at 1 rfl) (v := nI 0) rfl ?_
  refine v_thr C (oX9_orbit.at 2 rfl) fX9_96 hR (fun h1 u1 hR1 q0 qt qm => ?_)
  refine v_iload_n C (oX9_orbit.at 3 rfl) rfl ?_
  refine v_callS C (oX9_orbit.at 4 rfl) cX9_210 (k_regT (InB.of hx (by decide))) rfl rfl rfl ⟨rfl, rfl⟩ rfl rfl (fun _ => rfl) (fun h' hp => ?_)
  rw [show h' = _ from hp]
  dsimp only [Option.toList, List.cons_append, List.nil_append]
  refine v_if_eqB C (oX9_orbit.at 5 rfl) (tgt := 21) (by decide) (fun z => absurd z (by decide)) (fun _ => ?_)
  refine v_iload_n C (oX9_orbit.at 6 rfl) rfl ?_
  refine v_iconst C (oX9_orbit.at 7 rfl) (v := nI 0) rfl ?_
  refine v_iconst C (oX9_orbit.at 8 rfl) (v := nI 1) rfl ?_
  refine v_callS C (oX9_orbit.at 9 rfl) cX9_103 (k_inT 2 (by decide) (by decide) rfl (InB.of hy (by decide))) rfl rfl rfl ⟨rfl, rfl⟩ rfl rfl (fun _ => rfl) (fun h' hp => ?_)
  rw [show h' = _ from hp]
  dsimp only [Option.toList, List.cons_append, List.nil_append]
  refine v_if_neB C (oX9_orbit.at 10 rfl) (tgt := 27) (by decide) (fun _ => ?_) (fun z => absurd z (by decide))
  obtain ⟨f, hf, hL⟩ := hR1.rl
  obtain ⟨e, he, hI⟩ := hR1.ri
  obtain ⟨t, ht, hT⟩ := hR1.tk
  obtain ⟨g, hg⟩ := hR1.sc (i := 75) (Or.inl ⟨by decide, by decide⟩)
  have hg : h1 75 = io 6561 g := hg
  have hlt := itC_lt (k := S.1) (wd := S.2.1) (T := S.2.2.1) (by omega) (fun i hi => (hT i hi).2) b2
  have b0 : ∀ y, hu h1 75 y 62 = MO u1 := fun y => (hu_n _ _ (by decide)).trans q0
  have b3 : ∀ y, hu h1 75 y 63 = io 27 t := fun y => (hu_n _ _ (by decide)).trans ht
  have b4 : ∀ y, hu h1 75 y 64 = io 4 f := fun y => (hu_n _ _ (by decide)).trans hf
  have b5 : ∀ y, hu h1 75 y 65 = io 4 e := fun y => (hu_n _ _ (by decide)).trans he
  have fin : ∀ g', RF G (hu h1 75 (io 6561 g')) 0 S sv Z F := fun g' => hR1.set_r (i := 75) (Or.inl ⟨by decide, by decide⟩)
  refine v_aload_n C (oX9_orbit.at 15 rfl) rfl ?_
  refine v_getf C (oX9_orbit.at 16 rfl) fX9_20 q0 rfl ?_
  refine v_iload_n C (oX9_orbit.at 17 rfl) rfl ?_
  refine v_iald C (oX9_orbit.at 18 rfl) hf (by decide) rfl (by omega) (hL x hx) ?_
  refine v_iconst C (oX9_orbit.at 19 rfl) (v := nI 1) rfl ?_
  refine v_bipush C (oX9_orbit.at 20 rfl) (v := nI 8) rfl ?_
  refine v_callS C (oX9_orbit.at 21 rfl) cX9_103 (isIn_n (q := true) (by omega) (by decide) (by decide) (by symm; exact decide_eq_true (by omega))) rfl rfl rfl ⟨rfl, rfl⟩ rfl rfl (fun _ => rfl) (fun h' hp => ?_)
  rw [show h' = _ from hp]
  dsimp only [Option.toList, List.cons_append, List.nil_append]
  refine v_if_neB C (oX9_orbit.at 22 rfl) (tgt := 48) (by decide) (fun _ => ?_) (fun z => absurd z (by decide))
  refine v_iconst C (oX9_orbit.at 27 rfl) (v := nI 0) rfl ?_
  refine v_istore_n C (oX9_orbit.at 28 rfl) rfl ?_
  dsimp only [sto1, sto2, killL]
  have W : ∀ d n g', n + d = s → (∀ a, a < n → g' (itC S.1 S.2.1 S.2.2.1 (S.2.2.2.1 x) (S.2.2.2.2 x) a) = nI (a + 1)) → (∀ v, v < 6561 → (∀ a, a < n → itC S.1 S.2.1 S.2.2.1 (S.2.2.2.1 x) (S.2.2.2.2 x) a ≠ v) → g' v = nI 0) → V X (0, 0) w (hu h1 75 (io 6561 g')) 80 [some (.ref 62), some (.int (nI x)), some (.int (nI y)), some (.int (nI (itC S.1 S.2.1 S.2.2.1 (S.2.2.2.1 x) (S.2.2.2.2 x) n))), some (.int (nI (n + 1)))] [] := by
    intro d
    induction d with
    | zero =>
      intro n g' hn h1' h2'
      obtain rfl : n = s := by omega
      have hv : g' (itC S.1 S.2.1 S.2.2.1 (S.2.2.2.1 x) (S.2.2.2.2 x) n) = nI (j0 + 1) := by rw [← hjs]; exact h1' j0 hj0
      have hb := hlt n
      refine v_aload_n C (oX9_orbit.at 46 rfl) rfl ?_
      refine v_getf C (oX9_orbit.at 47 rfl) fX9_56 (b0 _) rfl ?_
      refine v_iload_n C (oX9_orbit.at 48 rfl) rfl ?_
      refine v_iald C (oX9_orbit.at 49 rfl) (hu_s _ _ _) (by decide) rfl (by omega) hv ?_
      refine v_if_neN C (oX9_orbit.at 50 rfl) (tgt := 115) (by decide) (by omega) (fun hc => ?_) (fun hc => absurd hc (by omega))
      refine v_iload_n C (oX9_orbit.at 66 rfl) rfl ?_
      refine v_if_neN C (oX9_orbit.at 67 rfl) (tgt := 130) (by decide) (by omega) (fun hc => ?_) (fun hc => ?_)
      · rw [if_neg hc] at C
        refine v_iload C (oX9_orbit.at 75 rfl) rfl ?_
        refine v_aload_n C (oX9_orbit.at 76 rfl) rfl ?_
        refine v_getf C (oX9_orbit.at 77 rfl) fX9_56 (b0 _) rfl ?_
        refine v_iload_n C (oX9_orbit.at 78 rfl) rfl ?_
        refine v_iald C (oX9_orbit.at 79 rfl) (hu_s _ _ _) (by decide) rfl (by omega) hv ?_
        refine v_isubN C (oX9_orbit.at 80 rfl) (by omega) ?_
        rw [show n + 1 - (j0 + 1) = n - j0 by omega]
        exact v_iret C (oX9_orbit.at 81 rfl) rfl rfl ⟨Nat.le_refl _, Nat.le_refl _⟩ ⟨rfl, fin _⟩
      · rw [if_pos hc] at C
        refine v_aload_n C (oX9_orbit.at 68 rfl) rfl ?_
        refine v_getf C (oX9_orbit.at 69 rfl) fX9_56 (b0 _) rfl ?_
        refine v_iload_n C (oX9_orbit.at 70 rfl) rfl ?_
        refine v_iald C (oX9_orbit.at 71 rfl) (hu_s _ _ _) (by decide) rfl (by omega) hv ?_
        refine v_iconst C (oX9_orbit.at 72 rfl) (v := nI 1) rfl ?_
        refine v_isubN C (oX9_orbit.at 73 rfl) (by omega) ?_
        refine v_goto C (oX9_orbit.at 74 rfl) (tgt := 139) (by decide) ?_
        rw [show j0 + 1 - 1 = j0 by omega]
        exact v_iret C (oX9_orbit.at 81 rfl) rfl rfl ⟨Nat.le_refl _, Nat.le_refl _⟩ ⟨rfl, fin _⟩
    | succ d ih =>
      intro n g' hn h1' h2'
      have hb := hlt n
      have hb1 := hlt (n + 1)
      have hv : g' (itC S.1 S.2.1 S.2.2.1 (S.2.2.2.1 x) (S.2.2.2.2 x) n) = nI 0 := h2' _ (by omega) (fun a ha => hinj a n ha (by omega))
      refine v_aload_n C (oX9_orbit.at 46 rfl) rfl ?_
      refine v_getf C (oX9_orbit.at 47 rfl) fX9_56 (b0 _) rfl ?_
      refine v_iload_n C (oX9_orbit.at 48 rfl) rfl ?_
      refine v_iald C (oX9_orbit.at 49 rfl) (hu_s _ _ _) (by decide) rfl (by omega) hv ?_
      refine v_if_neN C (oX9_orbit.at 50 rfl) (tgt := 115) (by decide) (by omega) (fun hc => absurd hc (by omega)) (fun hc => ?_)
      refine v_aload_n C (oX9_orbit.at 51 rfl) rfl ?_
      refine v_getf C (oX9_orbit.at 52 rfl) fX9_56 (b0 _) rfl ?_
      refine v_iload_n C (oX9_orbit.at 53 rfl) rfl ?_
      refine v_iload C (oX9_orbit.at 54 rfl) rfl ?_
      refine v_iast C (oX9_orbit.at 55 rfl) (hu_s _ _ _) (by decide) rfl (by omega) ?_
      rw [hu_hu]
      refine v_iincN C (oX9_orbit.at 56 rfl) rfl ?_
      refine v_aload_n C (oX9_orbit.at 57 rfl) rfl ?_
      refine v_iload_n C (oX9_orbit.at 58 rfl) rfl ?_
      refine v_aload_n C (oX9_orbit.at 59 rfl) rfl ?_
      refine v_getf C (oX9_orbit.at 60 rfl) fX9_20 (b0 _) rfl ?_
      refine v_iload_n C (oX9_orbit.at 61 rfl) rfl ?_
      refine v_iald C (oX9_orbit.at 62 rfl) (b4 _) (by decide) rfl (by omega) (hL x hx) ?_
      dsimp only [sto1, sto2, killL]
      refine v_callV C (oX9_orbit.at 63 rfl) cX9_219 (b0 _) (k9_cyclicImage (b0 _) qm.1 qm.2.1 hR.so.1 (by omega) b1 (b3 _) (fun i hi => (hT i hi).1)) rfl rfl rfl ⟨rfl, rfl⟩ rfl rfl (fun _ => rfl) (fun h' hp => ?_)
      rw [show h' = _ from hp]
      dsimp only [Option.toList, List.cons_append, List.nil_append]
      refine v_istore_n C (oX9_orbit.at 64 rfl) rfl ?_
      refine v_goto C (oX9_orbit.at 65 rfl) (tgt := 80) (by decide) ?_
      dsimp only [sto1, sto2, killL]
      refine ih (n + 1) _ (by omega) (fun a ha => ?_) (fun v hv6 hva => ?_)
      · by_cases q : a = n
        · rw [q, pk_us]
        · rw [pk_un (hinj a n (by omega) (by omega))]; exact h1' a (by omega)
      · have q : v ≠ itC S.1 S.2.1 S.2.2.1 (S.2.2.2.1 x) (S.2.2.2.2 x) n := fun z => hva n (by omega) z.symm
        rw [pk_un q]
        exact h2' v hv6 (fun a ha => hva a (by omega))
  suffices H : ∀ d i, i + d = 6561 → V X (0, 0) w (hu h1 75 (io 6561 (mix g (fun _ => nI 0) i))) 50 [some (.ref 62), some (.int (nI x)), some (.int (nI y)), some (.int (nI i)), none] [] by
    have := H 6561 0 (by omega)
    rw [mix_0, hu_id h1 hg] at this
    exact this
  intro d
  induction d with
  | zero =>
    intro i hi
    obtain rfl : i = 6561 := by omega
    refine v_iload_n C (oX9_orbit.at 29 rfl) rfl ?_
    refine v_sipush C (oX9_orbit.at 30 rfl) (v := nI 6561) rfl ?_
    refine v_icmp_geN C (oX9_orbit.at 31 rfl) (tgt := 70) (by decide) (by omega) (by omega) (fun hc => ?_) (fun hc => absurd hc (by omega))
    refine v_aload_n C (oX9_orbit.at 39 rfl) rfl ?_
    refine v_getf C (oX9_orbit.at 40 rfl) fX9_23 (b0 _) rfl ?_
    refine v_iload_n C (oX9_orbit.at 41 rfl) rfl ?_
    refine v_iald C (oX9_orbit.at 42 rfl) (b5 _) (by decide) rfl (by omega) (hI x hx) ?_
    refine v_istore_n C (oX9_orbit.at 43 rfl) rfl ?_
    refine v_iconst C (oX9_orbit.at 44 rfl) (v := nI 1) rfl ?_
    refine v_istore C (oX9_orbit.at 45 rfl) rfl ?_
    dsimp only [sto1, sto2, killL]
    exact W s 0 _ (by omega) (fun a ha => absurd ha (by omega)) (fun v hv _ => mix_lt hv)
  | succ d ih =>
    intro i hi
    refine v_iload_n C (oX9_orbit.at 29 rfl) rfl ?_
    refine v_sipush C (oX9_orbit.at 30 rfl) (v := nI 6561) rfl ?_
    refine v_icmp_geN C (oX9_orbit.at 31 rfl) (tgt := 70) (by decide) (by omega) (by omega) (fun hc => absurd hc (by omega)) (fun hc => ?_)
    refine v_aload_n C (oX9_orbit.at 32 rfl) rfl ?_
    refine v_getf C (oX9_orbit.at 33 rfl) fX9_56 (b0 _) rfl ?_
    refine v_iload_n C (oX9_orbit.at 34 rfl) rfl ?_
    refine v_iconst C (oX9_orbit.at 35 rfl) (v := nI 0) rfl ?_
    refine v_iast C (oX9_orbit.at 36 rfl) (hu_s _ _ _) (by decide) rfl (by omega) ?_
    rw [mix_s _ _ _ _ rfl, hu_hu]
    refine v_iincN C (oX9_orbit.at 37 rfl) rfl ?_
    refine v_goto C (oX9_orbit.at 38 rfl) (tgt := 50) (by decide) ?_
    dsimp only [sto1, sto2, killL]
    exact ih (i + 1) (by omega)
