/-! ===== the reference: images, registers ===== -/
theorem k9_imageOf {w : Wt} {h : Hp} {u : Nat → Int32} {k wd L x q : Nat} {f : Nat → Int32} {T : Nat → Nat} (ho : h 62 = MO u) (hk1 : u 1 = nI k) (hs : SZ k wd) (hx : x < 2 ^ 31) (hL : L ≤ 17) (hwL : wd ≤ L) (hq : h q = io 27 f) (hT : ∀ i, i < k ^ wd → f i = nI (T i)) : ConN mX9_imageOf 1 (0, 0) w [.ref 62, .int (nI x), .int (nI L), .ref q, .int (nI wd)] h (.inl (some (.int (nI (limg k wd T L x))))) (fun h' => h' = h) := by
  have hk := hs.k
  have hw := hs.w
  have hm := hs.m
  have hp0 : 0 < k ^ wd := Nat.pow_pos (by omega)
  unfold limg
  refine conI (by decide +kernel) ⟨fun _ => rfl, rfl, by simp⟩ (fun X C => ?_)
  change V X (0, 0) w h 0 [some (.ref 62), some (.int (nI x)), some (.int (nI L)), some (.ref q), some (.int (nI wd)), none, none] []
  refine v_iconst C (oX9_imageOf.at 0 rfl) (v := nI 0) rfl ?_
  refine v_istore C (oX9_imageOf.at 1 rfl) rfl ?_
  refine v_iconst C (oX9_imageOf.at 2 rfl) (v := nI 0) rfl ?_
  refine v_istore C (oX9_imageOf.at 3 rfl) rfl ?_
  dsimp only [sto1, sto2, killL]
  suffices H : ∀ d c, c + d = L - wd + 1 → V X (0, 0) w h 6 [some (.ref 62), some (.int (nI x)), some (.int (nI L)), some (.ref q), some (.int (nI wd)), some (.int (nI (img k wd T (cel k L x) c))), some (.int (nI c))] [] from H (L - wd + 1) 0 (by omega)
  intro d
  induction d with
  | zero =>
    intro c hc0
    obtain rfl : c = L - wd + 1 := by omega
    refine v_iload C (oX9_imageOf.at 4 rfl) rfl ?_
    refine v_iload C (oX9_imageOf.at 5 rfl) rfl ?_
    refine v_iaddN C (oX9_imageOf.at 6 rfl) ?_
    refine v_iload_n C (oX9_imageOf.at 7 rfl) rfl ?_
    refine v_icmp_gtN C (oX9_imageOf.at 8 rfl) (tgt := 53) (by decide) (by omega) (by omega) (fun hc => ?_) (fun hc => absurd hc (by omega))
    refine v_iload C (oX9_imageOf.at 32 rfl) rfl ?_
    exact v_iret C (oX9_imageOf.at 33 rfl) rfl rfl ⟨Nat.le_refl _, Nat.le_refl _⟩ ⟨rfl, rfl⟩
  | succ d ih =>
    intro c hc0
    have ih := ih (c + 1) (by omega)
    rw [img, hw_cel k L x c wd (by omega), Nat.mul_comm] at ih
    have p0 : 0 < k ^ (L - wd - c) := Nat.pow_pos (by omega)
    have p1 := pw14 hk (n := L - wd - c) (by omega)
    have p2 : x / k ^ (L - wd - c) ≤ x := Nat.div_le_self _ _
    have p3 : x / k ^ (L - wd - c) % k ^ wd < k ^ wd := Nat.mod_lt _ hp0
    refine v_iload C (oX9_imageOf.at 4 rfl) rfl ?_
    refine v_iload C (oX9_imageOf.at 5 rfl) rfl ?_
    refine v_iaddN C (oX9_imageOf.at 6 rfl) ?_
    refine v_iload_n C (oX9_imageOf.at 7 rfl) rfl ?_
    refine v_icmp_gtN C (oX9_imageOf.at 8 rfl) (tgt := 53) (by decide) (by omega) (by omega) (fun hc => absurd hc (by omega)) (fun hc => ?_)
    refine v_aload_n C (oX9_imageOf.at 9 rfl) rfl ?_
    refine v_getf C (oX9_imageOf.at 10 rfl) fX9_7 ho (congrArg (fun z => some (Value.int z)) (hk1)) ?_
    refine v_iload C (oX9_imageOf.at 11 rfl) rfl ?_
    refine v_imulN C (oX9_imageOf.at 12 rfl) ?_
    refine v_aload_n C (oX9_imageOf.at 13 rfl) rfl ?_
    refine v_iload_n C (oX9_imageOf.at 14 rfl) rfl ?_
    refine v_aload_n C (oX9_imageOf.at 15 rfl) rfl ?_
    refine v_iload_n C (oX9_imageOf.at 16 rfl) rfl ?_
    refine v_iload C (oX9_imageOf.at 17 rfl) rfl ?_
    refine v_isubN C (oX9_imageOf.at 18 rfl) (by omega) ?_
    refine v_iload C (oX9_imageOf.at 19 rfl) rfl ?_
    refine v_isubN C (oX9_imageOf.at 20 rfl) (by omega) ?_
    refine v_callV C (oX9_imageOf.at 21 rfl) cX9_99 ho (k9_power ho hk1 (by omega)) rfl rfl rfl ⟨rfl, rfl⟩ rfl rfl (fun _ => rfl) (fun h' hp => ?_)
    rw [show h' = _ from hp]
    dsimp only [Option.toList, List.cons_append, List.nil_append]
    refine v_idivN C (oX9_imageOf.at 22 rfl) (by omega) (by omega) (by omega) ?_
    refine v_aload_n C (oX9_imageOf.at 23 rfl) rfl ?_
    refine v_iload C (oX9_imageOf.at 24 rfl) rfl ?_
    refine v_callV C (oX9_imageOf.at 25 rfl) cX9_99 ho (k9_power ho hk1 (by omega)) rfl rfl rfl ⟨rfl, rfl⟩ rfl rfl (fun _ => rfl) (fun h' hp => ?_)
    rw [show h' = _ from hp]
    dsimp only [Option.toList, List.cons_append, List.nil_append]
    refine v_iremN C (oX9_imageOf.at 26 rfl) (by omega) (by omega) (by omega) ?_
    refine v_iald C (oX9_imageOf.at 27 rfl) hq (by decide) rfl (by omega) (hT _ p3) ?_
    refine v_iaddN C (oX9_imageOf.at 28 rfl) ?_
    refine v_istore C (oX9_imageOf.at 29 rfl) rfl ?_
    refine v_iincN C (oX9_imageOf.at 30 rfl) rfl ?_
    refine v_goto C (oX9_imageOf.at 31 rfl) (tgt := 6) (by decide) ?_
    dsimp only [sto1, sto2, killL]
    exact ih
theorem k9_cyclicImage {w : Wt} {h : Hp} {u : Nat → Int32} {k wd L x : Nat} {f : Nat → Int32} {T : Nat → Nat} (ho : h 62 = MO u) (hk1 : u 1 = nI k) (hk2 : u 2 = nI wd) (hs : SZ k wd) (hx : x < 2 ^ 31) (hL : L ≤ 14) (hq : h 63 = io 27 f) (hT : ∀ i, i < k ^ wd → f i = nI (T i)) : ConN mX9_cyclicImage 1 (0, 0) w [.ref 62, .int (nI x), .int (nI L)] h (.inl (some (.int (nI (cimg k wd T L x))))) (fun h' => h' = h) := by
  have hk := hs.k
  have hwd := hs.w
  have hm := hs.m
  unfold cimg
  refine conI (by decide +kernel) ⟨fun _ => rfl, rfl, by simp⟩ (fun X C => ?_)
  change V X (0, 0) w h 0 [some (.ref 62), some (.int (nI x)), some (.int (nI L)), none, none, none, none] []
  refine v_iconst C (oX9_cyclicImage.at 0 rfl) (v := nI 0) rfl ?_
  refine v_istore_n C (oX9_cyclicImage.at 1 rfl) rfl ?_
  refine v_iconst C (oX9_cyclicImage.at 2 rfl) (v := nI 0) rfl ?_
  refine v_istore C (oX9_cyclicImage.at 3 rfl) rfl ?_
  dsimp only [sto1, sto2, killL]
  suffices H : ∀ d c y z, c + d = L → V X (0, 0) w h 5 [some (.ref 62), some (.int (nI x)), some (.int (nI L)), some (.int (nI (img k wd T (fun i => cel k L x (i % L)) c))), some (.int (nI c)), y, z] [] from H L 0 none none (by omega)
  intro d
  induction d with
  | zero =>
    intro c y z hc0
    obtain rfl : c = L := by omega
    refine v_iload C (oX9_cyclicImage.at 4 rfl) rfl ?_
    refine v_iload_n C (oX9_cyclicImage.at 5 rfl) rfl ?_
    refine v_icmp_geN C (oX9_cyclicImage.at 6 rfl) (tgt := 85) (by decide) (by omega) (by omega) (fun hc => ?_) (fun hc => absurd hc (by omega))
    refine v_iload_n C (oX9_cyclicImage.at 51 rfl) rfl ?_
    exact v_iret C (oX9_cyclicImage.at 52 rfl) rfl rfl ⟨Nat.le_refl _, Nat.le_refl _⟩ ⟨rfl, rfl⟩
  | succ d ih =>
    intro c y z hc0
    have ih := ih (c + 1)
    rw [img, Nat.mul_comm] at ih
    refine v_iload C (oX9_cyclicImage.at 4 rfl) rfl ?_
    refine v_iload_n C (oX9_cyclicImage.at 5 rfl) rfl ?_
    refine v_icmp_geN C (oX9_cyclicImage.at 6 rfl) (tgt := 85) (by decide) (by omega) (by omega) (fun hc => absurd hc (by omega)) (fun hc => ?_)
    refine v_iconst C (oX9_cyclicImage.at 7 rfl) (v := nI 0) rfl ?_
    refine v_istore C (oX9_cyclicImage.at 8 rfl) rfl ?_
    refine v_iconst C (oX9_cyclicImage.at 9 rfl) (v := nI 0) rfl ?_
    refine v_istore C (oX9_cyclicImage.at 10 rfl) rfl ?_
    dsimp only [sto1, sto2, killL]
    suffices H2 : ∀ e j, j + e = wd → V X (0, 0) w h 17 [some (.ref 62), some (.int (nI x)), some (.int (nI L)), some (.int (nI (img k wd T (fun i => cel k L x (i % L)) c))), some (.int (nI c)), some (.int (nI (hw k (fun i => cel k L x (i % L)) c j))), some (.int (nI j))] [] from H2 wd 0 (by omega)
    intro e
    induction e with
    | zero =>
      intro j hj
      obtain rfl : j = wd := by omega
      have p3 := hw_lt (k := k) (c := fun i => cel k L x (i % L)) c j (fun _ _ => cel_lt (by omega))
      refine v_iload C (oX9_cyclicImage.at 11 rfl) rfl ?_
      refine v_aload_n C (oX9_cyclicImage.at 12 rfl) rfl ?_
      refine v_getf C (oX9_cyclicImage.at 13 rfl) fX9_13 ho (congrArg (fun z => some (Value.int z)) (hk2)) ?_
      refine v_icmp_geN C (oX9_cyclicImage.at 14 rfl) (tgt := 64) (by decide) (by omega) (by omega) (fun hc => ?_) (fun hc => absurd hc (by omega))
      refine v_aload_n C (oX9_cyclicImage.at 39 rfl) rfl ?_
      refine v_getf C (oX9_cyclicImage.at 40 rfl) fX9_7 ho (congrArg (fun z => some (Value.int z)) (hk1)) ?_
      refine v_iload_n C (oX9_cyclicImage.at 41 rfl) rfl ?_
      refine v_imulN C (oX9_cyclicImage.at 42 rfl) ?_
      refine v_aload_n C (oX9_cyclicImage.at 43 rfl) rfl ?_
      refine v_getf C (oX9_cyclicImage.at 44 rfl) fX9_16 ho rfl ?_
      refine v_iload C (oX9_cyclicImage.at 45 rfl) rfl ?_
      refine v_iald C (oX9_cyclicImage.at 46 rfl) hq (by decide) rfl (by omega) (hT _ p3) ?_
      refine v_iaddN C (oX9_cyclicImage.at 47 rfl) ?_
      refine v_istore_n C (oX9_cyclicImage.at 48 rfl) rfl ?_
      refine v_iincN C (oX9_cyclicImage.at 49 rfl) rfl ?_
      refine v_goto C (oX9_cyclicImage.at 50 rfl) (tgt := 5) (by decide) ?_
      dsimp only [sto1, sto2, killL]
      exact ih _ _ (by omega)
    | succ e ih2 =>
      intro j hj
      have ih2 := ih2 (j + 1) (by omega)
      rw [hw, Nat.mul_comm] at ih2
      unfold cel at ih2
      have p9 : (c + j) % L < L := Nat.mod_lt _ (by omega)
      have p0 : 0 < k ^ (L - 1 - (c + j) % L) := Nat.pow_pos (by omega)
      have p1 := pw14 hk (n := L - 1 - (c + j) % L) (by omega)
      have p2 : x / k ^ (L - 1 - (c + j) % L) ≤ x := Nat.div_le_self _ _
      refine v_iload C (oX9_cyclicImage.at 11 rfl) rfl ?_
      refine v_aload_n C (oX9_cyclicImage.at 12 rfl) rfl ?_
      refine v_getf C (oX9_cyclicImage.at 13 rfl) fX9_13 ho (congrArg (fun z => some (Value.int z)) (hk2)) ?_
      refine v_icmp_geN C (oX9_cyclicImage.at 14 rfl) (tgt := 64) (by decide) (by omega) (by omega) (fun hc => absurd hc (by omega)) (fun hc => ?_)
      refine v_aload_n C (oX9_cyclicImage.at 15 rfl) rfl ?_
      refine v_getf C (oX9_cyclicImage.at 16 rfl) fX9_7 ho (congrArg (fun z => some (Value.int z)) (hk1)) ?_
      refine v_iload C (oX9_cyclicImage.at 17 rfl) rfl ?_
      refine v_imulN C (oX9_cyclicImage.at 18 rfl) ?_
      refine v_iload_n C (oX9_cyclicImage.at 19 rfl) rfl ?_
      refine v_aload_n C (oX9_cyclicImage.at 20 rfl) rfl ?_
      refine v_iload_n C (oX9_cyclicImage.at 21 rfl) rfl ?_
      refine v_iconst C (oX9_cyclicImage.at 22 rfl) (v := nI 1) rfl ?_
      refine v_isubN C (oX9_cyclicImage.at 23 rfl) (by omega) ?_
      refine v_iload C (oX9_cyclicImage.at 24 rfl) rfl ?_
      refine v_iload C (oX9_cyclicImage.at 25 rfl) rfl ?_
      refine v_iaddN C (oX9_cyclicImage.at 26 rfl) ?_
      refine v_iload_n C (oX9_cyclicImage.at 27 rfl) rfl ?_
      refine v_iremN C (oX9_cyclicImage.at 28 rfl) (by omega) (by omega) (by omega) ?_
      refine v_isubN C (oX9_cyclicImage.at 29 rfl) (by omega) ?_
      refine v_callV C (oX9_cyclicImage.at 30 rfl) cX9_99 ho (k9_power ho hk1 (by omega)) rfl rfl rfl ⟨rfl, rfl⟩ rfl rfl (fun _ => rfl) (fun h' hp => ?_)
      rw [show h' = _ from hp]
      dsimp only [Option.toList, List.cons_append, List.nil_append]
      refine v_idivN C (oX9_cyclicImage.at 31 rfl) (by omega) (by omega) (by omega) ?_
      refine v_aload_n C (oX9_cyclicImage.at 32 rfl) rfl ?_
      refine v_getf C (oX9_cyclicImage.at 33 rfl) fX9_7 ho (congrArg (fun z => some (Value.int z)) (hk1)) ?_
      refine v_iremN C (oX9_cyclicImage.at 34 rfl) (by omega) (by omega) (by omega) ?_
      refine v_iaddN C (oX9_cyclicImage.at 35 rfl) ?_
      refine v_istore C (oX9_cyclicImage.at 36 rfl) rfl ?_
      refine v_iincN C (oX9_cyclicImage.at 37 rfl) rfl ?_
      refine v_goto C (oX9_cyclicImage.at 38 rfl) (tgt := 17) (by decide) ?_
      dsimp only [sto1, sto2, killL]
      exact ih2
theorem k9_isOneT {w : Wt} {G h : Hp} {th : Nat} {S Z : Sc} {sv : Bool} {F : Sf} {x : Int32} (hR : RF G h th S sv Z F) (hx : InB x 4) : ConN mX9_isOne 2 (0, 0) w [.ref 62, .int x] h (.inl (some (.int (bI true)))) (fun h' => RF G h' 0 S sv Z F) := by
  refine conI (by decide +kernel) ⟨fun _ => rfl, rfl, by simp⟩ (fun X C => ?_)
  change V X (0, 0) w h 0 [some (.ref 62), some (.int x)] []
  refine v_aload_n C (oX9_isOne.at 0 rfl) rfl ?_
  refine v_iload_n C (oX9_isOne.at 1 rfl) rfl ?_
  refine v_callS C (oX9_isOne.at 2 rfl) cX9_210 (k_regT hx) rfl rfl rfl ⟨rfl, rfl⟩ rfl rfl (fun _ => rfl) (fun h' hp => ?_)
  rw [show h' = _ from hp]
  dsimp only [Option.toList, List.cons_append, List.nil_append]
  refine v_if_eqB C (oX9_isOne.at 3 rfl) (tgt := 12) (by decide) (fun z => absurd z (by decide)) (fun _ => ?_)
  refine v_iconst C (oX9_isOne.at 4 rfl) (v := nI 0) rfl ?_
  refine v_goto C (oX9_isOne.at 5 rfl) (tgt := 13) (by decide) ?_
  refine v_thr C (oX9_isOne.at 7 rfl) fX9_96 hR (fun h1 u1 hR1 q0 qt qm => ?_)
  refine v_aload_n C (oX9_isOne.at 8 rfl) rfl ?_
  refine v_getf C (oX9_isOne.at 9 rfl) fX9_96 q0 (congrArg (fun z => some (Value.int z)) (qt)) ?_
  refine v_if_neN C (oX9_isOne.at 10 rfl) (tgt := 27) (by decide) (by omega) (fun hc => absurd hc (by omega)) (fun hc => ?_)
  refine v_iconst C (oX9_isOne.at 11 rfl) (v := nI 1) rfl ?_
  refine v_goto C (oX9_isOne.at 12 rfl) (tgt := 28) (by decide) ?_
  exact v_zret1 C (oX9_isOne.at 14 rfl) rfl rfl ⟨Nat.le_refl _, Nat.le_refl _⟩ ⟨rfl, hR1⟩
theorem k9_isOneF {w : Wt} {G h : Hp} {th : Nat} {S Z : Sc} {sv : Bool} {F : Sf} {x : Int32} (hR : RF G h th S sv Z F) (hx : ¬ InB x 4) : ConN mX9_isOne 2 (0, 0) w [.ref 62, .int x] h (.inl (some (.int (bI false)))) (fun h' => RF G h' 1 S sv Z F) := by
  refine conI (by decide +kernel) ⟨fun _ => rfl, rfl, by simp⟩ (fun X C => ?_)
  change V X (0, 0) w h 0 [some (.ref 62), some (.int x)] []
  refine v_aload_n C (oX9_isOne.at 0 rfl) rfl ?_
  refine v_iload_n C (oX9_isOne.at 1 rfl) rfl ?_
  refine v_callS C (oX9_isOne.at 2 rfl) cX9_210 (k_regF hx) rfl rfl rfl ⟨rfl, rfl⟩ rfl rfl (fun _ => rfl) (fun h' hp => ?_)
  rw [show h' = _ from hp]
  dsimp only [Option.toList, List.cons_append, List.nil_append]
  refine v_if_eqB C (oX9_isOne.at 3 rfl) (tgt := 12) (by decide) (fun _ => ?_) (fun z => absurd z (by decide))
  refine v_iconst C (oX9_isOne.at 6 rfl) (v := nI 1) rfl ?_
  refine v_thr C (oX9_isOne.at 7 rfl) fX9_96 hR (fun h1 u1 hR1 q0 qt qm => ?_)
  refine v_aload_n C (oX9_isOne.at 8 rfl) rfl ?_
  refine v_getf C (oX9_isOne.at 9 rfl) fX9_96 q0 (congrArg (fun z => some (Value.int z)) (qt)) ?_
  refine v_if_neN C (oX9_isOne.at 10 rfl) (tgt := 27) (by decide) (by omega) (fun hc => ?_) (fun hc => absurd hc (by omega))
  refine v_iconst C (oX9_isOne.at 13 rfl) (v := nI 0) rfl ?_
  exact v_zret0 C (oX9_isOne.at 14 rfl) rfl rfl ⟨Nat.le_refl _, Nat.le_refl _⟩ ⟨rfl, hR1⟩
theorem k9_wordLengthX {w : Wt} {G h : Hp} {th : Nat} {S Z : Sc} {sv : Bool} {F : Sf} {x : Int32} (hR : RF G h th S sv Z F) (hx : ¬ InB x 4) : ConN mX9_wordLength 3 (0, 0) w [.ref 62, .int x] h (.inl (some (.int (nI 0)))) (fun h' => RF G h' 1 S sv Z F) := by
  obtain ⟨u, o0, o1, o2⟩ := hR.o
  refine conI (by decide +kernel) ⟨fun _ => rfl, rfl, by simp⟩ (fun X C => ?_)
  change V X (0, 0) w h 0 [some (.ref 62), some (.int x)] []
  refine v_aload_n C (oX9_wordLength.at 0 rfl) rfl ?_
  refine v_iload_n C (oX9_wordLength.at 1 rfl) rfl ?_
  refine v_callV C (oX9_wordLength.at 2 rfl) cX9_213 o0 (k9_isOneF hR hx) rfl rfl rfl ⟨rfl, rfl⟩ rfl rfl (fun _ => rfl) (fun h' hp => ?_)
  dsimp only [Option.toList, List.cons_append, List.nil_append]
  refine v_if_eqB C (oX9_wordLength.at 3 rfl) (tgt := 17) (by decide) (fun _ => ?_) (fun z => absurd z (by decide))
  refine v_iconst C (oX9_wordLength.at 9 rfl) (v := nI 0) rfl ?_
  exact v_iret C (oX9_wordLength.at 10 rfl) rfl rfl ⟨Nat.le_refl _, Nat.le_refl _⟩ ⟨rfl, hp⟩
theorem k9_wordLength {w : Wt} {G h : Hp} {th : Nat} {S Z : Sc} {sv : Bool} {F : Sf} {x : Nat} (hR : RF G h th S sv Z F) (hx : x < 4) : ConN mX9_wordLength 3 (0, 0) w [.ref 62, .int (nI x)] h (.inl (some (.int (nI (S.2.2.2.1 x))))) (fun h' => RF G h' 0 S sv Z F) := by
  obtain ⟨u, o0, o1, o2⟩ := hR.o
  refine conI (by decide +kernel) ⟨fun _ => rfl, rfl, by simp⟩ (fun X C => ?_)
  change V X (0, 0) w h 0 [some (.ref 62), some (.int (nI x))] []
  refine v_aload_n C (oX9_wordLength.at 0 rfl) rfl ?_
  refine v_iload_n C (oX9_wordLength.at 1 rfl) rfl ?_
  refine v_callV C (oX9_wordLength.at 2 rfl) cX9_213 o0 (k9_isOneT hR (InB.of hx (by decide))) rfl rfl rfl ⟨rfl, rfl⟩ rfl rfl (fun _ => rfl) (fun h' hp => ?_)
  dsimp only [Option.toList, List.cons_append, List.nil_append]
  obtain ⟨u1, r0, -⟩ := RF.o hp
  obtain ⟨f, hf, hL⟩ := RF.rl hp
  refine v_if_eqB C (oX9_wordLength.at 3 rfl) (tgt := 17) (by decide) (fun z => absurd z (by decide)) (fun _ => ?_)
  refine v_aload_n C (oX9_wordLength.at 4 rfl) rfl ?_
  refine v_getf C (oX9_wordLength.at 5 rfl) fX9_20 r0 rfl ?_
  refine v_iload_n C (oX9_wordLength.at 6 rfl) rfl ?_
  refine v_iald C (oX9_wordLength.at 7 rfl) hf (by decide) rfl (by omega) (hL x hx) ?_
  refine v_goto C (oX9_wordLength.at 8 rfl) (tgt := 18) (by decide) ?_
  exact v_iret C (oX9_wordLength.at 10 rfl) rfl rfl ⟨Nat.le_refl _, Nat.le_refl _⟩ ⟨rfl, hp⟩
theorem k9_wordIndexX {w : Wt} {G h : Hp} {th : Nat} {S Z : Sc} {sv : Bool} {F : Sf} {x : Int32} (hR : RF G h th S sv Z F) (hx : ¬ InB x 4) : ConN mX9_wordIndex 3 (0, 0) w [.ref 62, .int x] h (.inl (some (.int (nI 0)))) (fun h' => RF G h' 1 S sv Z F) := by
  obtain ⟨u, o0, o1, o2⟩ := hR.o
  refine conI (by decide +kernel) ⟨fun _ => rfl, rfl, by simp⟩ (fun X C => ?_)
  change V X (0, 0) w h 0 [some (.ref 62), some (.int x)] []
  refine v_aload_n C (oX9_wordIndex.at 0 rfl) rfl ?_
  refine v_iload_n C (oX9_wordIndex.at 1 rfl) rfl ?_
  refine v_callV C (oX9_wordIndex.at 2 rfl) cX9_213 o0 (k9_isOneF hR hx) rfl rfl rfl ⟨rfl, rfl⟩ rfl rfl (fun _ => rfl) (fun h' hp => ?_)
  dsimp only [Option.toList, List.cons_append, List.nil_append]
  refine v_if_eqB C (oX9_wordIndex.at 3 rfl) (tgt := 17) (by decide) (fun _ => ?_) (fun z => absurd z (by decide))
  refine v_iconst C (oX9_wordIndex.at 9 rfl) (v := nI 0) rfl ?_
  exact v_iret C (oX9_wordIndex.at 10 rfl) rfl rfl ⟨Nat.le_refl _, Nat.le_refl _⟩ ⟨rfl, hp⟩
theorem k9_wordIndex {w : Wt} {G h : Hp} {th : Nat} {S Z : Sc} {sv : Bool} {F : Sf} {x : Nat} (hR : RF G h th S sv Z F) (hx : x < 4) : ConN mX9_wordIndex 3 (0, 0) w [.ref 62, .int (nI x)] h (.inl (some (.int (nI (S.2.2.2.2 x))))) (fun h' => RF G h' 0 S sv Z F) := by
  obtain ⟨u, o0, o1, o2⟩ := hR.o
  refine conI (by decide +kernel) ⟨fun _ => rfl, rfl, by simp⟩ (fun X C => ?_)
  change V X (0, 0) w h 0 [some (.ref 62), some (.int (nI x))] []
  refine v_aload_n C (oX9_wordIndex.at 0 rfl) rfl ?_
  refine v_iload_n C (oX9_wordIndex.at 1 rfl) rfl ?_
  refine v_callV C (oX9_wordIndex.at 2 rfl) cX9_213 o0 (k9_isOneT hR (InB.of hx (by decide))) rfl rfl rfl ⟨rfl, rfl⟩ rfl rfl (fun _ => rfl) (fun h' hp => ?_)
  dsimp only [Option.toList, List.cons_append, List.nil_append]
  obtain ⟨u1, r0, -⟩ := RF.o hp
  obtain ⟨f, hf, hL⟩ := RF.ri hp
  refine v_if_eqB C (oX9_wordIndex.at 3 rfl) (tgt := 17) (by decide) (fun z => absurd z (by decide)) (fun _ => ?_)
  refine v_aload_n C (oX9_wordIndex.at 4 rfl) rfl ?_
  refine v_getf C (oX9_wordIndex.at 5 rfl) fX9_23 r0 rfl ?_
  refine v_iload_n C (oX9_wordIndex.at 6 rfl) rfl ?_
  refine v_iald C (oX9_wordIndex.at 7 rfl) hf (by decide) rfl (by omega) (hL x hx) ?_
  refine v_goto C (oX9_wordIndex.at 8 rfl) (tgt := 18) (by decide) ?_
  exact v_iret C (oX9_wordIndex.at 10 rfl) rfl rfl ⟨Nat.le_refl _, Nat.le_refl _⟩ ⟨rfl, hp⟩
theorem k9_cellOf {w : Wt} {G h : Hp} {th : Nat} {S Z : Sc} {sv : Bool} {F : Sf} {x c : Nat} (hR : RF G h th S sv Z F) (hx : x < 4) (hc0 : c < S.2.2.2.1 x) : ConN mX9_cellOf 1 (0, 0) w [.ref 62, .int (nI x), .int (nI c)] h (.inl (some (.int (nI (cel S.1 (S.2.2.2.1 x) (S.2.2.2.2 x) c))))) (fun h' => h' = h) := by
  obtain ⟨u, o0, o1, o2⟩ := hR.o
  obtain ⟨f, hf, hL⟩ := hR.rl
  obtain ⟨e, he, hI⟩ := hR.ri
  have hk := hR.so.1.k
  obtain ⟨b1, b2⟩ := hR.so.2 x hx
  have p0 : 0 < S.1 ^ (S.2.2.2.1 x - 1 - c) := Nat.pow_pos (by omega)
  have p1 := pw14 hk (n := S.2.2.2.1 x - 1 - c) (by omega)
  have p4 := pw14 hk (n := S.2.2.2.1 x) (by omega)
  have p2 : S.2.2.2.2 x / S.1 ^ (S.2.2.2.1 x - 1 - c) ≤ S.2.2.2.2 x := Nat.div_le_self _ _
  unfold cel
  refine conI (by decide +kernel) ⟨fun _ => rfl, rfl, by simp⟩ (fun X C => ?_)
  change V X (0, 0) w h 0 [some (.ref 62), some (.int (nI x)), some (.int (nI c))] []
  refine v_aload_n C (oX9_cellOf.at 0 rfl) rfl ?_
  refine v_getf C (oX9_cellOf.at 1 rfl) fX9_23 o0 rfl ?_
  refine v_iload_n C (oX9_cellOf.at 2 rfl) rfl ?_
  refine v_iald C (oX9_cellOf.at 3 rfl) he (by decide) rfl (by omega) (hI x hx) ?_
  refine v_aload_n C (oX9_cellOf.at 4 rfl) rfl ?_
  refine v_aload_n C (oX9_cellOf.at 5 rfl) rfl ?_
  refine v_getf C (oX9_cellOf.at 6 rfl) fX9_20 o0 rfl ?_
  refine v_iload_n C (oX9_cellOf.at 7 rfl) rfl ?_
  refine v_iald C (oX9_cellOf.at 8 rfl) hf (by decide) rfl (by omega) (hL x hx) ?_
  refine v_iconst C (oX9_cellOf.at 9 rfl) (v := nI 1) rfl ?_
  refine v_isubN C (oX9_cellOf.at 10 rfl) (by omega) ?_
  refine v_iload_n C (oX9_cellOf.at 11 rfl) rfl ?_
  refine v_isubN C (oX9_cellOf.at 12 rfl) (by omega) ?_
  refine v_callV C (oX9_cellOf.at 13 rfl) cX9_99 o0 (k9_power o0 o2.1 (by omega)) rfl rfl rfl ⟨rfl, rfl⟩ rfl rfl (fun _ => rfl) (fun h' hp => ?_)
  rw [show h' = _ from hp]
  dsimp only [Option.toList, List.cons_append, List.nil_append]
  refine v_idivN C (oX9_cellOf.at 14 rfl) (by omega) (by omega) (by omega) ?_
  refine v_aload_n C (oX9_cellOf.at 15 rfl) rfl ?_
  refine v_getf C (oX9_cellOf.at 16 rfl) fX9_7 o0 (congrArg (fun z => some (Value.int z)) (o2.1)) ?_
  refine v_iremN C (oX9_cellOf.at 17 rfl) (by omega) (by omega) (by omega) ?_
  exact v_iret C (oX9_cellOf.at 18 rfl) rfl rfl ⟨Nat.le_refl _, Nat.le_refl _⟩ ⟨rfl, rfl⟩
theorem k9_cellR {w : Wt} {G h : Hp} {th : Nat} {S Z : Sc} {sv : Bool} {F : Sf} {x y : Int32} (hR : RF G h th S sv Z F) (hx : ¬ InB x 4) : ConN mX9_cell 2 (0, 0) w [.ref 62, .int x, .int y] h (.inl (some (.int (nI 0)))) (fun h' => RF G h' 1 S sv Z F) := by
  refine conI (by decide +kernel) ⟨fun _ => rfl, rfl, by simp⟩ (fun X C => ?_)
  change V X (0, 0) w h 0 [some (.ref 62), some (.int x), some (.int y)] []
  refine v_aload_n C (oX9_cell.at 0 rfl) rfl ?_
  refine v_iload_n C (oX9_cell.at 1 rfl) rfl ?_
  refine v_callS C (oX9_cell.at 2 rfl) cX9_210 (k_regF hx) rfl rfl rfl ⟨rfl, rfl⟩ rfl rfl (fun _ => rfl) (fun h' hp => ?_)
  rw [show h' = _ from hp]
  dsimp only [Option.toList, List.cons_append, List.nil_append]
  refine v_if_eqB C (oX9_cell.at 3 rfl) (tgt := 28) (by decide) (fun _ => ?_) (fun z => absurd z (by decide))
  refine v_iconst C (oX9_cell.at 16 rfl) (v := nI 1) rfl ?_
  refine v_thr C (oX9_cell.at 17 rfl) fX9_96 hR (fun h1 u1 hR1 q0 qt qm => ?_)
  refine v_aload_n C (oX9_cell.at 18 rfl) rfl ?_
  refine v_getf C (oX9_cell.at 19 rfl) fX9_96 q0 (congrArg (fun z => some (Value.int z)) (qt)) ?_
  refine v_if_neN C (oX9_cell.at 20 rfl) (tgt := 48) (by decide) (by omega) (fun hc => ?_) (fun hc => absurd hc (by omega))
  refine v_iconst C (oX9_cell.at 26 rfl) (v := nI 0) rfl ?_
  exact v_iret C (oX9_cell.at 27 rfl) rfl rfl ⟨Nat.le_refl _, Nat.le_refl _⟩ ⟨rfl, hR1⟩
theorem k9_cellX {w : Wt} {G h : Hp} {th : Nat} {S Z : Sc} {sv : Bool} {F : Sf} {x : Nat} {y : Int32} (hR : RF G h th S sv Z F) (hx : x < 4) (hy : ¬ InB y (S.2.2.2.1 x)) : ConN mX9_cell 2 (0, 0) w [.ref 62, .int (nI x), .int y] h (.inl (some (.int (nI 0)))) (fun h' => RF G h' 1 S sv Z F) := by
  obtain ⟨u, o0, o1, o2⟩ := hR.o
  obtain ⟨f, hf, hL⟩ := hR.rl
  obtain ⟨b1, b2⟩ := hR.so.2 x hx
  refine conI (by decide +kernel) ⟨fun _ => rfl, rfl, by simp⟩ (fun X C => ?_)
  change V X (0, 0) w h 0 [some (.ref 62), some (.int (nI x)), some (.int y)] []
  by_cases h0 : S.2.2.2.1 x = 0
  · have ki := k_isIn (w := w) (h := h) (x := y) (a := nI 0) (b := pI (S.2.2.2.1 x))
    have e0 : decide (¬ y < nI 0 ∧ ¬ pI (S.2.2.2.1 x) < y) = false := by
      refine decide_eq_false (fun z => ?_)
      rw [h0] at z
      have z0 : nI 0 = 0 := rfl
      have z1 : pI 0 = -1 := rfl
      rw [z0, z1] at z
      have := Int32.not_lt.mp z.1
      have h2 := Int32.not_lt.mp z.2
      rw [Int32.le_iff_toInt_le] at this h2
      have e1 : (0 : Int32).toInt = 0 := by decide
      have e2 : (-1 : Int32).toInt = -1 := by decide
      omega
    rw [e0] at ki
    refine v_aload_n C (oX9_cell.at 0 rfl) rfl ?_
    refine v_iload_n C (oX9_cell.at 1 rfl) rfl ?_
    refine v_callS C (oX9_cell.at 2 rfl) cX9_210 (k_regT (InB.of hx (by decide))) rfl rfl rfl ⟨rfl, rfl⟩ rfl rfl (fun _ => rfl) (fun h' hp => ?_)
    rw [show h' = _ from hp]
    dsimp only [Option.toList, List.cons_append, List.nil_append]
    refine v_if_eqB C (oX9_cell.at 3 rfl) (tgt := 28) (by decide) (fun z => absurd z (by decide)) (fun _ => ?_)
    refine v_iload_n C (oX9_cell.at 4 rfl) rfl ?_
    refine v_iconst C (oX9_cell.at 5 rfl) (v := nI 0) rfl ?_
    refine v_aload_n C (oX9_cell.at 6 rfl) rfl ?_
    refine v_getf C (oX9_cell.at 7 rfl) fX9_20 o0 rfl ?_
    refine v_iload_n C (oX9_cell.at 8 rfl) rfl ?_
    refine v_iald C (oX9_cell.at 9 rfl) hf (by decide) rfl (by omega) (hL x hx) ?_
    refine v_iconst C (oX9_cell.at 10 rfl) (v := nI 1) rfl ?_
    refine v_isubP C (oX9_cell.at 11 rfl) ?_
    refine v_callS C (oX9_cell.at 12 rfl) cX9_103 (ki) rfl rfl rfl ⟨rfl, rfl⟩ rfl rfl (fun _ => rfl) (fun h' hp => ?_)
    rw [show h' = _ from hp]
    dsimp only [Option.toList, List.cons_append, List.nil_append]
    refine v_if_eqB C (oX9_cell.at 13 rfl) (tgt := 28) (by decide) (fun _ => ?_) (fun z => absurd z (by decide))
    refine v_iconst C (oX9_cell.at 16 rfl) (v := nI 1) rfl ?_
    refine v_thr C (oX9_cell.at 17 rfl) fX9_96 hR (fun h1 u1 hR1 q0 qt qm => ?_)
    refine v_aload_n C (oX9_cell.at 18 rfl) rfl ?_
    refine v_getf C (oX9_cell.at 19 rfl) fX9_96 q0 (congrArg (fun z => some (Value.int z)) (qt)) ?_
    refine v_if_neN C (oX9_cell.at 20 rfl) (tgt := 48) (by decide) (by omega) (fun hc => ?_) (fun hc => absurd hc (by omega))
    refine v_iconst C (oX9_cell.at 26 rfl) (v := nI 0) rfl ?_
    exact v_iret C (oX9_cell.at 27 rfl) rfl rfl ⟨Nat.le_refl _, Nat.le_refl _⟩ ⟨rfl, hR1⟩
  · skip
    refine v_aload_n C (oX9_cell.at 0 rfl) rfl ?_
    refine v_iload_n C (oX9_cell.at 1 rfl) rfl ?_
    refine v_callS C (oX9_cell.at 2 rfl) cX9_210 (k_regT (InB.of hx (by decide))) rfl rfl rfl ⟨rfl, rfl⟩ rfl rfl (fun _ => rfl) (fun h' hp => ?_)
    rw [show h' = _ from hp]
    dsimp only [Option.toList, List.cons_append, List.nil_append]
    refine v_if_eqB C (oX9_cell.at 3 rfl) (tgt := 28) (by decide) (fun z => absurd z (by decide)) (fun _ => ?_)
    refine v_iload_n C (oX9_cell.at 4 rfl) rfl ?_
    refine v_iconst C (oX9_cell.at 5 rfl) (v := nI 0) rfl ?_
    refine v_aload_n C (oX9_cell.at 6 rfl) rfl ?_
    refine v_getf C (oX9_cell.at 7 rfl) fX9_20 o0 rfl ?_
    refine v_iload_n C (oX9_cell.at 8 rfl) rfl ?_
    refine v_iald C (oX9_cell.at 9 rfl) hf (by decide) rfl (by omega) (hL x hx) ?_
    refine v_iconst C (oX9_cell.at 10 rfl) (v := nI 1) rfl ?_
    refine v_isubN C (oX9_cell.at 11 rfl) (by omega) ?_
    refine v_callS C (oX9_cell.at 12 rfl) cX9_103 (k_inF (S.2.2.2.1 x) (by omega) (by omega) rfl hy) rfl rfl rfl ⟨rfl, rfl⟩ rfl rfl (fun _ => rfl) (fun h' hp => ?_)
    rw [show h' = _ from hp]
    dsimp only [Option.toList, List.cons_append, List.nil_append]
    refine v_if_eqB C (oX9_cell.at 13 rfl) (tgt := 28) (by decide) (fun _ => ?_) (fun z => absurd z (by decide))
    refine v_iconst C (oX9_cell.at 16 rfl) (v := nI 1) rfl ?_
    refine v_thr C (oX9_cell.at 17 rfl) fX9_96 hR (fun h1 u1 hR1 q0 qt qm => ?_)
    refine v_aload_n C (oX9_cell.at 18 rfl) rfl ?_
    refine v_getf C (oX9_cell.at 19 rfl) fX9_96 q0 (congrArg (fun z => some (Value.int z)) (qt)) ?_
    refine v_if_neN C (oX9_cell.at 20 rfl) (tgt := 48) (by decide) (by omega) (fun hc => ?_) (fun hc => absurd hc (by omega))
    refine v_iconst C (oX9_cell.at 26 rfl) (v := nI 0) rfl ?_
    exact v_iret C (oX9_cell.at 27 rfl) rfl rfl ⟨Nat.le_refl _, Nat.le_refl _⟩ ⟨rfl, hR1⟩
theorem k9_cell {w : Wt} {G h : Hp} {th : Nat} {S Z : Sc} {sv : Bool} {F : Sf} {x y : Nat} (hR : RF G h th S sv Z F) (hx : x < 4) (hy : y < S.2.2.2.1 x) : ConN mX9_cell 2 (0, 0) w [.ref 62, .int (nI x), .int (nI y)] h (.inl (some (.int (nI (cel S.1 (S.2.2.2.1 x) (S.2.2.2.2 x) y))))) (fun h' => RF G h' 0 S sv Z F) := by
  obtain ⟨u, o0, o1, o2⟩ := hR.o
  obtain ⟨f, hf, hL⟩ := hR.rl
  obtain ⟨b1, b2⟩ := hR.so.2 x hx
  refine conI (by decide +kernel) ⟨fun _ => rfl, rfl, by simp⟩ (fun X C => ?_)
  change V X (0, 0) w h 0 [some (.ref 62), some (.int (nI x)), some (.int (nI y))] []
  refine v_aload_n C (oX9_cell.at 0 rfl) rfl ?_
  refine v_iload_n C (oX9_cell.at 1 rfl) rfl ?_
  refine v_callS C (oX9_cell.at 2 rfl) cX9_210 (k_regT (InB.of hx (by decide))) rfl rfl rfl ⟨rfl, rfl⟩ rfl rfl (fun _ => rfl) (fun h' hp => ?_)
  rw [show h' = _ from hp]
  dsimp only [Option.toList, List.cons_append, List.nil_append]
  refine v_if_eqB C (oX9_cell.at 3 rfl) (tgt := 28) (by decide) (fun z => absurd z (by decide)) (fun _ => ?_)
  refine v_iload_n C (oX9_cell.at 4 rfl) rfl ?_
  refine v_iconst C (oX9_cell.at 5 rfl) (v := nI 0) rfl ?_
  refine v_aload_n C (oX9_cell.at 6 rfl) rfl ?_
  refine v_getf C (oX9_cell.at 7 rfl) fX9_20 o0 rfl ?_
  refine v_iload_n C (oX9_cell.at 8 rfl) rfl ?_
  refine v_iald C (oX9_cell.at 9 rfl) hf (by decide) rfl (by omega) (hL x hx) ?_
  refine v_iconst C (oX9_cell.at 10 rfl) (v := nI 1) rfl ?_
  refine v_isubN C (oX9_cell.at 11 rfl) (by omega) ?_
  refine v_callS C (oX9_cell.at 12 rfl) cX9_103 (k_inT (S.2.2.2.1 x) (by omega) (by omega) rfl (InB.of hy (by omega))) rfl rfl rfl ⟨rfl, rfl⟩ rfl rfl (fun _ => rfl) (fun h' hp => ?_)
  rw [show h' = _ from hp]
  dsimp only [Option.toList, List.cons_append, List.nil_append]
  refine v_if_eqB C (oX9_cell.at 13 rfl) (tgt := 28) (by decide) (fun z => absurd z (by decide)) (fun _ => ?_)
  refine v_iconst C (oX9_cell.at 14 rfl) (v := nI 0) rfl ?_
  refine v_goto C (oX9_cell.at 15 rfl) (tgt := 29) (by decide) ?_
  refine v_thr C (oX9_cell.at 17 rfl) fX9_96 hR (fun h1 u1 hR1 q0 qt qm => ?_)
  refine v_aload_n C (oX9_cell.at 18 rfl) rfl ?_
  refine v_getf C (oX9_cell.at 19 rfl) fX9_96 q0 (congrArg (fun z => some (Value.int z)) (qt)) ?_
  refine v_if_neN C (oX9_cell.at 20 rfl) (tgt := 48) (by decide) (by omega) (fun hc => absurd hc (by omega)) (fun hc => ?_)
  refine v_aload_n C (oX9_cell.at 21 rfl) rfl ?_
  refine v_iload_n C (oX9_cell.at 22 rfl) rfl ?_
  refine v_iload_n C (oX9_cell.at 23 rfl) rfl ?_
  refine v_callV C (oX9_cell.at 24 rfl) cX9_216 q0 (k9_cellOf hR1 hx hy) rfl rfl rfl ⟨rfl, rfl⟩ rfl rfl (fun _ => rfl) (fun h' hp => ?_)
  rw [show h' = _ from hp]
  dsimp only [Option.toList, List.cons_append, List.nil_append]
  refine v_goto C (oX9_cell.at 25 rfl) (tgt := 49) (by decide) ?_
  exact v_iret C (oX9_cell.at 27 rfl) rfl rfl ⟨Nat.le_refl _, Nat.le_refl _⟩ ⟨rfl, hR1⟩
theorem k9_errorX {w : Wt} {G h : Hp} {th : Nat} {S Z : Sc} {sv : Bool} {F : Sf} {x : Int32} (hR : RF G h th S sv Z F) (hx : ¬ InB x 2) : ConN mX9_error 2 (0, 0) w [.ref 62, .int x] h (.inl (some (.int (nI 0)))) (fun h' => RF G h' 1 S sv Z F) := by
  refine conI (by decide +kernel) ⟨fun _ => rfl, rfl, by simp⟩ (fun X C => ?_)
  change V X (0, 0) w h 0 [some (.ref 62), some (.int x)] []
  refine v_aload_n C (oX9_error.at 0 rfl) rfl ?_
  refine v_iconst C (oX9_error.at 1 rfl) (v := nI 0) rfl ?_
  refine v_thr C (oX9_error.at 2 rfl) fX9_96 hR (fun h1 u1 hR1 q0 qt qm => ?_)
  refine v_iload_n C (oX9_error.at 3 rfl) rfl ?_
  refine v_iconst C (oX9_error.at 4 rfl) (v := nI 0) rfl ?_
  refine v_iconst C (oX9_error.at 5 rfl) (v := nI 1) rfl ?_
  refine v_callS C (oX9_error.at 6 rfl) cX9_103 (k_inF 2 (by decide) (by decide) rfl hx) rfl rfl rfl ⟨rfl, rfl⟩ rfl rfl (fun _ => rfl) (fun h' hp => ?_)
  rw [show h' = _ from hp]
  dsimp only [Option.toList, List.cons_append, List.nil_append]
  refine v_if_neB C (oX9_error.at 7 rfl) (tgt := 22) (by decide) (fun z => absurd z (by decide)) (fun _ => ?_)
  refine v_aload_n C (oX9_error.at 8 rfl) rfl ?_
  refine v_iconst C (oX9_error.at 9 rfl) (v := nI 1) rfl ?_
  refine v_callV C (oX9_error.at 10 rfl) cX9_111 q0 (k9_noR hR1) rfl rfl rfl ⟨rfl, rfl⟩ rfl rfl (fun _ => rfl) (fun h' hp => ?_)
  dsimp only [Option.toList, List.cons_append, List.nil_append]
  refine v_goto C (oX9_error.at 11 rfl) (tgt := 37) (by decide) ?_
  exact v_iret C (oX9_error.at 19 rfl) rfl rfl ⟨Nat.le_refl _, Nat.le_refl _⟩ ⟨rfl, hp⟩
theorem k9_error {w : Wt} {G h : Hp} {th : Nat} {S Z : Sc} {sv : Bool} {F : Sf} {x : Nat} (hR : RF G h th S sv Z F) (hx : x < 2) : ConN mX9_error 2 (0, 0) w [.ref 62, .int (nI x)] h (.inl (some (.int (if x = 0 then nI F.2.1 else F.2.2.1)))) (fun h' => RF G h' 0 S sv Z F) := by
  refine conI (by decide +kernel) ⟨fun _ => rfl, rfl, by simp⟩ (fun X C => ?_)
  change V X (0, 0) w h 0 [some (.ref 62), some (.int (nI x))] []
  refine v_aload_n C (oX9_error.at 0 rfl) rfl ?_
  refine v_iconst C (oX9_error.at 1 rfl) (v := nI 0) rfl ?_
  refine v_thr C (oX9_error.at 2 rfl) fX9_96 hR (fun h1 u1 hR1 q0 qt qm => ?_)
  refine v_iload_n C (oX9_error.at 3 rfl) rfl ?_
  refine v_iconst C (oX9_error.at 4 rfl) (v := nI 0) rfl ?_
  refine v_iconst C (oX9_error.at 5 rfl) (v := nI 1) rfl ?_
  refine v_callS C (oX9_error.at 6 rfl) cX9_103 (k_inT 2 (by decide) (by decide) rfl (InB.of hx (by decide))) rfl rfl rfl ⟨rfl, rfl⟩ rfl rfl (fun _ => rfl) (fun h' hp => ?_)
  rw [show h' = _ from hp]
  dsimp only [Option.toList, List.cons_append, List.nil_append]
  refine v_if_neB C (oX9_error.at 7 rfl) (tgt := 22) (by decide) (fun _ => ?_) (fun z => absurd z (by decide))
  refine v_iload_n C (oX9_error.at 12 rfl) rfl ?_
  refine v_if_neN C (oX9_error.at 13 rfl) (tgt := 33) (by decide) (by omega) (fun hc => ?_) (fun hc => ?_)
  · rw [if_neg hc] at C
    have e := qm.2.2.2.2.2.2
    rw [← e] at C
    refine v_aload_n C (oX9_error.at 17 rfl) rfl ?_
    refine v_getf C (oX9_error.at 18 rfl) fX9_38 q0 rfl ?_
    exact v_iret C (oX9_error.at 19 rfl) rfl rfl ⟨Nat.le_refl _, Nat.le_refl _⟩ ⟨rfl, hR1⟩
  · rw [if_pos hc] at C
    have e := qm.2.2.2.2.2.1
    rw [← e] at C
    refine v_aload_n C (oX9_error.at 14 rfl) rfl ?_
    refine v_getf C (oX9_error.at 15 rfl) fX9_171 q0 rfl ?_
    refine v_goto C (oX9_error.at 16 rfl) (tgt := 37) (by decide) ?_
    exact v_iret C (oX9_error.at 19 rfl) rfl rfl ⟨Nat.le_refl _, Nat.le_refl _⟩ ⟨rfl, hR1⟩
