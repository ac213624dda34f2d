/-! ===== the program's methods: orbits, images, the inverse, snapshots ===== -/
theorem k8_orbitR {w : Wt} {h : Hp} {x y : Int32} (hx : ¬ InB x 4) : ConN mX8_orbit 1 (1, 6) w [.ref 0, .int x, .int y] h (.inr EIOO) (fun h' => h' = h) := by
  refine conI (by decide +kernel) ⟨fun _ => rfl, rfl, by simp⟩ (fun X C => ?_)
  change V X (0, 0) w h 0 [some (.ref 0), some (.int x), some (.int y), none] []
  refine v_iload_n C (oX8_orbit.at 0 rfl) rfl ?_
  exact v_callST C (oX8_orbit.at 1 rfl) cX8_210 (k_needRegX hx) rfl rfl rfl rfl rfl (fun h' hp => ⟨rfl, hp⟩)
theorem k8_orbitB {w : Wt} {h : Hp} {x : Nat} {y : Int32} (hx : x < 4) (hy : ¬ (y = 0 ∨ y = 1)) : ConN mX8_orbit 1 (1, 6) w [.ref 0, .int (nI x), .int y] h (.inr EIOO) (fun h' => h' = h) := by
  refine conI (by decide +kernel) ⟨fun _ => rfl, rfl, by simp⟩ (fun X C => ?_)
  change V X (0, 0) w h 0 [some (.ref 0), some (.int (nI x)), some (.int y), none] []
  refine v_iload_n C (oX8_orbit.at 0 rfl) rfl ?_
  refine v_callS C (oX8_orbit.at 1 rfl) cX8_210 (k_needReg (InB.of hx (by decide))) rfl rfl rfl ⟨rfl, rfl⟩ rfl rfl (fun _ => rfl) (fun h' hp => ?_)
  rw [show h' = _ from hp]
  dsimp only [Option.toList, List.cons_append, List.nil_append]
  refine v_iload_n C (oX8_orbit.at 2 rfl) rfl ?_
  exact v_callST C (oX8_orbit.at 3 rfl) cX8_179 (k_needBitX hy) rfl rfl rfl rfl rfl (fun h' hp => ⟨rfl, hp⟩)
theorem k8_orbitX {w : Wt} {G h : Hp} {S Z : Sc} {sv : Bool} {F : Sf} {x : Nat} {y : Int32} (hP : PA G h S sv Z F) (hx : x < 4) (hy : y = 0 ∨ y = 1) (hl : S.2.2.2.1 x = 0 ∨ 8 < S.2.2.2.1 x) : ConN mX8_orbit 1 (1, 6) w [.ref 0, .int (nI x), .int y] h (.inr EISE) (fun h' => h' = h) := by
  obtain ⟨f, e, g0, g1, g2, g3, g4⟩ := hP.rg
  have hb := hP.so.2 x hx
  refine conI (by decide +kernel) ⟨fun _ => rfl, rfl, by simp⟩ (fun X C => ?_)
  change V X (0, 0) w h 0 [some (.ref 0), some (.int (nI x)), some (.int y), none] []
  refine v_iload_n C (oX8_orbit.at 0 rfl) rfl ?_
  refine v_callS C (oX8_orbit.at 1 rfl) cX8_210 (k_needReg (InB.of hx (by decide))) rfl rfl rfl ⟨rfl, rfl⟩ rfl rfl (fun _ => rfl) (fun h' hp => ?_)
  rw [show h' = _ from hp]
  dsimp only [Option.toList, List.cons_append, List.nil_append]
  refine v_iload_n C (oX8_orbit.at 2 rfl) rfl ?_
  refine v_callS C (oX8_orbit.at 3 rfl) cX8_179 (k_needBit hy) rfl rfl rfl ⟨rfl, rfl⟩ rfl rfl (fun _ => rfl) (fun h' hp => ?_)
  rw [show h' = _ from hp]
  dsimp only [Option.toList, List.cons_append, List.nil_append]
  refine v_aload_n C (oX8_orbit.at 4 rfl) rfl ?_
  refine v_getf C (oX8_orbit.at 5 rfl) fX8_22 hP.ob rfl ?_
  refine v_getf C (oX8_orbit.at 6 rfl) fX8_217 g0 rfl ?_
  refine v_iload_n C (oX8_orbit.at 7 rfl) rfl ?_
  refine v_iald C (oX8_orbit.at 8 rfl) g1 (by decide) rfl (by omega) (g2 x hx) ?_
  refine v_istore_n C (oX8_orbit.at 9 rfl) rfl ?_
  dsimp only [sto1, sto2, killL]
  have thr : V X (0, 0) w h 28 [some (.ref 0), some (.int (nI x)), some (.int y), some (.int (nI (S.2.2.2.1 x)))] [] := v_throwS C rfl tISE sr238 (oX8_orbit.at 15 rfl) (oX8_orbit.at 16 rfl) (oX8_orbit.at 17 rfl) (oX8_orbit.at 18 rfl) (oX8_orbit.at 19 rfl) rfl rfl ⟨rfl, rfl⟩
  refine v_iload_n C (oX8_orbit.at 10 rfl) rfl ?_
  refine v_if_eqN C (oX8_orbit.at 11 rfl) (tgt := 28) (by decide) (by omega) (fun hc => ?_) (fun hc => ?_)
  · exact thr
  · refine v_iload_n C (oX8_orbit.at 12 rfl) rfl ?_
    refine v_bipush C (oX8_orbit.at 13 rfl) (v := nI 8) rfl ?_
    refine v_icmp_leN C (oX8_orbit.at 14 rfl) (tgt := 38) (by decide) (by omega) (by omega) (fun hc => ?_) (fun hc => ?_)
    · exact absurd hl (by omega)
    · exact thr
theorem k8_orbit {w : Wt} {G h : Hp} {S Z : Sc} {sv : Bool} {F : Sf} {x s j0 : Nat} {y : Int32} (hP : PA G h S sv Z F) (hx : x < 4) (hy : y = 0 ∨ y = 1) (hl0 : 0 < S.2.2.2.1 x) (hl : S.2.2.2.1 x ≤ 8) (hF : FR (itC S.1 S.2.1 S.2.2.1 (S.2.2.2.1 x) (S.2.2.2.2 x)) s j0) (hsK : s ≤ S.1 ^ S.2.2.2.1 x) : ConN mX8_orbit 4 (0, 0) w [.ref 0, .int (nI x), .int y] h (.inl (some (.int (nI (if y = 0 then j0 else s - j0))))) (fun h' => PA G h' S sv Z F) := by
  obtain ⟨f, e, g0, g1, g2, g3, g4⟩ := hP.rg
  have hb := hP.so.2 x hx
  obtain ⟨ia, ib, icf, iM, i0, -⟩ := id hP.im
  have kf := k_follow (w := w) (L := S.2.2.2.1 x) (x := S.2.2.2.2 x) hP.im hP.ru hP.sz hl0 hl hb.2 (by decide) hF hsK
  refine conI (by decide +kernel) ⟨fun _ => rfl, rfl, by simp⟩ (fun X C => ?_)
  change V X (0, 0) w h 0 [some (.ref 0), some (.int (nI x)), some (.int y), none] []
  refine v_iload_n C (oX8_orbit.at 0 rfl) rfl ?_
  refine v_callS C (oX8_orbit.at 1 rfl) cX8_210 (k_needReg (InB.of hx (by decide))) rfl rfl rfl ⟨rfl, rfl⟩ rfl rfl (fun _ => rfl) (fun h' hp => ?_)
  rw [show h' = _ from hp]
  dsimp only [Option.toList, List.cons_append, List.nil_append]
  refine v_iload_n C (oX8_orbit.at 2 rfl) rfl ?_
  refine v_callS C (oX8_orbit.at 3 rfl) cX8_179 (k_needBit hy) rfl rfl rfl ⟨rfl, rfl⟩ rfl rfl (fun _ => rfl) (fun h' hp => ?_)
  rw [show h' = _ from hp]
  dsimp only [Option.toList, List.cons_append, List.nil_append]
  refine v_aload_n C (oX8_orbit.at 4 rfl) rfl ?_
  refine v_getf C (oX8_orbit.at 5 rfl) fX8_22 hP.ob rfl ?_
  refine v_getf C (oX8_orbit.at 6 rfl) fX8_217 g0 rfl ?_
  refine v_iload_n C (oX8_orbit.at 7 rfl) rfl ?_
  refine v_iald C (oX8_orbit.at 8 rfl) g1 (by decide) rfl (by omega) (g2 x hx) ?_
  refine v_istore_n C (oX8_orbit.at 9 rfl) rfl ?_
  dsimp only [sto1, sto2, killL]
  refine v_iload_n C (oX8_orbit.at 10 rfl) rfl ?_
  refine v_if_eqN C (oX8_orbit.at 11 rfl) (tgt := 28) (by decide) (by omega) (fun hc => ?_) (fun hc => ?_)
  · exact absurd hc (by omega)
  · refine v_iload_n C (oX8_orbit.at 12 rfl) rfl ?_
    refine v_bipush C (oX8_orbit.at 13 rfl) (v := nI 8) rfl ?_
    refine v_icmp_leN C (oX8_orbit.at 14 rfl) (tgt := 38) (by decide) (by omega) (by omega) (fun hc => ?_) (fun hc => ?_)
    · refine v_aload_n C (oX8_orbit.at 20 rfl) rfl ?_
      refine v_getf C (oX8_orbit.at 21 rfl) fX8_43 hP.ob rfl ?_
      refine v_aload_n C (oX8_orbit.at 22 rfl) rfl ?_
      refine v_getf C (oX8_orbit.at 23 rfl) fX8_10 hP.ob rfl ?_
      refine v_iload_n C (oX8_orbit.at 24 rfl) rfl ?_
      refine v_aload_n C (oX8_orbit.at 25 rfl) rfl ?_
      refine v_getf C (oX8_orbit.at 26 rfl) fX8_22 hP.ob rfl ?_
      refine v_getf C (oX8_orbit.at 27 rfl) fX8_224 g0 rfl ?_
      refine v_iload_n C (oX8_orbit.at 28 rfl) rfl ?_
      refine v_iald C (oX8_orbit.at 29 rfl) g3 (by decide) rfl (by omega) (g4 x hx) ?_
      refine v_callV C (oX8_orbit.at 30 rfl) cX8_240 i0 (kf) rfl rfl rfl ⟨rfl, rfl⟩ rfl rfl (fun _ => rfl) (fun h' hp => ?_)
      dsimp only [Option.toList, List.cons_append, List.nil_append]
      obtain ⟨q0, ⟨cf, q1⟩, ⟨M, q2⟩, hfr⟩ := hp
      have hP1 : PA G h' S sv Z F := hP.set_im (fun j hj => hfr j (by omega)) ⟨_, _, cf, M, q0, q1, q2⟩
      refine v_iload_n C (oX8_orbit.at 31 rfl) rfl ?_
      refine v_if_ne C (oX8_orbit.at 32 rfl) (tgt := 73) (by decide) (fun hc => ?_) (fun hc => ?_)
      · rw [if_neg hc] at C
        refine v_aload_n C (oX8_orbit.at 37 rfl) rfl ?_
        refine v_getf C (oX8_orbit.at 38 rfl) fX8_43 hP1.ob rfl ?_
        refine v_getf C (oX8_orbit.at 39 rfl) fX8_247 q0 rfl ?_
        exact v_iret C (oX8_orbit.at 40 rfl) rfl rfl ⟨Nat.le_refl _, Nat.le_refl _⟩ ⟨rfl, hP1⟩
      · rw [if_pos hc] at C
        refine v_aload_n C (oX8_orbit.at 33 rfl) rfl ?_
        refine v_getf C (oX8_orbit.at 34 rfl) fX8_43 hP1.ob rfl ?_
        refine v_getf C (oX8_orbit.at 35 rfl) fX8_244 q0 rfl ?_
        refine v_goto C (oX8_orbit.at 36 rfl) (tgt := 80) (by decide) ?_
        exact v_iret C (oX8_orbit.at 40 rfl) rfl rfl ⟨Nat.le_refl _, Nat.le_refl _⟩ ⟨rfl, hP1⟩
    · exact absurd hc (by omega)
theorem k8_needInverse {w : Wt} {G h : Hp} {S Z : Sc} {sv : Bool} {F : Sf} {m q : Nat} (hP : PA G h S sv Z F) (hI : InR S.1 S.2.1 S.2.2.1 m q) (hm : m ≠ 0) : ConN mX8_needInverse 4 (0, 0) w [.ref 0] h (.inl none) (fun h' => PA G h' S sv Z F ∧ ∃ g f, IsOK h' 57 (nI m) (nI q) g f ∧ ∀ y, y < S.1 ^ m → ∃ x, x < S.1 ^ (m + S.2.1 - 1) ∧ f y = nI x ∧ gIm S.1 S.2.1 S.2.2.1 m x = y) := by
  have hm5 : m ≤ 5 := by rcases hI with ⟨e, _⟩ | ⟨_, e, _⟩ <;> omega
  obtain ⟨a, b, g0, f0, hO⟩ := hP.se
  have kr := k_run (w := w) hP.ru hP.sz hO (by decide) hI
  refine conI (by decide +kernel) ⟨fun _ => rfl, rfl, by simp⟩ (fun X C => ?_)
  change V X (0, 0) w h 0 [some (.ref 0)] []
  refine v_aload_n C (oX8_needInverse.at 0 rfl) rfl ?_
  refine v_getf C (oX8_needInverse.at 1 rfl) fX8_71 hP.ob rfl ?_
  refine v_aload_n C (oX8_needInverse.at 2 rfl) rfl ?_
  refine v_getf C (oX8_needInverse.at 3 rfl) fX8_10 hP.ob rfl ?_
  refine v_callV C (oX8_needInverse.at 4 rfl) cX8_367 hO.1 (kr) rfl rfl rfl ⟨rfl, rfl⟩ rfl rfl (fun _ => rfl) (fun h' hp => ?_)
  dsimp only [Option.toList, List.cons_append, List.nil_append]
  obtain ⟨⟨g, f, hO1, hF1⟩, hfr⟩ := hp
  have hP1 : PA G h' S sv Z F := hP.set_se (fun j hj => hfr j (by omega)) ⟨_, _, _, _, hO1⟩
  refine v_aload_n C (oX8_needInverse.at 5 rfl) rfl ?_
  refine v_getf C (oX8_needInverse.at 6 rfl) fX8_71 hP1.ob rfl ?_
  refine v_getf C (oX8_needInverse.at 7 rfl) fX8_342 hO1.1 rfl ?_
  refine v_if_neN C (oX8_needInverse.at 8 rfl) (tgt := 32) (by decide) (by omega) (fun hc => ?_) (fun hc => ?_)
  · exact v_vret C (oX8_needInverse.at 14 rfl) rfl rfl ⟨Nat.le_refl _, Nat.le_refl _⟩ ⟨rfl, hP1, g, f, hO1, hF1 hm⟩
  · exact absurd hc hm
theorem k8_needInverseX {w : Wt} {G h : Hp} {S Z : Sc} {sv : Bool} {F : Sf} {q : Nat} (hP : PA G h S sv Z F) (hI : InR S.1 S.2.1 S.2.2.1 0 q) : ConN mX8_needInverse 4 (1, 6) w [.ref 0] h (.inr ENSE) (fun h' => PA G h' S sv Z F) := by
  obtain ⟨a, b, g0, f0, hO⟩ := hP.se
  have kr := k_run (w := w) hP.ru hP.sz hO (by decide) hI
  refine conI (by decide +kernel) ⟨fun _ => rfl, rfl, by simp⟩ (fun X C => ?_)
  change V X (0, 0) w h 0 [some (.ref 0)] []
  refine v_aload_n C (oX8_needInverse.at 0 rfl) rfl ?_
  refine v_getf C (oX8_needInverse.at 1 rfl) fX8_71 hP.ob rfl ?_
  refine v_aload_n C (oX8_needInverse.at 2 rfl) rfl ?_
  refine v_getf C (oX8_needInverse.at 3 rfl) fX8_10 hP.ob rfl ?_
  refine v_callV C (oX8_needInverse.at 4 rfl) cX8_367 hO.1 (kr) rfl rfl rfl ⟨rfl, rfl⟩ rfl rfl (fun _ => rfl) (fun h' hp => ?_)
  dsimp only [Option.toList, List.cons_append, List.nil_append]
  obtain ⟨⟨g, f, hO1, -⟩, hfr⟩ := hp
  have hP1 : PA G h' S sv Z F := hP.set_se (fun j hj => hfr j (by omega)) ⟨_, _, _, _, hO1⟩
  refine v_aload_n C (oX8_needInverse.at 5 rfl) rfl ?_
  refine v_getf C (oX8_needInverse.at 6 rfl) fX8_71 hP1.ob rfl ?_
  refine v_getf C (oX8_needInverse.at 7 rfl) fX8_342 hO1.1 rfl ?_
  refine v_if_neN C (oX8_needInverse.at 8 rfl) (tgt := 32) (by decide) (by omega) (fun hc => ?_) (fun hc => ?_)
  · exact absurd rfl hc
  · exact v_throwN C rfl sr370 (oX8_needInverse.at 9 rfl) (oX8_needInverse.at 10 rfl) (oX8_needInverse.at 11 rfl) (oX8_needInverse.at 12 rfl) (oX8_needInverse.at 13 rfl) rfl rfl ⟨rfl, hP1⟩
theorem k8_inverseB {w : Wt} {h : Hp} {x : Int32} (hx : ¬ (x = 0 ∨ x = 1)) : ConN mX8_inverse 1 (1, 6) w [.ref 0, .int x] h (.inr EIOO) (fun h' => h' = h) := by
  refine conI (by decide +kernel) ⟨fun _ => rfl, rfl, by simp⟩ (fun X C => ?_)
  change V X (0, 0) w h 0 [some (.ref 0), some (.int x)] []
  refine v_iload_n C (oX8_inverse.at 0 rfl) rfl ?_
  exact v_callST C (oX8_inverse.at 1 rfl) cX8_179 (k_needBitX hx) rfl rfl rfl rfl rfl (fun h' hp => ⟨rfl, hp⟩)
theorem k8_inverseX {w : Wt} {G h : Hp} {S Z : Sc} {sv : Bool} {F : Sf} {q : Nat} {x : Int32} (hP : PA G h S sv Z F) (hx : x = 0 ∨ x = 1) (hI : InR S.1 S.2.1 S.2.2.1 0 q) : ConN mX8_inverse 5 (1, 6) w [.ref 0, .int x] h (.inr ENSE) (fun h' => PA G h' S sv Z F) := by
  refine conI (by decide +kernel) ⟨fun _ => rfl, rfl, by simp⟩ (fun X C => ?_)
  change V X (0, 0) w h 0 [some (.ref 0), some (.int x)] []
  refine v_iload_n C (oX8_inverse.at 0 rfl) rfl ?_
  refine v_callS C (oX8_inverse.at 1 rfl) cX8_179 (k_needBit hx) rfl rfl rfl ⟨rfl, rfl⟩ rfl rfl (fun _ => rfl) (fun h' hp => ?_)
  rw [show h' = _ from hp]
  dsimp only [Option.toList, List.cons_append, List.nil_append]
  refine v_aload_n C (oX8_inverse.at 2 rfl) rfl ?_
  exact v_callVT C (oX8_inverse.at 3 rfl) cX8_339 hP.ob (k8_needInverseX hP hI) rfl rfl rfl rfl rfl (fun h' hp => ⟨rfl, hp⟩)
theorem k8_inverse {w : Wt} {G h : Hp} {S Z : Sc} {sv : Bool} {F : Sf} {m q : Nat} {x : Int32} (hP : PA G h S sv Z F) (hx : x = 0 ∨ x = 1) (hI : InR S.1 S.2.1 S.2.2.1 m q) (hm : m ≠ 0) : ConN mX8_inverse 5 (0, 0) w [.ref 0, .int x] h (.inl (some (.int (nI (if x = 0 then m else q))))) (fun h' => PA G h' S sv Z F) := by
  refine conI (by decide +kernel) ⟨fun _ => rfl, rfl, by simp⟩ (fun X C => ?_)
  change V X (0, 0) w h 0 [some (.ref 0), some (.int x)] []
  refine v_iload_n C (oX8_inverse.at 0 rfl) rfl ?_
  refine v_callS C (oX8_inverse.at 1 rfl) cX8_179 (k_needBit hx) rfl rfl rfl ⟨rfl, rfl⟩ rfl rfl (fun _ => rfl) (fun h' hp => ?_)
  rw [show h' = _ from hp]
  dsimp only [Option.toList, List.cons_append, List.nil_append]
  refine v_aload_n C (oX8_inverse.at 2 rfl) rfl ?_
  refine v_callV C (oX8_inverse.at 3 rfl) cX8_339 hP.ob (k8_needInverse hP hI hm) rfl rfl rfl ⟨rfl, rfl⟩ rfl rfl (fun _ => rfl) (fun h' hp => ?_)
  dsimp only [Option.toList, List.cons_append, List.nil_append]
  obtain ⟨hP1, g, f, hO1, -⟩ := hp
  refine v_iload_n C (oX8_inverse.at 4 rfl) rfl ?_
  refine v_if_ne C (oX8_inverse.at 5 rfl) (tgt := 22) (by decide) (fun hc => ?_) (fun hc => ?_)
  · rw [if_neg hc] at C
    refine v_aload_n C (oX8_inverse.at 10 rfl) rfl ?_
    refine v_getf C (oX8_inverse.at 11 rfl) fX8_71 hP1.ob rfl ?_
    refine v_getf C (oX8_inverse.at 12 rfl) fX8_343 hO1.1 rfl ?_
    exact v_iret C (oX8_inverse.at 13 rfl) rfl rfl ⟨Nat.le_refl _, Nat.le_refl _⟩ ⟨rfl, hP1⟩
  · rw [if_pos hc] at C
    refine v_aload_n C (oX8_inverse.at 6 rfl) rfl ?_
    refine v_getf C (oX8_inverse.at 7 rfl) fX8_71 hP1.ob rfl ?_
    refine v_getf C (oX8_inverse.at 8 rfl) fX8_342 hO1.1 rfl ?_
    refine v_goto C (oX8_inverse.at 9 rfl) (tgt := 29) (by decide) ?_
    exact v_iret C (oX8_inverse.at 13 rfl) rfl rfl ⟨Nat.le_refl _, Nat.le_refl _⟩ ⟨rfl, hP1⟩
