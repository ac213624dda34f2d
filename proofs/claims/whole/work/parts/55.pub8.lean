/-! ===== the program's methods: apply, save, restore ===== -/
theorem k8_applyR {w : Wt} {h : Hp} {x y : Int32} (hx : ¬ InB x 4) : ConN mX8_apply 1 (1, 6) w [.ref 0, .int x, .int y] h (.inr EIOO) (fun h' => h' = h) := by
  refine conI (by decide +kernel) ⟨fun _ => rfl, rfl, by simp⟩ (fun X C => ?_)
  change V X (0, 0) w h 0 [some (.ref 0), some (.int x), some (.int y), none, none] []
  refine v_iload_n C (oX8_apply.at 0 rfl) rfl ?_
  exact v_callST C (oX8_apply.at 1 rfl) cX8_210 (k_needRegX hx) rfl rfl rfl rfl rfl (fun h' hp => ⟨rfl, hp⟩)
theorem k8_applyX {w : Wt} {G h : Hp} {S Z : Sc} {sv : Bool} {F : Sf} {x : Nat} {c : Bool} (hP : PA G h S sv Z F) (hx : x < 4) (hl : S.2.2.2.1 x < if c then 1 else S.2.1) : ConN mX8_apply 1 (1, 6) w [.ref 0, .int (nI x), .int (bI c)] h (.inr EISE) (fun h' => h' = h) := by
  obtain ⟨f, e, g0, g1, g2, g3, g4⟩ := hP.rg
  have hb := hP.so.2 x hx
  have hwd := hP.sz.w
  refine conI (by decide +kernel) ⟨fun _ => rfl, rfl, by simp⟩ (fun X C => ?_)
  change V X (0, 0) w h 0 [some (.ref 0), some (.int (nI x)), some (.int (bI c)), none, none] []
  refine v_iload_n C (oX8_apply.at 0 rfl) rfl ?_
  refine v_callS C (oX8_apply.at 1 rfl) cX8_210 (k_needReg (InB.of hx (by decide))) rfl rfl rfl ⟨rfl, rfl⟩ rfl rfl (fun _ => rfl) (fun h' hp => ?_)
  rw [show h' = _ from hp]
  dsimp only [Option.toList, List.cons_append, List.nil_append]
  refine v_aload_n C (oX8_apply.at 2 rfl) rfl ?_
  refine v_getf C (oX8_apply.at 3 rfl) fX8_22 hP.ob rfl ?_
  refine v_getf C (oX8_apply.at 4 rfl) fX8_217 g0 rfl ?_
  refine v_iload_n C (oX8_apply.at 5 rfl) rfl ?_
  refine v_iald C (oX8_apply.at 6 rfl) g1 (by decide) rfl (by omega) (g2 x hx) ?_
  refine v_istore_n C (oX8_apply.at 7 rfl) rfl ?_
  dsimp only [sto1, sto2, killL]
  have thr : V X (0, 0) w h 33 [some (.ref 0), some (.int (nI x)), some (.int (bI c)), some (.int (nI (S.2.2.2.1 x))), none] [] := v_throwS C rfl tISE sr233 (oX8_apply.at 17 rfl) (oX8_apply.at 18 rfl) (oX8_apply.at 19 rfl) (oX8_apply.at 20 rfl) (oX8_apply.at 21 rfl) rfl rfl ⟨rfl, rfl⟩
  refine v_iload_n C (oX8_apply.at 8 rfl) rfl ?_
  refine v_iload_n C (oX8_apply.at 9 rfl) rfl ?_
  refine v_if_eqB C (oX8_apply.at 10 rfl) (tgt := 23) (by decide) (fun hc => ?_) (fun hc => ?_)
  · rw [hc, if_neg (by decide)] at hl
    refine v_aload_n C (oX8_apply.at 13 rfl) rfl ?_
    refine v_getf C (oX8_apply.at 14 rfl) fX8_10 hP.ob rfl ?_
    refine v_getf C (oX8_apply.at 15 rfl) fX8_107 hP.ru.ro rfl ?_
    refine v_icmp_geN C (oX8_apply.at 16 rfl) (tgt := 43) (by decide) (by omega) (by omega) (fun hc => ?_) (fun hc => ?_)
    · exact absurd hc (by omega)
    · exact thr
  · rw [hc, if_pos rfl] at hl
    refine v_iconst C (oX8_apply.at 11 rfl) (v := nI 1) rfl ?_
    refine v_goto C (oX8_apply.at 12 rfl) (tgt := 30) (by decide) ?_
    refine v_icmp_geN C (oX8_apply.at 16 rfl) (tgt := 43) (by decide) (by omega) (by omega) (fun hc => ?_) (fun hc => ?_)
    · exact absurd hc (by omega)
    · exact thr
/-- a register after its image was taken -/
def appS (S : Sc) (r : Nat) (c : Bool) : Sc := if c then withR S r (S.2.2.2.1 r) (cimg S.1 S.2.1 S.2.2.1 (S.2.2.2.1 r) (S.2.2.2.2 r)) else withR S r (S.2.2.2.1 r - S.2.1 + 1) (limg S.1 S.2.1 S.2.2.1 (S.2.2.2.1 r) (S.2.2.2.2 r))
theorem k8_apply {w : Wt} {G h : Hp} {S Z : Sc} {sv : Bool} {F : Sf} {x : Nat} {c : Bool} (hP : PA G h S sv Z F) (hx : x < 4) (hl : (if c then 1 else S.2.1) ≤ S.2.2.2.1 x) : ConN mX8_apply 3 (0, 0) w [.ref 0, .int (nI x), .int (bI c)] h (.inl (some (.int (nI ((appS S x c).2.2.2.1 x))))) (fun h' => PA G h' (appS S x c) sv Z F) := by
  obtain ⟨f, e, g0, g1, g2, g3, g4⟩ := id hP.rg
  have hb := hP.so.2 x hx
  have hwd := hP.sz.w
  have hk := hP.sz.k
  have hix := hP.so.ix hx
  obtain ⟨ia, ib, icf, iM, i0, i1, i2⟩ := id hP.im
  refine conI (by decide +kernel) ⟨fun _ => rfl, rfl, by simp⟩ (fun X C => ?_)
  change V X (0, 0) w h 0 [some (.ref 0), some (.int (nI x)), some (.int (bI c)), none, none] []
  refine v_iload_n C (oX8_apply.at 0 rfl) rfl ?_
  refine v_callS C (oX8_apply.at 1 rfl) cX8_210 (k_needReg (InB.of hx (by decide))) rfl rfl rfl ⟨rfl, rfl⟩ rfl rfl (fun _ => rfl) (fun h' hp => ?_)
  rw [show h' = _ from hp]
  dsimp only [Option.toList, List.cons_append, List.nil_append]
  refine v_aload_n C (oX8_apply.at 2 rfl) rfl ?_
  refine v_getf C (oX8_apply.at 3 rfl) fX8_22 hP.ob rfl ?_
  refine v_getf C (oX8_apply.at 4 rfl) fX8_217 g0 rfl ?_
  refine v_iload_n C (oX8_apply.at 5 rfl) rfl ?_
  refine v_iald C (oX8_apply.at 6 rfl) g1 (by decide) rfl (by omega) (g2 x hx) ?_
  refine v_istore_n C (oX8_apply.at 7 rfl) rfl ?_
  dsimp only [sto1, sto2, killL]
  unfold appS at C
  cases c with
  | false =>
    rw [if_neg (by decide)] at hl C
    have hw2 : updN S.2.2.2.1 x (S.2.2.2.1 x - S.2.1 + 1) x = S.2.2.2.1 x - S.2.1 + 1 := if_pos rfl
    have ki := k_imageOf (w := w) (L := S.2.2.2.1 x) (x := S.2.2.2.2 x) i0 hP.ru hP.sz i1 hb.1 hl hix (by decide)
    refine v_iload_n C (oX8_apply.at 8 rfl) rfl ?_
    refine v_iload_n C (oX8_apply.at 9 rfl) rfl ?_
    refine v_if_eqB C (oX8_apply.at 10 rfl) (tgt := 23) (by decide) (fun hc => ?_) (fun hc => ?_)
    · refine v_aload_n C (oX8_apply.at 13 rfl) rfl ?_
      refine v_getf C (oX8_apply.at 14 rfl) fX8_10 hP.ob rfl ?_
      refine v_getf C (oX8_apply.at 15 rfl) fX8_107 hP.ru.ro rfl ?_
      refine v_icmp_geN C (oX8_apply.at 16 rfl) (tgt := 43) (by decide) (by omega) (by omega) (fun hc => ?_) (fun hc => ?_)
      · refine v_aload_n C (oX8_apply.at 22 rfl) rfl ?_
        refine v_getf C (oX8_apply.at 23 rfl) fX8_22 hP.ob rfl ?_
        refine v_getf C (oX8_apply.at 24 rfl) fX8_224 g0 rfl ?_
        refine v_iload_n C (oX8_apply.at 25 rfl) rfl ?_
        refine v_iald C (oX8_apply.at 26 rfl) g3 (by decide) rfl (by omega) (g4 x hx) ?_
        refine v_istore C (oX8_apply.at 27 rfl) rfl ?_
        dsimp only [sto1, sto2, killL]
        refine v_iload_n C (oX8_apply.at 28 rfl) rfl ?_
        refine v_if_eqB C (oX8_apply.at 29 rfl) (tgt := 84) (by decide) (fun hc => ?_) (fun hc => ?_)
        · refine v_aload_n C (oX8_apply.at 43 rfl) rfl ?_
          refine v_getf C (oX8_apply.at 44 rfl) fX8_22 hP.ob rfl ?_
          refine v_iload_n C (oX8_apply.at 45 rfl) rfl ?_
          refine v_iload_n C (oX8_apply.at 46 rfl) rfl ?_
          refine v_aload_n C (oX8_apply.at 47 rfl) rfl ?_
          refine v_getf C (oX8_apply.at 48 rfl) fX8_10 hP.ob rfl ?_
          refine v_getf C (oX8_apply.at 49 rfl) fX8_107 hP.ru.ro rfl ?_
          refine v_isubN C (oX8_apply.at 50 rfl) (by omega) ?_
          refine v_iconst C (oX8_apply.at 51 rfl) (v := nI 1) rfl ?_
          refine v_iaddN C (oX8_apply.at 52 rfl) ?_
          refine v_aload_n C (oX8_apply.at 53 rfl) rfl ?_
          refine v_getf C (oX8_apply.at 54 rfl) fX8_43 hP.ob rfl ?_
          refine v_aload_n C (oX8_apply.at 55 rfl) rfl ?_
          refine v_getf C (oX8_apply.at 56 rfl) fX8_10 hP.ob rfl ?_
          refine v_iload_n C (oX8_apply.at 57 rfl) rfl ?_
          refine v_iload C (oX8_apply.at 58 rfl) rfl ?_
          refine v_callV C (oX8_apply.at 59 rfl) cX8_206 i0 (ki) rfl rfl rfl ⟨rfl, rfl⟩ rfl rfl (fun _ => rfl) (fun h' hp => ?_)
          dsimp only [Option.toList, List.cons_append, List.nil_append]
          obtain ⟨cf', rfl⟩ := hp
          have hP1 : PA G (hu h 26 (io 17 cf')) S sv Z F := hP.set_im (fun j hj => hu_n _ _ (by omega)) ⟨_, _, cf', iM, (hu_n _ _ (by omega)).trans i0, hu_s _ _ _, (hu_n _ _ (by omega)).trans i2⟩
          generalize hu h 26 (io 17 cf') = h2 at *
          obtain ⟨f', e', q0, -⟩ := id hP1.rg
          have kp := k_regPut (w := w) (l := S.2.2.2.1 x - S.2.1 + 1) (x := limg S.1 S.2.1 S.2.2.1 (S.2.2.2.1 x) (S.2.2.2.2 x)) hP1.rg hx
          have hli := limg_lt (k := S.1) (wd := S.2.1) (T := S.2.2.1) (by omega) hP.ru.T (S.2.2.2.1 x) (S.2.2.2.2 x)
          refine v_callV C (oX8_apply.at 60 rfl) cX8_220 q0 (kp) rfl rfl rfl ⟨rfl, rfl⟩ rfl rfl (fun _ => rfl) (fun h' hp => ?_)
          dsimp only [Option.toList, List.cons_append, List.nil_append]
          have hP2 : PA G h' (withR S x (S.2.2.2.1 x - S.2.1 + 1) (limg S.1 S.2.1 S.2.2.1 (S.2.2.2.1 x) (S.2.2.2.2 x))) sv Z F := hP1.set_rg (hP.so.withR (by omega) hli) ⟨rfl, rfl, rfl⟩ (fun j hj => hp.2 j (by omega)) hp.1
          obtain ⟨f9, e9, z0, z1, z2, -⟩ := id hP2.rg
          refine v_aload_n C (oX8_apply.at 61 rfl) rfl ?_
          refine v_getf C (oX8_apply.at 62 rfl) fX8_22 hP2.ob rfl ?_
          refine v_getf C (oX8_apply.at 63 rfl) fX8_217 z0 rfl ?_
          refine v_iload_n C (oX8_apply.at 64 rfl) rfl ?_
          refine v_iald C (oX8_apply.at 65 rfl) z1 (by decide) rfl (by omega) (z2 x hx) ?_
          exact v_iret C (oX8_apply.at 66 rfl) rfl rfl ⟨Nat.le_refl _, Nat.le_refl _⟩ ⟨rfl, hP2⟩
        · cases hc
      · exact absurd hc (by omega)
    · cases hc
  | true =>
    rw [if_pos rfl] at hl C
    have ki := k_cyclicImageOf (w := w) (L := S.2.2.2.1 x) (x := S.2.2.2.2 x) i0 hP.ru hP.sz i1 (by omega) hb.1 hix (by decide)
    refine v_iload_n C (oX8_apply.at 8 rfl) rfl ?_
    refine v_iload_n C (oX8_apply.at 9 rfl) rfl ?_
    refine v_if_eqB C (oX8_apply.at 10 rfl) (tgt := 23) (by decide) (fun hc => ?_) (fun hc => ?_)
    · cases hc
    · refine v_iconst C (oX8_apply.at 11 rfl) (v := nI 1) rfl ?_
      refine v_goto C (oX8_apply.at 12 rfl) (tgt := 30) (by decide) ?_
      refine v_icmp_geN C (oX8_apply.at 16 rfl) (tgt := 43) (by decide) (by omega) (by omega) (fun hc => ?_) (fun hc => ?_)
      · refine v_aload_n C (oX8_apply.at 22 rfl) rfl ?_
        refine v_getf C (oX8_apply.at 23 rfl) fX8_22 hP.ob rfl ?_
        refine v_getf C (oX8_apply.at 24 rfl) fX8_224 g0 rfl ?_
        refine v_iload_n C (oX8_apply.at 25 rfl) rfl ?_
        refine v_iald C (oX8_apply.at 26 rfl) g3 (by decide) rfl (by omega) (g4 x hx) ?_
        refine v_istore C (oX8_apply.at 27 rfl) rfl ?_
        dsimp only [sto1, sto2, killL]
        refine v_iload_n C (oX8_apply.at 28 rfl) rfl ?_
        refine v_if_eqB C (oX8_apply.at 29 rfl) (tgt := 84) (by decide) (fun hc => ?_) (fun hc => ?_)
        · cases hc
        · refine v_aload_n C (oX8_apply.at 30 rfl) rfl ?_
          refine v_getf C (oX8_apply.at 31 rfl) fX8_22 hP.ob rfl ?_
          refine v_iload_n C (oX8_apply.at 32 rfl) rfl ?_
          refine v_iload_n C (oX8_apply.at 33 rfl) rfl ?_
          refine v_aload_n C (oX8_apply.at 34 rfl) rfl ?_
          refine v_getf C (oX8_apply.at 35 rfl) fX8_43 hP.ob rfl ?_
          refine v_aload_n C (oX8_apply.at 36 rfl) rfl ?_
          refine v_getf C (oX8_apply.at 37 rfl) fX8_10 hP.ob rfl ?_
          refine v_iload_n C (oX8_apply.at 38 rfl) rfl ?_
          refine v_iload C (oX8_apply.at 39 rfl) rfl ?_
          refine v_callV C (oX8_apply.at 40 rfl) cX8_235 i0 (ki) rfl rfl rfl ⟨rfl, rfl⟩ rfl rfl (fun _ => rfl) (fun h' hp => ?_)
          dsimp only [Option.toList, List.cons_append, List.nil_append]
          obtain ⟨cf', rfl⟩ := hp
          have hP1 : PA G (hu h 26 (io 17 cf')) S sv Z F := hP.set_im (fun j hj => hu_n _ _ (by omega)) ⟨_, _, cf', iM, (hu_n _ _ (by omega)).trans i0, hu_s _ _ _, (hu_n _ _ (by omega)).trans i2⟩
          generalize hu h 26 (io 17 cf') = h2 at *
          obtain ⟨f', e', q0, -⟩ := id hP1.rg
          have kp := k_regPut (w := w) (l := S.2.2.2.1 x) (x := cimg S.1 S.2.1 S.2.2.1 (S.2.2.2.1 x) (S.2.2.2.2 x)) hP1.rg hx
          have hci := cimg_lt (k := S.1) (wd := S.2.1) (T := S.2.2.1) (by omega) hP.ru.T (S.2.2.2.1 x) (S.2.2.2.2 x)
          refine v_callV C (oX8_apply.at 41 rfl) cX8_220 q0 (kp) rfl rfl rfl ⟨rfl, rfl⟩ rfl rfl (fun _ => rfl) (fun h' hp => ?_)
          dsimp only [Option.toList, List.cons_append, List.nil_append]
          have hP2 : PA G h' (withR S x (S.2.2.2.1 x) (cimg S.1 S.2.1 S.2.2.1 (S.2.2.2.1 x) (S.2.2.2.2 x))) sv Z F := hP1.set_rg (hP.so.withR hb.1 hci) ⟨rfl, rfl, rfl⟩ (fun j hj => hp.2 j (by omega)) hp.1
          obtain ⟨f9, e9, z0, z1, z2, -⟩ := id hP2.rg
          refine v_goto C (oX8_apply.at 42 rfl) (tgt := 117) (by decide) ?_
          refine v_aload_n C (oX8_apply.at 61 rfl) rfl ?_
          refine v_getf C (oX8_apply.at 62 rfl) fX8_22 hP2.ob rfl ?_
          refine v_getf C (oX8_apply.at 63 rfl) fX8_217 z0 rfl ?_
          refine v_iload_n C (oX8_apply.at 64 rfl) rfl ?_
          refine v_iald C (oX8_apply.at 65 rfl) z1 (by decide) rfl (by omega) (z2 x hx) ?_
          exact v_iret C (oX8_apply.at 66 rfl) rfl rfl ⟨Nat.le_refl _, Nat.le_refl _⟩ ⟨rfl, hP2⟩
      · exact absurd hc (by omega)
theorem PA.set_sv {G h : Hp} {S : Sc} {sv : Bool} {Z : Sc} {F : Sf} (hP : PA G h S sv Z F) {h' : Hp} {Z' : Sc} {sv' : Bool} (hZ : ScOK Z') (he : ∀ j, 0 < j → (j < 7 ∨ 12 < j) → (j < 16 ∨ 18 < j) → h' j = h j) (h0 : h' 0 = AO sv') (hb : RuleOK h' 7 Z'.1 Z'.2.1 Z'.2.2.1) (hb2 : RegOK h' 16 Z'.2.2.2.1 Z'.2.2.2.2) : PA G h' S sv' Z' F := by
  obtain ⟨p0, p1, p2, p3, p4, p5, p6, p7, p8, p9, p10, p11, p12, z1, z2, z3, z4⟩ := hP
  have hf : ∀ j, 0 < j → (j < 7 ∨ 12 < j) → (j < 16 ∨ 18 < j) → h' j = h j := he
  exact ⟨h0, p1.eq (fun j _ _ => hf j (by omega) (by omega) (by omega)), p2.eq (fun j _ _ => hf j (by omega) (by omega) (by omega)), hb, hb2, p5.imp (fun _ => Exists.imp (fun _ q => q.eq (fun j _ _ => hf j (by omega) (by omega) (by omega)))), p6.eq (fun j _ _ => hf j (by omega) (by omega) (by omega)), p7.imp (fun _ => Exists.imp (fun _ => Exists.imp (fun _ => Exists.imp (fun _ => Exists.imp (fun _ q => q.eq (fun j _ _ => hf j (by omega) (by omega) (by omega))))))), p8.imp (fun _ => Exists.imp (fun _ q => q.eq (fun j _ _ => hf j (by omega) (by omega) (by omega)))), p9.eq (fun j _ _ => hf j (by omega) (by omega) (by omega)), p10.imp (fun _ => Exists.imp (fun _ => Exists.imp (fun _ => Exists.imp (fun _ q => q.eq (fun j _ _ => hf j (by omega) (by omega) (by omega)))))), p11.imp (fun _ q => (hf 60 (by omega) (by omega) (by omega)).trans q), p12.imp (fun _ q => (hf 61 (by omega) (by omega) (by omega)).trans q), z1, hZ, z3, fun j hj => (hf j (by omega) (by omega) (by omega)).trans (z4 j hj)⟩
/-- the rule's number -/
def numS (S : Sc) : Nat := hor S.1 S.2.2.1 0 (S.1 ^ S.2.1)
theorem k8_save {w : Wt} {G h : Hp} {S Z : Sc} {sv : Bool} {F : Sf} (hP : PA G h S sv Z F) : ConN mX8_save 3 (0, 0) w [.ref 0] h (.inl (some (.long (lN (numS S))))) (fun h' => PA G h' S true S F) := by
  have hm := hP.sz.m
  have hk := hP.sz.k
  have kc := k_ruleCopy (w := w) hP.sr hP.ru hP.sz (by decide)
  have o1 : h 7 = _ := hP.sr.ro
  refine conI (by decide +kernel) ⟨fun _ => rfl, rfl, by simp⟩ (fun X C => ?_)
  change V X (0, 0) w h 0 [some (.ref 0)] []
  refine v_aload_n C (oX8_save.at 0 rfl) rfl ?_
  refine v_getf C (oX8_save.at 1 rfl) fX8_16 hP.ob rfl ?_
  refine v_aload_n C (oX8_save.at 2 rfl) rfl ?_
  refine v_getf C (oX8_save.at 3 rfl) fX8_10 hP.ob rfl ?_
  refine v_callV C (oX8_save.at 4 rfl) cX8_351 o1 (kc) rfl rfl rfl ⟨rfl, rfl⟩ rfl rfl (fun _ => rfl) (fun h' hp => ?_)
  dsimp only [Option.toList, List.cons_append, List.nil_append]
  obtain ⟨hR7, hf1⟩ := hp
  obtain ⟨h1, rfl⟩ : ∃ z, z = h' := ⟨h', rfl⟩
  have b0 : h1 0 = AO sv := (hf1 0 (by omega)).trans hP.ob
  have b1 : RuleOK h1 1 S.1 S.2.1 S.2.2.1 := hP.ru.eq (fun j _ _ => hf1 j (by omega))
  have b13 : RegOK h1 13 S.2.2.2.1 S.2.2.2.2 := hP.rg.eq (fun j _ _ => hf1 j (by omega))
  have b16 : RegOK h1 16 Z.2.2.2.1 Z.2.2.2.2 := hP.sg.eq (fun j _ _ => hf1 j (by omega))
  obtain ⟨r1, r2, o16, -⟩ := id b16
  have kg := k_regCopy (w := w) b16 b13 (by decide)
  refine v_aload_n C (oX8_save.at 5 rfl) rfl ?_
  refine v_getf C (oX8_save.at 6 rfl) fX8_26 b0 rfl ?_
  refine v_aload_n C (oX8_save.at 7 rfl) rfl ?_
  refine v_getf C (oX8_save.at 8 rfl) fX8_22 b0 rfl ?_
  refine v_callV C (oX8_save.at 9 rfl) cX8_354 o16 (kg) rfl rfl rfl ⟨rfl, rfl⟩ rfl rfl (fun _ => rfl) (fun h' hp => ?_)
  dsimp only [Option.toList, List.cons_append, List.nil_append]
  obtain ⟨hG16, hf2⟩ := hp
  obtain ⟨h2, rfl⟩ : ∃ z, z = h' := ⟨h', rfl⟩
  have c0 : h2 0 = AO sv := (hf2 0 (by omega)).trans b0
  refine v_aload_n C (oX8_save.at 10 rfl) rfl ?_
  refine v_iconst C (oX8_save.at 11 rfl) (v := bI true) rfl ?_
  refine v_putZ C (oX8_save.at 12 rfl) fX8_29 p8_4 c0 rfl ?_
  change V X (0, 0) w (hu h2 0 (AO true)) 27 [some (.ref 0)] []
  have hPn : PA G (hu h2 0 (AO true)) S true S F := by
    refine hP.set_sv hP.so (fun j a b c => ?_) (hu_s _ _ _) (hR7.eq (fun j _ _ => ?_)) (hG16.eq (fun j _ _ => hu_n _ _ (by omega)))
    · rw [hu_n _ _ (by omega), hf2 j (by omega), hf1 j (by omega)]
    · rw [hu_n _ _ (by omega), hf2 j (by omega)]
  generalize hu h2 0 (AO true) = h3 at *
  obtain ⟨f, ht, hT⟩ := hPn.tb
  refine v_aload_n C (oX8_save.at 13 rfl) rfl ?_
  refine v_getf C (oX8_save.at 14 rfl) fX8_10 hPn.ob rfl ?_
  refine v_aload_n C (oX8_save.at 15 rfl) rfl ?_
  refine v_getf C (oX8_save.at 16 rfl) fX8_10 hPn.ob rfl ?_
  refine v_getf C (oX8_save.at 17 rfl) fX8_124 hPn.ru.ro rfl ?_
  refine v_callV C (oX8_save.at 18 rfl) cX8_141 hPn.ru.ro (k_numberOf hPn.ru.ro (by omega) hm ht (fun i hi => ⟨(hT i hi).1, by have := (hT i hi).2; omega⟩)) rfl rfl rfl ⟨rfl, rfl⟩ rfl rfl (fun _ => rfl) (fun h' hp => ?_)
  rw [show h' = _ from hp]
  dsimp only [Option.toList, List.cons_append, List.nil_append]
  exact v_lret C (oX8_save.at 19 rfl) rfl rfl ⟨Nat.le_refl _, Nat.le_refl _⟩ ⟨rfl, hPn⟩
theorem k8_restoreX {w : Wt} {G h : Hp} {S Z : Sc} {F : Sf} (hP : PA G h S false Z F) : ConN mX8_restore 1 (1, 6) w [.ref 0] h (.inr EISE) (fun h' => h' = h) := by
  refine conI (by decide +kernel) ⟨fun _ => rfl, rfl, by simp⟩ (fun X C => ?_)
  change V X (0, 0) w h 0 [some (.ref 0)] []
  refine v_aload_n C (oX8_restore.at 0 rfl) rfl ?_
  refine v_getf C (oX8_restore.at 1 rfl) fX8_29 hP.ob rfl ?_
  refine v_if_neB C (oX8_restore.at 2 rfl) (tgt := 18) (by decide) (fun hc => ?_) (fun hc => ?_)
  · cases hc
  · exact v_throwSW C rfl tISE sr357 (oX8_restore.at 3 rfl) (oX8_restore.at 4 rfl) (oX8_restore.at 5 rfl) (oX8_restore.at 6 rfl) (oX8_restore.at 7 rfl) rfl rfl ⟨rfl, rfl⟩
theorem k8_restore {w : Wt} {G h : Hp} {S Z : Sc} {F : Sf} (hP : PA G h S true Z F) : ConN mX8_restore 3 (0, 0) w [.ref 0] h (.inl (some (.long (lN (numS Z))))) (fun h' => PA G h' Z true Z F) := by
  have hm := hP.zo.1.m
  have hk := hP.zo.1.k
  have kc := k_ruleCopy (w := w) hP.ru hP.sr hP.zo.1 (by decide)
  refine conI (by decide +kernel) ⟨fun _ => rfl, rfl, by simp⟩ (fun X C => ?_)
  change V X (0, 0) w h 0 [some (.ref 0)] []
  refine v_aload_n C (oX8_restore.at 0 rfl) rfl ?_
  refine v_getf C (oX8_restore.at 1 rfl) fX8_29 hP.ob rfl ?_
  refine v_if_neB C (oX8_restore.at 2 rfl) (tgt := 18) (by decide) (fun hc => ?_) (fun hc => ?_)
  · refine v_aload_n C (oX8_restore.at 8 rfl) rfl ?_
    refine v_getf C (oX8_restore.at 9 rfl) fX8_10 hP.ob rfl ?_
    refine v_aload_n C (oX8_restore.at 10 rfl) rfl ?_
    refine v_getf C (oX8_restore.at 11 rfl) fX8_16 hP.ob rfl ?_
    refine v_callV C (oX8_restore.at 12 rfl) cX8_351 hP.ru.ro (kc) rfl rfl rfl ⟨rfl, rfl⟩ rfl rfl (fun _ => rfl) (fun h' hp => ?_)
    dsimp only [Option.toList, List.cons_append, List.nil_append]
    obtain ⟨hR1, hf1⟩ := hp
    obtain ⟨h1, rfl⟩ : ∃ z, z = h' := ⟨h', rfl⟩
    have b0 : h1 0 = AO true := (hf1 0 (by omega)).trans hP.ob
    have b13 : RegOK h1 13 S.2.2.2.1 S.2.2.2.2 := hP.rg.eq (fun j _ _ => hf1 j (by omega))
    have b16 : RegOK h1 16 Z.2.2.2.1 Z.2.2.2.2 := hP.sg.eq (fun j _ _ => hf1 j (by omega))
    obtain ⟨r1, r2, o13, -⟩ := id b13
    have kg := k_regCopy (w := w) b13 b16 (by decide)
    refine v_aload_n C (oX8_restore.at 13 rfl) rfl ?_
    refine v_getf C (oX8_restore.at 14 rfl) fX8_22 b0 rfl ?_
    refine v_aload_n C (oX8_restore.at 15 rfl) rfl ?_
    refine v_getf C (oX8_restore.at 16 rfl) fX8_26 b0 rfl ?_
    refine v_callV C (oX8_restore.at 17 rfl) cX8_354 o13 (kg) rfl rfl rfl ⟨rfl, rfl⟩ rfl rfl (fun _ => rfl) (fun h' hp => ?_)
    dsimp only [Option.toList, List.cons_append, List.nil_append]
    obtain ⟨hG13, hf2⟩ := hp
    have hPn : PA G h' Z true Z F := by
      refine hP.set_rr hP.zo (fun j a b => ?_) (hR1.eq (fun j _ _ => hf2 j (by omega))) hG13
      rw [hf2 j (by omega), hf1 j (by omega)]
    obtain ⟨h2, rfl⟩ : ∃ z, z = h' := ⟨h', rfl⟩
    obtain ⟨f, ht, hT⟩ := hPn.tb
    refine v_aload_n C (oX8_restore.at 18 rfl) rfl ?_
    refine v_getf C (oX8_restore.at 19 rfl) fX8_10 hPn.ob rfl ?_
    refine v_aload_n C (oX8_restore.at 20 rfl) rfl ?_
    refine v_getf C (oX8_restore.at 21 rfl) fX8_10 hPn.ob rfl ?_
    refine v_getf C (oX8_restore.at 22 rfl) fX8_124 hPn.ru.ro rfl ?_
    refine v_callV C (oX8_restore.at 23 rfl) cX8_141 hPn.ru.ro (k_numberOf hPn.ru.ro (by omega) hm ht (fun i hi => ⟨(hT i hi).1, by have := (hT i hi).2; omega⟩)) rfl rfl rfl ⟨rfl, rfl⟩ rfl rfl (fun _ => rfl) (fun h' hp => ?_)
    rw [show h' = _ from hp]
    dsimp only [Option.toList, List.cons_append, List.nil_append]
    exact v_lret C (oX8_restore.at 24 rfl) rfl rfl ⟨Nat.le_refl _, Nat.le_refl _⟩ ⟨rfl, hPn⟩
  · cases hc
