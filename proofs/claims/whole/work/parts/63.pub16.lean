/-! ===== compose ===== -/
theorem k8_composeX {w : Wt} {G h : Hp} {S Z : Sc} {sv : Bool} {F : Sf} (hP : PA G h S sv Z F) (hx : sv = false ∨ Z.1 ≠ S.1) : ConN mX8_compose 1 (1, 6) w [.ref 0] h (.inr EISE) (fun h' => h' = h) := by
  have hk := hP.sz.k
  have hk2 := hP.zo.1.k
  refine conI (by decide +kernel) ⟨fun _ => rfl, rfl, by simp⟩ (fun X C => ?_)
  change V X (0, 0) w h 0 [some (.ref 0), none, none, none] []
  have thr : V X (0, 0) w h 24 [some (.ref 0), none, none, none] [] := v_throwS C rfl tISE sr198 (oX8_compose.at 10 rfl) (oX8_compose.at 11 rfl) (oX8_compose.at 12 rfl) (oX8_compose.at 13 rfl) (oX8_compose.at 14 rfl) rfl rfl ⟨rfl, rfl⟩
  refine v_aload_n C (oX8_compose.at 0 rfl) rfl ?_
  refine v_getf C (oX8_compose.at 1 rfl) fX8_29 hP.ob rfl ?_
  refine v_if_eqB C (oX8_compose.at 2 rfl) (tgt := 24) (by decide) (fun hc => ?_) (fun hc => ?_)
  · exact thr
  · have hs := hc
    refine v_aload_n C (oX8_compose.at 3 rfl) rfl ?_
    refine v_getf C (oX8_compose.at 4 rfl) fX8_16 hP.ob rfl ?_
    refine v_getf C (oX8_compose.at 5 rfl) fX8_104 hP.sr.ro rfl ?_
    refine v_aload_n C (oX8_compose.at 6 rfl) rfl ?_
    refine v_getf C (oX8_compose.at 7 rfl) fX8_10 hP.ob rfl ?_
    refine v_getf C (oX8_compose.at 8 rfl) fX8_104 hP.ru.ro rfl ?_
    refine v_icmp_eqN C (oX8_compose.at 9 rfl) (tgt := 34) (by decide) (by omega) (by omega) (fun hc => ?_) (fun hc => ?_)
    · rcases hx with z | z
      · rw [z] at hs; cases hs
      · exact absurd hc z
    · exact thr
theorem k8_composeW {w : Wt} {G h : Hp} {S Z : Sc} {F : Sf} (hP : PA G h S true Z F) (hk12 : Z.1 = S.1) (hz : szB (nI S.1) (nI (S.2.1 + Z.2.1 - 1)) = false) : ConN mX8_compose 1 (1, 6) w [.ref 0] h (.inr EISE) (fun h' => h' = h) := by
  have hk := hP.sz.k
  have hk2 := hP.zo.1.k
  have hw := hP.sz.w
  have hw2 := hP.zo.1.w
  have ke := k_exists (w := w) (h := h) (x := nI S.1) (y := nI (S.2.1 + Z.2.1 - 1))
  rw [hz] at ke
  refine conI (by decide +kernel) ⟨fun _ => rfl, rfl, by simp⟩ (fun X C => ?_)
  change V X (0, 0) w h 0 [some (.ref 0), none, none, none] []
  refine v_aload_n C (oX8_compose.at 0 rfl) rfl ?_
  refine v_getf C (oX8_compose.at 1 rfl) fX8_29 hP.ob rfl ?_
  refine v_if_eqB C (oX8_compose.at 2 rfl) (tgt := 24) (by decide) (fun hc => ?_) (fun hc => ?_)
  · cases hc
  · refine v_aload_n C (oX8_compose.at 3 rfl) rfl ?_
    refine v_getf C (oX8_compose.at 4 rfl) fX8_16 hP.ob rfl ?_
    refine v_getf C (oX8_compose.at 5 rfl) fX8_104 hP.sr.ro rfl ?_
    refine v_aload_n C (oX8_compose.at 6 rfl) rfl ?_
    refine v_getf C (oX8_compose.at 7 rfl) fX8_10 hP.ob rfl ?_
    refine v_getf C (oX8_compose.at 8 rfl) fX8_104 hP.ru.ro rfl ?_
    refine v_icmp_eqN C (oX8_compose.at 9 rfl) (tgt := 34) (by decide) (by omega) (by omega) (fun hc => ?_) (fun hc => ?_)
    · refine v_aload_n C (oX8_compose.at 15 rfl) rfl ?_
      refine v_getf C (oX8_compose.at 16 rfl) fX8_10 hP.ob rfl ?_
      refine v_getf C (oX8_compose.at 17 rfl) fX8_107 hP.ru.ro rfl ?_
      refine v_aload_n C (oX8_compose.at 18 rfl) rfl ?_
      refine v_getf C (oX8_compose.at 19 rfl) fX8_16 hP.ob rfl ?_
      refine v_getf C (oX8_compose.at 20 rfl) fX8_107 hP.sr.ro rfl ?_
      refine v_iaddN C (oX8_compose.at 21 rfl) ?_
      refine v_iconst C (oX8_compose.at 22 rfl) (v := nI 1) rfl ?_
      refine v_isubN C (oX8_compose.at 23 rfl) (by omega) ?_
      refine v_istore_n C (oX8_compose.at 24 rfl) rfl ?_
      refine v_aload_n C (oX8_compose.at 25 rfl) rfl ?_
      refine v_getf C (oX8_compose.at 26 rfl) fX8_10 hP.ob rfl ?_
      refine v_getf C (oX8_compose.at 27 rfl) fX8_104 hP.ru.ro rfl ?_
      refine v_iload_n C (oX8_compose.at 28 rfl) rfl ?_
      dsimp only [sto1, sto2, killL]
      refine v_callS C (oX8_compose.at 29 rfl) cX8_82 (ke) rfl rfl rfl ⟨rfl, rfl⟩ rfl rfl (fun _ => rfl) (fun h' hp => ?_)
      rw [show h' = _ from hp]
      dsimp only [Option.toList, List.cons_append, List.nil_append]
      refine v_if_neB C (oX8_compose.at 30 rfl) (tgt := 76) (by decide) (fun hc => ?_) (fun hc => ?_)
      · cases hc
      · exact v_throwS C rfl tISE sr200 (oX8_compose.at 31 rfl) (oX8_compose.at 32 rfl) (oX8_compose.at 33 rfl) (oX8_compose.at 34 rfl) (oX8_compose.at 35 rfl) rfl rfl ⟨rfl, rfl⟩
    · exact absurd hk12 hc
/-- the composed table -/
def coT (S Z : Sc) : Nat → Nat := fun i => limg S.1 S.2.1 S.2.2.1 S.2.1 (limg S.1 Z.2.1 Z.2.2.1 (S.2.1 + Z.2.1 - 1) i)
def coS (S Z : Sc) : Sc := (S.1, S.2.1 + Z.2.1 - 1, coT S Z, S.2.2.2.1, S.2.2.2.2)
theorem k8_compose {w : Wt} {G h : Hp} {S Z : Sc} {F : Sf} (hP : PA G h S true Z F) (hk12 : Z.1 = S.1) (hz : SZ S.1 (S.2.1 + Z.2.1 - 1)) : ConN mX8_compose 3 (0, 0) w [.ref 0] h (.inl (some (.int (nI (S.2.1 + Z.2.1 - 1))))) (fun h' => PA G h' (coS S Z) true Z F) := by
  have hk := hP.sz.k
  have hw := hP.sz.w
  have hw2 := hP.zo.1.w
  have hm := hz.m
  have hW4 := hz.w
  have ke := k_exists (w := w) (h := h) (x := nI S.1) (y := nI (S.2.1 + Z.2.1 - 1))
  rw [szB_of hz] at ke
  have hcl : ∀ i, coT S Z i < S.1 := fun i => by
    have h1 := limg_lt (k := S.1) (wd := S.2.1) (T := S.2.2.1) (by omega) hP.ru.T S.2.1 (limg S.1 Z.2.1 Z.2.2.1 (S.2.1 + Z.2.1 - 1) i)
    rw [Nat.sub_self, Nat.zero_add, Nat.pow_one] at h1
    exact h1
  obtain ⟨g0, hd0⟩ := hP.dr
  refine conI (by decide +kernel) ⟨fun _ => rfl, rfl, by simp⟩ (fun X C => ?_)
  change V X (0, 0) w h 0 [some (.ref 0), none, none, none] []
  refine v_aload_n C (oX8_compose.at 0 rfl) rfl ?_
  refine v_getf C (oX8_compose.at 1 rfl) fX8_29 hP.ob rfl ?_
  refine v_if_eqB C (oX8_compose.at 2 rfl) (tgt := 24) (by decide) (fun hc => ?_) (fun hc => ?_)
  · cases hc
  · refine v_aload_n C (oX8_compose.at 3 rfl) rfl ?_
    refine v_getf C (oX8_compose.at 4 rfl) fX8_16 hP.ob rfl ?_
    refine v_getf C (oX8_compose.at 5 rfl) fX8_104 hP.sr.ro rfl ?_
    refine v_aload_n C (oX8_compose.at 6 rfl) rfl ?_
    refine v_getf C (oX8_compose.at 7 rfl) fX8_10 hP.ob rfl ?_
    refine v_getf C (oX8_compose.at 8 rfl) fX8_104 hP.ru.ro rfl ?_
    refine v_icmp_eqN C (oX8_compose.at 9 rfl) (tgt := 34) (by decide) (by omega) (by omega) (fun hc => ?_) (fun hc => ?_)
    · refine v_aload_n C (oX8_compose.at 15 rfl) rfl ?_
      refine v_getf C (oX8_compose.at 16 rfl) fX8_10 hP.ob rfl ?_
      refine v_getf C (oX8_compose.at 17 rfl) fX8_107 hP.ru.ro rfl ?_
      refine v_aload_n C (oX8_compose.at 18 rfl) rfl ?_
      refine v_getf C (oX8_compose.at 19 rfl) fX8_16 hP.ob rfl ?_
      refine v_getf C (oX8_compose.at 20 rfl) fX8_107 hP.sr.ro rfl ?_
      refine v_iaddN C (oX8_compose.at 21 rfl) ?_
      refine v_iconst C (oX8_compose.at 22 rfl) (v := nI 1) rfl ?_
      refine v_isubN C (oX8_compose.at 23 rfl) (by omega) ?_
      refine v_istore_n C (oX8_compose.at 24 rfl) rfl ?_
      refine v_aload_n C (oX8_compose.at 25 rfl) rfl ?_
      refine v_getf C (oX8_compose.at 26 rfl) fX8_10 hP.ob rfl ?_
      refine v_getf C (oX8_compose.at 27 rfl) fX8_104 hP.ru.ro rfl ?_
      refine v_iload_n C (oX8_compose.at 28 rfl) rfl ?_
      dsimp only [sto1, sto2, killL]
      refine v_callS C (oX8_compose.at 29 rfl) cX8_82 (ke) rfl rfl rfl ⟨rfl, rfl⟩ rfl rfl (fun _ => rfl) (fun h' hp => ?_)
      rw [show h' = _ from hp]
      dsimp only [Option.toList, List.cons_append, List.nil_append]
      refine v_if_neB C (oX8_compose.at 30 rfl) (tgt := 76) (by decide) (fun hc => ?_) (fun hc => ?_)
      · refine v_aload_n C (oX8_compose.at 36 rfl) rfl ?_
        refine v_getf C (oX8_compose.at 37 rfl) fX8_10 hP.ob rfl ?_
        refine v_iload_n C (oX8_compose.at 38 rfl) rfl ?_
        refine v_callV C (oX8_compose.at 39 rfl) cX8_202 hP.ru.ro (k_countOfWords hP.ru.ro (by omega)) rfl rfl rfl ⟨rfl, rfl⟩ rfl rfl (fun _ => rfl) (fun h' hp => ?_)
        rw [show h' = _ from hp]
        dsimp only [Option.toList, List.cons_append, List.nil_append]
        refine v_istore_n C (oX8_compose.at 40 rfl) rfl ?_
        refine v_iconst C (oX8_compose.at 41 rfl) (v := nI 0) rfl ?_
        refine v_istore_n C (oX8_compose.at 42 rfl) rfl ?_
        dsimp only [sto1, sto2, killL]
        suffices H : ∀ d i H f, i + d = S.1 ^ (S.2.1 + Z.2.1 - 1) → PA G H S true Z F → H 60 = io 27 f → (∀ j, j < i → f j = nI (coT S Z j)) → V X (0, 0) w H 87 [some (.ref 0), some (.int (nI (S.2.1 + Z.2.1 - 1))), some (.int (nI (S.1 ^ (S.2.1 + Z.2.1 - 1)))), some (.int (nI i))] [] by
          exact H (S.1 ^ (S.2.1 + Z.2.1 - 1)) 0 h g0 (by omega) hP hd0 (fun j hj => by omega)
        intro d
        induction d with
        | zero =>
          intro i H f hid hP1 hd1 hf
          obtain ⟨rf, rg, re, rv, rt, a0, a1, a2, a3, a4, a5, a6, a7, a8⟩ := id hP1.ru
          have kr := k_resize (w := w) (k := S.1) (wd := S.2.1 + Z.2.1 - 1) a0 hk (by omega) (by omega) hm a1 a3 a5
          refine v_iload_n C (oX8_compose.at 43 rfl) rfl ?_
          refine v_iload_n C (oX8_compose.at 44 rfl) rfl ?_
          refine v_icmp_geN C (oX8_compose.at 45 rfl) (tgt := 135) (by decide) (by omega) (by omega) (fun hc => ?_) (fun hc => ?_)
          · refine v_aload_n C (oX8_compose.at 67 rfl) rfl ?_
            refine v_getf C (oX8_compose.at 68 rfl) fX8_10 hP1.ob rfl ?_
            refine v_aload_n C (oX8_compose.at 69 rfl) rfl ?_
            refine v_getf C (oX8_compose.at 70 rfl) fX8_10 hP1.ob rfl ?_
            refine v_getf C (oX8_compose.at 71 rfl) fX8_104 a0 rfl ?_
            refine v_iload_n C (oX8_compose.at 72 rfl) rfl ?_
            refine v_callV C (oX8_compose.at 73 rfl) cX8_93 a0 (kr) rfl rfl rfl ⟨rfl, rfl⟩ rfl rfl (fun _ => rfl) (fun h' hp => ?_)
            dsimp only [Option.toList, List.cons_append, List.nil_append]
            have hRu : RuleOK h' 1 S.1 (S.2.1 + Z.2.1 - 1) (fun _ => 0) := by
              rw [show h' = _ from hp]
              refine ⟨mix rf (fun _ => nI 0) (S.1 ^ (S.2.1 + Z.2.1 - 1)), mix rg (fun i => nI (i % S.1 ^ (S.2.1 + Z.2.1 - 1 - 1))) (S.1 ^ (S.2.1 + Z.2.1 - 1)), mix re (fun i => nI (i / S.1 ^ (S.2.1 + Z.2.1 - 1 - 1))) (S.1 ^ (S.2.1 + Z.2.1 - 1)), rv, rt, ?_, ?_, fun i hi => ⟨mix_lt hi, show 0 < S.1 by omega⟩, ?_, fun i hi => mix_lt hi, hu_s _ _ _, fun i hi => mix_lt hi, ?_, ?_⟩
              · rw [hu_n _ _ (by omega), hu_n _ _ (by omega), hu_n _ _ (by omega), hu_s]
              · rw [hu_n _ _ (by omega), hu_n _ _ (by omega), hu_s]
              · rw [hu_n _ _ (by omega), hu_s]
              · rw [hu_n _ _ (by omega), hu_n _ _ (by omega), hu_n _ _ (by omega), hu_n _ _ (by omega)]; exact a7
              · rw [hu_n _ _ (by omega), hu_n _ _ (by omega), hu_n _ _ (by omega), hu_n _ _ (by omega)]; exact a8
            have hfr : ∀ j, (j < 1 ∨ 4 < j) → h' j = H j := fun j hj => by
              rw [show h' = _ from hp, hu_n _ _ (by omega), hu_n _ _ (by omega), hu_n _ _ (by omega), hu_n _ _ (by omega)]
            clear hp kr
            obtain ⟨h2, rfl⟩ : ∃ z, z = h' := ⟨h', rfl⟩
            have hP2 : PA G h2 (S.1, S.2.1 + Z.2.1 - 1, (fun _ => 0), S.2.2.2.1, S.2.2.2.2) true Z F := hP1.set_ru (S' := (S.1, S.2.1 + Z.2.1 - 1, (fun _ => 0), S.2.2.2.1, S.2.2.2.2)) ⟨hz, hP.so.2⟩ ⟨rfl, rfl⟩ (fun j hj => hfr j (by omega)) hRu
            have hd2 : h2 60 = io 27 f := (hfr 60 (by omega)).trans hd1
            obtain ⟨f1, kt, hR1⟩ := k_take (w := w) (T' := coT S Z) hRu hz hd2 (by decide) (fun j hj => ⟨hf j (by omega), hcl j⟩)
            refine v_aload_n C (oX8_compose.at 74 rfl) rfl ?_
            refine v_getf C (oX8_compose.at 75 rfl) fX8_10 hP2.ob rfl ?_
            refine v_aload_n C (oX8_compose.at 76 rfl) rfl ?_
            refine v_getf C (oX8_compose.at 77 rfl) fX8_75 hP2.ob rfl ?_
            refine v_callV C (oX8_compose.at 78 rfl) cX8_137 hRu.ro (kt) rfl rfl rfl ⟨rfl, rfl⟩ rfl rfl (fun _ => rfl) (fun h' hp => ?_)
            dsimp only [Option.toList, List.cons_append, List.nil_append]
            rw [show h' = _ from hp]
            refine v_pop C (oX8_compose.at 79 rfl) rfl ?_
            refine v_iload_n C (oX8_compose.at 80 rfl) rfl ?_
            exact v_iret C (oX8_compose.at 81 rfl) rfl rfl ⟨Nat.le_refl _, Nat.le_refl _⟩ ⟨rfl, hP2.set_ru (S' := coS S Z) ⟨hz, hP.so.2⟩ ⟨rfl, rfl⟩ (fun j hj => hu_n _ _ (by omega)) hR1⟩
          · exact absurd hc (by omega)
        | succ d ih =>
          intro i H f hid hP1 hd1 hf
          have hZ := hP1.sr
          have hZs := hP1.zo.1
          have hZT := hZ.T
          rw [hk12] at hZ hZs hZT
          obtain ⟨ia, ib, icf, iM, i0, i1, i2⟩ := id hP1.im
          have hl1 := limg_lt (k := S.1) (wd := Z.2.1) (T := Z.2.2.1) (by omega) hZT (S.2.1 + Z.2.1 - 1) i
          rw [show S.2.1 + Z.2.1 - 1 - Z.2.1 + 1 = S.2.1 by omega] at hl1
          have hm1 := hP.sz.m
          have k1 := k_imageOf (w := w) (L := S.2.1 + Z.2.1 - 1) (x := i) i0 hZ hZs i1 (by omega) (by omega) (by omega) (by decide)
          refine v_iload_n C (oX8_compose.at 43 rfl) rfl ?_
          refine v_iload_n C (oX8_compose.at 44 rfl) rfl ?_
          refine v_icmp_geN C (oX8_compose.at 45 rfl) (tgt := 135) (by decide) (by omega) (by omega) (fun hc => ?_) (fun hc => ?_)
          · exact absurd hc (by omega)
          · refine v_aload_n C (oX8_compose.at 46 rfl) rfl ?_
            refine v_getf C (oX8_compose.at 47 rfl) fX8_75 hP1.ob rfl ?_
            refine v_iload_n C (oX8_compose.at 48 rfl) rfl ?_
            refine v_aload_n C (oX8_compose.at 49 rfl) rfl ?_
            refine v_getf C (oX8_compose.at 50 rfl) fX8_43 hP1.ob rfl ?_
            refine v_aload_n C (oX8_compose.at 51 rfl) rfl ?_
            refine v_getf C (oX8_compose.at 52 rfl) fX8_10 hP1.ob rfl ?_
            refine v_aload_n C (oX8_compose.at 53 rfl) rfl ?_
            refine v_getf C (oX8_compose.at 54 rfl) fX8_10 hP1.ob rfl ?_
            refine v_getf C (oX8_compose.at 55 rfl) fX8_107 hP1.ru.ro rfl ?_
            refine v_aload_n C (oX8_compose.at 56 rfl) rfl ?_
            refine v_getf C (oX8_compose.at 57 rfl) fX8_43 hP1.ob rfl ?_
            refine v_aload_n C (oX8_compose.at 58 rfl) rfl ?_
            refine v_getf C (oX8_compose.at 59 rfl) fX8_16 hP1.ob rfl ?_
            refine v_iload_n C (oX8_compose.at 60 rfl) rfl ?_
            refine v_iload_n C (oX8_compose.at 61 rfl) rfl ?_
            refine v_callV C (oX8_compose.at 62 rfl) cX8_206 i0 (k1) rfl rfl rfl ⟨rfl, rfl⟩ rfl rfl (fun _ => rfl) (fun h' hp => ?_)
            dsimp only [Option.toList, List.cons_append, List.nil_append]
            obtain ⟨cf1, rfl⟩ := hp
            have hP2 : PA G (hu H 26 (io 17 cf1)) S true Z F := hP1.set_im (fun j hj => hu_n _ _ (by omega)) ⟨_, _, cf1, iM, (hu_n _ _ (by omega)).trans i0, hu_s _ _ _, (hu_n _ _ (by omega)).trans i2⟩
            have hd2 : hu H 26 (io 17 cf1) 60 = io 27 f := (hu_n _ _ (by omega)).trans hd1
            generalize hu H 26 (io 17 cf1) = H2 at *
            obtain ⟨ja, jb, jcf, jM, j0, j1, j2⟩ := id hP2.im
            have k2 := k_imageOf (w := w) (L := S.2.1) (x := limg S.1 Z.2.1 Z.2.2.1 (S.2.1 + Z.2.1 - 1) i) j0 hP2.ru hP.sz j1 (by omega) (Nat.le_refl _) (by omega) (by decide)
            refine v_callV C (oX8_compose.at 63 rfl) cX8_206 j0 (k2) rfl rfl rfl ⟨rfl, rfl⟩ rfl rfl (fun _ => rfl) (fun h' hp => ?_)
            dsimp only [Option.toList, List.cons_append, List.nil_append]
            obtain ⟨cf2, rfl⟩ := hp
            have hP3 : PA G (hu H2 26 (io 17 cf2)) S true Z F := hP2.set_im (fun j hj => hu_n _ _ (by omega)) ⟨_, _, cf2, jM, (hu_n _ _ (by omega)).trans j0, hu_s _ _ _, (hu_n _ _ (by omega)).trans j2⟩
            have hd3 : hu H2 26 (io 17 cf2) 60 = io 27 f := (hu_n _ _ (by omega)).trans hd2
            generalize hu H2 26 (io 17 cf2) = H3 at *
            refine v_iast C (oX8_compose.at 64 rfl) hd3 (by decide) rfl (by omega) ?_
            refine v_iincN C (oX8_compose.at 65 rfl) rfl ?_
            refine v_goto C (oX8_compose.at 66 rfl) (tgt := 87) (by decide) ?_
            dsimp only [sto1, sto2, killL]
            refine ih (i + 1) _ _ (by omega) (hP3.set_d (Or.inl rfl)) (hu_s _ _ _) (fun j hj => ?_)
            by_cases e9 : j = i
            · rw [e9, pk_us]; rfl
            · rw [pk_un e9]; exact hf j (by omega)
      · cases hc
    · exact absurd hk12 hc
