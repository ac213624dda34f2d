/-! ===== the reference: complement, mirror ===== -/
theorem k9_complements {w : Wt} {h : Hp} {u : Nat → Int32} {k wd q d : Nat} {f g : Nat → Int32} {T0 : Nat → Nat} (ho : h 62 = MO u) (hu1 : u 1 = nI k) (hu2 : u 2 = nI wd) (hs : SZ k wd) (hq : h q = io 27 f) (hT : ∀ i, i < k ^ wd → f i = nI (T0 i) ∧ T0 i < k) (hd : h d = io 27 g) (hqd : q ≠ d) (hd2 : d ≠ 62) : ConN mX9_complements 2 (0, 0) w [.ref 62, .ref q, .ref d] h (.inl none) (fun h' => h' = hu h d (io 27 (mix g (fun i => nI (k - 1 - T0 (k ^ wd - 1 - i))) (k ^ wd)))) := by
  have hk := hs.k
  have hw := hs.w
  have hm := hs.m
  have b0 : ∀ g', hu h d (io 27 g') 62 = MO u := fun g' => (hu_n _ _ (by omega)).trans ho
  have bq : ∀ g', hu h d (io 27 g') q = io 27 f := fun g' => (hu_n _ _ hqd).trans hq
  refine conI (by decide +kernel) ⟨fun _ => rfl, rfl, by simp⟩ (fun X C => ?_)
  change V X (0, 0) w h 0 [some (.ref 62), some (.ref q), some (.ref d), none] []
  refine v_iconst C (oX9_complements.at 0 rfl) (v := nI 0) rfl ?_
  refine v_istore_n C (oX9_complements.at 1 rfl) rfl ?_
  dsimp only [sto1, sto2, killL]
  suffices H : ∀ e i, i + e = k ^ wd → V X (0, 0) w (hu h d (io 27 (mix g (fun i => nI (k - 1 - T0 (k ^ wd - 1 - i))) i))) 2 [some (.ref 62), some (.ref q), some (.ref d), some (.int (nI i))] [] by
    have := H (k ^ wd) 0 (by omega)
    rw [mix_0, hu_id h hd] at this
    exact this
  intro e
  induction e with
  | zero =>
    intro i hi
    obtain rfl : i = k ^ wd := by omega
    refine v_iload_n C (oX9_complements.at 2 rfl) rfl ?_
    refine v_aload_n C (oX9_complements.at 3 rfl) rfl ?_
    refine v_callV C (oX9_complements.at 4 rfl) cX9_114 (b0 _) (k9_all (b0 _) hu1 hu2 (by omega)) rfl rfl rfl ⟨rfl, rfl⟩ rfl rfl (fun _ => rfl) (fun h' hp => ?_)
    rw [show h' = _ from hp]
    dsimp only [Option.toList, List.cons_append, List.nil_append]
    refine v_icmp_geN C (oX9_complements.at 5 rfl) (tgt := 36) (by decide) (by omega) (by omega) (fun hc => ?_) (fun hc => ?_)
    · exact v_vret C (oX9_complements.at 24 rfl) rfl rfl ⟨Nat.le_refl _, Nat.le_refl _⟩ ⟨rfl, rfl⟩
    · exact absurd hc (by omega)
  | succ e ih =>
    intro i hi
    have hTi := hT (k ^ wd - 1 - i) (by omega)
    refine v_iload_n C (oX9_complements.at 2 rfl) rfl ?_
    refine v_aload_n C (oX9_complements.at 3 rfl) rfl ?_
    refine v_callV C (oX9_complements.at 4 rfl) cX9_114 (b0 _) (k9_all (b0 _) hu1 hu2 (by omega)) rfl rfl rfl ⟨rfl, rfl⟩ rfl rfl (fun _ => rfl) (fun h' hp => ?_)
    rw [show h' = _ from hp]
    dsimp only [Option.toList, List.cons_append, List.nil_append]
    refine v_icmp_geN C (oX9_complements.at 5 rfl) (tgt := 36) (by decide) (by omega) (by omega) (fun hc => ?_) (fun hc => ?_)
    · exact absurd hc (by omega)
    · refine v_aload_n C (oX9_complements.at 6 rfl) rfl ?_
      refine v_iload_n C (oX9_complements.at 7 rfl) rfl ?_
      refine v_aload_n C (oX9_complements.at 8 rfl) rfl ?_
      refine v_getf C (oX9_complements.at 9 rfl) fX9_7 (b0 _) rfl ?_
      rw [hu1]
      refine v_iconst C (oX9_complements.at 10 rfl) (v := nI 1) rfl ?_
      refine v_isubN C (oX9_complements.at 11 rfl) (by omega) ?_
      refine v_aload_n C (oX9_complements.at 12 rfl) rfl ?_
      refine v_aload_n C (oX9_complements.at 13 rfl) rfl ?_
      refine v_callV C (oX9_complements.at 14 rfl) cX9_114 (b0 _) (k9_all (b0 _) hu1 hu2 (by omega)) rfl rfl rfl ⟨rfl, rfl⟩ rfl rfl (fun _ => rfl) (fun h' hp => ?_)
      rw [show h' = _ from hp]
      dsimp only [Option.toList, List.cons_append, List.nil_append]
      refine v_iconst C (oX9_complements.at 15 rfl) (v := nI 1) rfl ?_
      refine v_isubN C (oX9_complements.at 16 rfl) (by omega) ?_
      refine v_iload_n C (oX9_complements.at 17 rfl) rfl ?_
      refine v_isubN C (oX9_complements.at 18 rfl) (by omega) ?_
      refine v_iald C (oX9_complements.at 19 rfl) (bq _) (by decide) rfl (by omega) hTi.1 ?_
      refine v_isubN C (oX9_complements.at 20 rfl) (by omega) ?_
      refine v_iast C (oX9_complements.at 21 rfl) (hu_s _ _ _) (by decide) rfl (by omega) ?_
      rw [hu_hu, mix_s _ _ _ _ rfl]
      refine v_iincN C (oX9_complements.at 22 rfl) rfl ?_
      refine v_goto C (oX9_complements.at 23 rfl) (tgt := 2) (by decide) ?_
      dsimp only [sto1, sto2, killL]
      exact ih (i + 1) (by omega)
/-- a scratch row of the reference written anew -/
theorem RF.set_r {G h : Hp} {th : Nat} {S Z : Sc} {sv : Bool} {F : Sf} {i : Nat} {f' : Nat → Int32} (hR : RF G h th S sv Z F) (hi : mIn i) : RF G (hu h i (io (mLn i) f')) th S sv Z F := by
  obtain ⟨⟨u, a0, b0, c0⟩, ⟨f1, a1, b1⟩, ⟨f2, a2, b2⟩, ⟨f3, a3, b3⟩, ⟨f4, a4, b4⟩, ⟨f5, a5, b5⟩, ⟨f6, a6, b6⟩, ⟨f7, a7, b7⟩, ⟨p8, ⟨g8, q8⟩, ⟨g9, q9⟩⟩, z1, z2, z3, z4⟩ := hR
  have hi2 : 70 ≤ i ∧ i ≤ 87 ∧ i ≠ 83 ∧ i ≠ 86 := by unfold mIn at hi; omega
  refine ⟨⟨u, (hu_n _ _ (by omega)).trans a0, b0, c0⟩, ⟨f1, (hu_n _ _ (by omega)).trans a1, b1⟩, ⟨f2, (hu_n _ _ (by omega)).trans a2, b2⟩, ⟨f3, (hu_n _ _ (by omega)).trans a3, b3⟩, ⟨f4, (hu_n _ _ (by omega)).trans a4, b4⟩, ⟨f5, (hu_n _ _ (by omega)).trans a5, b5⟩, ⟨f6, (hu_n _ _ (by omega)).trans a6, b6⟩, ⟨f7, (hu_n _ _ (by omega)).trans a7, b7⟩, ⟨fun j hj => ?_, ⟨g8, (hu_n _ _ (by omega)).trans q8⟩, ⟨g9, (hu_n _ _ (by omega)).trans q9⟩⟩, z1, z2, z3, fun j hj => (hu_n _ _ (by omega)).trans (z4 j hj)⟩
  by_cases e : j = i
  · rw [e]; exact ⟨f', hu_s _ _ _⟩
  · obtain ⟨f9, h9⟩ := p8 j hj
    exact ⟨f9, (hu_n _ _ e).trans h9⟩
theorem k9_mirror {w : Wt} {G h : Hp} {th : Nat} {S Z : Sc} {sv : Bool} {F : Sf} (hR : RF G h th S sv Z F) : ConN mX9_mirror 3 (0, 0) w [.ref 62] h (.inl (some (.int (nI (chg S.2.2.1 (mrT S S.2.2.1) (S.1 ^ S.2.1)))))) (fun h' => RF G h' 0 (withT S (mrT S S.2.2.1)) sv Z F) := by
  obtain ⟨u, o0, o1, o2⟩ := hR.o
  have hk := hR.so.1.k
  refine conI (by decide +kernel) ⟨fun _ => rfl, rfl, by simp⟩ (fun X C => ?_)
  change V X (0, 0) w h 0 [some (.ref 62)] []
  refine v_aload_n C (oX9_mirror.at 0 rfl) rfl ?_
  refine v_iconst C (oX9_mirror.at 1 rfl) (v := nI 0) rfl ?_
  refine v_putI C (oX9_mirror.at 2 rfl) fX9_96 p9_0 o0 rfl ?_
  change V X (0, 0) w (hu h 62 (MO (upd u 0 (nI 0)))) 5 [some (.ref 62)] []
  have hR1 : RF G (hu h 62 (MO (upd u 0 (nI 0)))) 0 S sv Z F := hR.set_o rfl (o2.t _)
  generalize hu h 62 (MO (upd u 0 (nI 0))) = h1 at *
  obtain ⟨u1, q0, q1, q2⟩ := hR1.o
  obtain ⟨f, hf, hT⟩ := hR1.tk
  obtain ⟨g, hg⟩ := hR1.2.2.2.2.2.2.2.2.1.1 70 (Or.inl ⟨by decide, by decide⟩)
  have km := k9_mirrors (w := w) q0 q2.1 q2.2.1 hR.so.1 hf (show h1 70 = io 27 g from hg) (by decide) (by decide)
  refine v_aload_n C (oX9_mirror.at 3 rfl) rfl ?_
  refine v_aload_n C (oX9_mirror.at 4 rfl) rfl ?_
  refine v_getf C (oX9_mirror.at 5 rfl) fX9_16 q0 rfl ?_
  refine v_aload_n C (oX9_mirror.at 6 rfl) rfl ?_
  refine v_getf C (oX9_mirror.at 7 rfl) fX9_41 q0 rfl ?_
  refine v_callV C (oX9_mirror.at 8 rfl) cX9_132 q0 (km) rfl rfl rfl ⟨rfl, rfl⟩ rfl rfl (fun _ => rfl) (fun h' hp => ?_)
  dsimp only [Option.toList, List.cons_append, List.nil_append]
  rw [show h' = _ from hp]
  have hR2 : RF G (hu h1 70 (io 27 (mix g (fun i => f (rvw S.1 i S.2.1)) (S.1 ^ S.2.1)))) 0 S sv Z F := hR1.set_r (i := 70) (Or.inl ⟨by decide, by decide⟩)
  have kb := k9_becomes (w := w) (T' := mrT S S.2.2.1) hR2 (hu_s _ _ _) (fun i hi => by rw [mix_lt hi]; exact hT _ (rvw_lt (by omega) _ _))
  obtain ⟨u2, r0, -⟩ := hR2.o
  generalize hu h1 70 (io 27 (mix g (fun i => f (rvw S.1 i S.2.1)) (S.1 ^ S.2.1))) = h2 at *
  refine v_aload_n C (oX9_mirror.at 9 rfl) rfl ?_
  refine v_callV C (oX9_mirror.at 10 rfl) cX9_121 r0 (kb) rfl rfl rfl ⟨rfl, rfl⟩ rfl rfl (fun _ => rfl) (fun h' hp => ?_)
  dsimp only [Option.toList, List.cons_append, List.nil_append]
  exact v_iret C (oX9_mirror.at 11 rfl) rfl rfl ⟨Nat.le_refl _, Nat.le_refl _⟩ ⟨rfl, hp⟩
theorem k9_complement {w : Wt} {G h : Hp} {th : Nat} {S Z : Sc} {sv : Bool} {F : Sf} (hR : RF G h th S sv Z F) : ConN mX9_complement 3 (0, 0) w [.ref 62] h (.inl (some (.int (nI (chg S.2.2.1 (cmT S S.2.2.1) (S.1 ^ S.2.1)))))) (fun h' => RF G h' 0 (withT S (cmT S S.2.2.1)) sv Z F) := by
  obtain ⟨u, o0, o1, o2⟩ := hR.o
  have hk := hR.so.1.k
  refine conI (by decide +kernel) ⟨fun _ => rfl, rfl, by simp⟩ (fun X C => ?_)
  change V X (0, 0) w h 0 [some (.ref 62)] []
  refine v_aload_n C (oX9_complement.at 0 rfl) rfl ?_
  refine v_iconst C (oX9_complement.at 1 rfl) (v := nI 0) rfl ?_
  refine v_putI C (oX9_complement.at 2 rfl) fX9_96 p9_0 o0 rfl ?_
  change V X (0, 0) w (hu h 62 (MO (upd u 0 (nI 0)))) 5 [some (.ref 62)] []
  have hR1 : RF G (hu h 62 (MO (upd u 0 (nI 0)))) 0 S sv Z F := hR.set_o rfl (o2.t _)
  generalize hu h 62 (MO (upd u 0 (nI 0))) = h1 at *
  obtain ⟨u1, q0, q1, q2⟩ := hR1.o
  obtain ⟨f, hf, hT⟩ := hR1.tk
  obtain ⟨g, hg⟩ := hR1.2.2.2.2.2.2.2.2.1.1 70 (Or.inl ⟨by decide, by decide⟩)
  have km := k9_complements (w := w) (T0 := S.2.2.1) q0 q2.1 q2.2.1 hR.so.1 hf hT (show h1 70 = io 27 g from hg) (by decide) (by decide)
  refine v_aload_n C (oX9_complement.at 3 rfl) rfl ?_
  refine v_aload_n C (oX9_complement.at 4 rfl) rfl ?_
  refine v_getf C (oX9_complement.at 5 rfl) fX9_16 q0 rfl ?_
  refine v_aload_n C (oX9_complement.at 6 rfl) rfl ?_
  refine v_getf C (oX9_complement.at 7 rfl) fX9_41 q0 rfl ?_
  refine v_callV C (oX9_complement.at 8 rfl) cX9_136 q0 (km) rfl rfl rfl ⟨rfl, rfl⟩ rfl rfl (fun _ => rfl) (fun h' hp => ?_)
  dsimp only [Option.toList, List.cons_append, List.nil_append]
  rw [show h' = _ from hp]
  have hR2 : RF G (hu h1 70 (io 27 (mix g (fun i => nI (S.1 - 1 - S.2.2.1 (S.1 ^ S.2.1 - 1 - i))) (S.1 ^ S.2.1)))) 0 S sv Z F := hR1.set_r (i := 70) (Or.inl ⟨by decide, by decide⟩)
  have kb := k9_becomes (w := w) (T' := cmT S S.2.2.1) hR2 (hu_s _ _ _) (fun i hi => ⟨mix_lt hi, by unfold cmT; omega⟩)
  obtain ⟨u2, r0, -⟩ := hR2.o
  generalize hu h1 70 (io 27 (mix g (fun i => nI (S.1 - 1 - S.2.2.1 (S.1 ^ S.2.1 - 1 - i))) (S.1 ^ S.2.1))) = h2 at *
  refine v_aload_n C (oX9_complement.at 9 rfl) rfl ?_
  refine v_callV C (oX9_complement.at 10 rfl) cX9_121 r0 (kb) rfl rfl rfl ⟨rfl, rfl⟩ rfl rfl (fun _ => rfl) (fun h' hp => ?_)
  dsimp only [Option.toList, List.cons_append, List.nil_append]
  exact v_iret C (oX9_complement.at 11 rfl) rfl rfl ⟨Nat.le_refl _, Nat.le_refl _⟩ ⟨rfl, hp⟩
