/-! ===== the reference: compile ===== -/
theorem PI.rf {G h h' : Hp} {th th' : Nat} {S Z : Sc} {sv : Bool} {F F' : Sf} {c t : List Nat} {i : Nat} {op : Bool} (hI : PI h th' S sv Z F' c t i op h') (hR : RF G h th S sv Z F) (hF' : SfOK F') (hb : F'.1 = 0) : RF G h' th' S sv Z F' := by
  obtain ⟨u, a0, a1, a2, a3, a4, a5, a6, -, -, b5, b6⟩ := hI
  obtain ⟨f, hf, hB⟩ := hR.bf
  exact hR.set_b a0 a1 a2 ((b5 69 (by decide) (by decide)).trans hf) (fun j hj => absurd hj (by omega)) hF' (fun j j1 j2 j3 => b5 j j1 (by omega)) b6
/-- up to the end of the reading -/
theorem cp9_read {w : Wt} {G h : Hp} {th : Nat} {S Z : Sc} {sv : Bool} {F : Sf} {X : CT} {o : Oc} {P : Wt → Hp → Prop} (C : Cx X mX9_compile [] 4 (0, 0) o P) (hR : RF G h th S sv Z F) (K : ∀ h1 h2, RF G h1 0 S sv Z F → FQ h1 0 S sv Z (F.1, 0, -1, F.2.2.2) (rdS S F) h2 → V X (0, 0) w h2 19 [some (.ref 62), none, none] [.int (bI (decide ((rdS S F).1 = 0)))]) : V X (0, 0) w h 0 [some (.ref 62), none, none] [] := by
  have hwd := hR.so.1.w
  have hfo := hR.fo
  refine v_aload_n C (oX9_compile.at 0 rfl) rfl ?_
  refine v_iconst C (oX9_compile.at 1 rfl) (v := nI 0) rfl ?_
  refine v_thr C (oX9_compile.at 2 rfl) fX9_96 hR (fun h1 u1 hR1 q0 qt qm => ?_)
  refine v_aload_n C (oX9_compile.at 3 rfl) rfl ?_
  refine v_iconst C (oX9_compile.at 4 rfl) (v := nI 0) rfl ?_
  refine v_put9 C (oX9_compile.at 5 rfl) fX9_171 p9_13 q0 ⟨rfl, rfl, rfl⟩ ?_
  refine v_aload_n C (oX9_compile.at 6 rfl) rfl ?_
  refine v_iconst C (oX9_compile.at 7 rfl) (v := -1) rfl ?_
  refine v_put9u C (oX9_compile.at 8 rfl) fX9_38 p9_14 ⟨rfl, rfl, rfl⟩ ?_
  obtain ⟨fb, hb, hB⟩ := hR1.bf
  have hM := hR1.2.2.2.2.2.2.2.2.1
  have kf := k9_isFormula (w := w) (h := h1) (h1 := hu h1 62 (MO (upd (upd u1 13 (nI 0)) 14 (-1)))) (F := (F.1, 0, -1, F.2.2.2)) (hu_s _ _ _) qt ⟨qm.1, qm.2.1, qm.2.2.1, qm.2.2.2.1, qm.2.2.2.2.1, rfl, rfl⟩ (fun j j1 _ => hu_n _ _ j1) (hM.eq (fun j _ _ => hu_n _ _ (by omega))) hb hB hfo.1 (fun j hj => by have := (hfo.2.1 j hj).2; show F.2.2.2 j < 128; omega) (by omega)
  refine v_aload_n C (oX9_compile.at 9 rfl) rfl ?_
  refine v_callV C (oX9_compile.at 10 rfl) cX9_204 (hu_s _ _ _) (kf) rfl rfl rfl ⟨rfl, rfl⟩ rfl rfl (fun _ => rfl) (fun h' hp => ?_)
  dsimp only [Option.toList, List.cons_append, List.nil_append]
  exact K h1 h' hR1 hp
theorem k9_compileP {w : Wt} {G h : Hp} {th : Nat} {S Z : Sc} {sv : Bool} {F : Sf} (hR : RF G h th S sv Z F) (hN : (rdS S F).1 ≠ 0) : ConN mX9_compile 4 (0, 0) w [.ref 62] h (.inl (some (.int (nI 0)))) (fun h' => RF G h' 1 S sv Z (0, (rdS S F).1, (rdS S F).2.1, F.2.2.2)) := by
  have he : (rdS S F).1 ≤ 3 := rdG_err F.1 0 0 [] []
  refine conI (by decide +kernel) ⟨fun _ => rfl, rfl, by simp⟩ (fun X C => ?_)
  change V X (0, 0) w h 0 [some (.ref 62), none, none] []
  refine cp9_read C hR (fun h1 h2 hR1 hQ => ?_)
  obtain ⟨c, t, i, op, u, hI⟩ := hQ.2 hN
  rw [decide_eq_false hN]
  have hI9 := hI
  obtain ⟨a0, a1, a2, a3, a4, a5, a6, -⟩ := hI9
  have hI2 := hI.set (u' := upd u 12 (nI 0)) (F' := (0, (rdS S F).1, (rdS S F).2.1, F.2.2.2)) a1 ⟨a2.1, a2.2.1, a2.2.2.1, a2.2.2.2.1, rfl, a2.2.2.2.2.2.1, a2.2.2.2.2.2.2⟩ rfl rfl a5 a6
  have hR2 : RF G (hu h2 62 (MO (upd u 12 (nI 0)))) 0 S sv Z (0, (rdS S F).1, (rdS S F).2.1, F.2.2.2) := PI.rf ⟨_, hI2⟩ hR1 ⟨Nat.zero_le _, fun i hi => absurd hi (Nat.not_lt_zero i), Nat.le_trans he (by decide)⟩ rfl
  refine v_istore_n C (oX9_compile.at 11 rfl) rfl ?_
  refine v_aload_n C (oX9_compile.at 12 rfl) rfl ?_
  refine v_iconst C (oX9_compile.at 13 rfl) (v := nI 0) rfl ?_
  dsimp only [sto1, sto2, killL]
  refine v_put9 C (oX9_compile.at 14 rfl) fX9_149 p9_12 a0 ⟨rfl, rfl, rfl⟩ ?_
  refine v_iload_n C (oX9_compile.at 15 rfl) rfl ?_
  refine v_if_neB C (oX9_compile.at 16 rfl) (tgt := 35) (by decide) (fun z => absurd z (by decide)) (fun _ => ?_)
  refine v_aload_n C (oX9_compile.at 17 rfl) rfl ?_
  refine v_iconst C (oX9_compile.at 18 rfl) (v := nI 1) rfl ?_
  refine v_callV C (oX9_compile.at 19 rfl) cX9_111 (hu_s _ _ _) (k9_noR hR2) rfl rfl rfl ⟨rfl, rfl⟩ rfl rfl (fun _ => rfl) (fun h' hp => ?_)
  dsimp only [Option.toList, List.cons_append, List.nil_append]
  exact v_iret C (oX9_compile.at 20 rfl) rfl rfl ⟨Nat.le_refl _, Nat.le_refl _⟩ ⟨rfl, hp⟩
/-- the values come into made, as far as they come -/
theorem cp9_eval {w : Wt} {G h : Hp} {th : Nat} {S Z : Sc} {sv : Bool} {F : Sf} {e : Nat} {X : CT} {o : Oc} {P : Wt → Hp → Prop} (C : Cx X mX9_compile [] 4 (0, 0) o P) (hR : RF G h th S sv Z F) (h0 : (rdS S F).1 = 0) (he : e ≤ S.1 ^ S.2.1) (hE : ∀ i, i < e → (evS S F i).1 = 0) (hE2 : e < S.1 ^ S.2.1 → (evS S F e).1 ≠ 0) (K1 : e = S.1 ^ S.2.1 → ∀ h2 g, RF G h2 0 S sv Z (0, 0, -1, F.2.2.2) → h2 70 = io 27 g → (∀ i, i < e → g i = nI (cpT S F i)) → V X (0, 0) w h2 91 [some (.ref 62), some (.int (bI true)), some (.int (nI e))] []) (K2 : e < S.1 ^ S.2.1 → ∀ h2, RF G h2 0 S sv Z (0, (evS S F e).1, nI e, F.2.2.2) → V X (0, 0) w h2 79 [some (.ref 62), some (.int (bI true)), some (.int (nI e))] []) : V X (0, 0) w h 0 [some (.ref 62), none, none] [] := by
  refine cp9_read C hR (fun h1 h2 hR1 hQ => ?_)
  have hm := hR.so.1.m
  have hW : WI S.2.1 0 [] [] := ⟨trivial, rfl⟩
  have hok := rdG_ok (tx := F.2.2.2) (wd := S.2.1) (len := F.1) F.1 0 0 [] [] hW h0
  have hln : (rdS S F).2.2.1.length + (rdS S F).2.2.2.length ≤ 0 + 0 + F.1 := rdG_len (tx := F.2.2.2) (wd := S.2.1) (len := F.1) F.1 0 0 [] []
  have hfl : F.1 ≤ 40 := hR.fo.1
  obtain ⟨i0, op, u, hI⟩ := hQ.1 h0
  rw [decide_eq_true h0]
  have hok1 : okc S.2.1 (rdS S F).2.2.1 := hok.1
  have hok2 : hgt S.2.1 (rdS S F).2.2.1 = 1 := hok.2
  generalize hcc : (rdS S F).2.2.1 = c at *
  have hev : ∀ i, evS S F i = evR (cel S.1 S.2.1 i) c := fun i => by unfold evS; rw [hcc]
  have hI9 := hI
  obtain ⟨a0, a1, a2, a3, a4, a5, a6, -⟩ := hI9
  have hI2 := hI.set (u' := upd u 12 (nI 0)) (F' := (0, 0, -1, F.2.2.2)) a1 ⟨a2.1, a2.2.1, a2.2.2.1, a2.2.2.2.1, rfl, a2.2.2.2.2.2.1, a2.2.2.2.2.2.2⟩ rfl rfl a5 a6
  refine v_istore_n C (oX9_compile.at 11 rfl) rfl ?_
  refine v_aload_n C (oX9_compile.at 12 rfl) rfl ?_
  refine v_iconst C (oX9_compile.at 13 rfl) (v := nI 0) rfl ?_
  dsimp only [sto1, sto2, killL]
  refine v_put9 C (oX9_compile.at 14 rfl) fX9_149 p9_12 a0 ⟨rfl, rfl, rfl⟩ ?_
  refine v_iload_n C (oX9_compile.at 15 rfl) rfl ?_
  refine v_if_neB C (oX9_compile.at 16 rfl) (tgt := 35) (by decide) (fun _ => ?_) (fun z => absurd z (by decide))
  refine v_iconst C (oX9_compile.at 21 rfl) (v := nI 0) rfl ?_
  refine v_istore_n C (oX9_compile.at 22 rfl) rfl ?_
  dsimp only [sto1, sto2, killL]
  generalize hu h2 62 (MO (upd u 12 (nI 0))) = h3 at *
  have hfr : ∀ h3 u, PIu h1 0 S sv Z (0, 0, -1, F.2.2.2) c [] i0 op h3 u → RF G h3 0 S sv Z (0, 0, -1, F.2.2.2) := fun h3 u hI => PI.rf ⟨_, hI⟩ hR1 ⟨Nat.zero_le _, fun i hi => absurd hi (Nat.not_lt_zero i), by show 0 ≤ 5; omega⟩ rfl
  suffices H : ∀ d i h3 u g, i + d = e → PIu h1 0 S sv Z (0, 0, -1, F.2.2.2) c [] i0 op h3 u → h3 70 = io 27 g → (∀ j, j < i → g j = nI (cpT S F j)) → V X (0, 0) w h3 37 [some (.ref 62), some (.int (bI true)), some (.int (nI i))] [] by
    obtain ⟨g, hg⟩ := hI2.2.2.2.2.2.2.2.2.2.2.1 70 (Or.inl ⟨by decide, by decide⟩)
    exact H e 0 h3 _ g (by omega) hI2 hg (fun j hj => absurd hj (by omega))
  clear hI2 h3
  -- one value
  have ST : ∀ i h3 u g, i < S.1 ^ S.2.1 → PIu h1 0 S sv Z (0, 0, -1, F.2.2.2) c [] i0 op h3 u → h3 70 = io 27 g → (∀ h4 u4 y, PIu h1 0 S sv Z (0, 0, -1, F.2.2.2) c [] i0 op h4 u4 → u4 24 = nI (evS S F i).1 → h4 70 = io 27 (upd g i y) → ((evS S F i).1 = 0 → y = nI (cpT S F i)) → V X (0, 0) w h4 56 [some (.ref 62), some (.int (bI true)), some (.int (nI i))] []) → V X (0, 0) w h3 37 [some (.ref 62), some (.int (bI true)), some (.int (nI i))] [] := by
    intro i h3 u g hi hI hg K
    have hI9 := hI
    obtain ⟨a0, a1, a2, a3, a4, a5, a6, ⟨fc, b1, b2⟩, ⟨fw, b3, b4⟩, b5, b6⟩ := hI9
    have hR3 := hfr h3 u hI
    obtain ⟨g74, h74⟩ := b6.1 74 (Or.inl ⟨by decide, by decide⟩)
    have kv := k9_value (w := w) (x0 := i) a0 a2.1 a2.2.1 hR.so.1 a3 b1 b2 (show h3 74 = io 40 g74 from h74) hok1 hok2 (by omega) (by omega)
    rw [← hev] at kv
    refine v_iload_n C (oX9_compile.at 23 rfl) rfl ?_
    refine v_aload_n C (oX9_compile.at 24 rfl) rfl ?_
    refine v_callV C (oX9_compile.at 25 rfl) cX9_114 a0 (k9_allR hR3) rfl rfl rfl ⟨rfl, rfl⟩ rfl rfl (fun _ => rfl) (fun h' hp => ?_)
    rw [show h' = _ from hp]
    dsimp only [Option.toList, List.cons_append, List.nil_append]
    refine v_icmp_geN C (oX9_compile.at 26 rfl) (tgt := 91) (by decide) (by omega) (by omega) (fun hc => absurd hc (by omega)) (fun hc => ?_)
    refine v_aload_n C (oX9_compile.at 27 rfl) rfl ?_
    refine v_getf C (oX9_compile.at 28 rfl) fX9_41 a0 rfl ?_
    refine v_iload_n C (oX9_compile.at 29 rfl) rfl ?_
    refine v_aload_n C (oX9_compile.at 30 rfl) rfl ?_
    refine v_iload_n C (oX9_compile.at 31 rfl) rfl ?_
    refine v_callV C (oX9_compile.at 32 rfl) cX9_207 a0 (kv) rfl rfl rfl ⟨rfl, rfl⟩ rfl rfl (fun _ => rfl) (fun h' hp => ?_)
    dsimp only [Option.toList, List.cons_append, List.nil_append]
    obtain ⟨u', d0, d24, du, ⟨g', d74⟩, df⟩ := hp
    have d70 : h' 70 = io 27 g := (df 70 (by decide) (by decide)).trans hg
    refine v_iast C (oX9_compile.at 33 rfl) d70 (by decide) rfl (by omega) ?_
    refine K _ u' _ ⟨(hu_n _ _ (by decide)).trans d0, (du 0 (by decide)).trans a1, ⟨(du 1 (by decide)).trans a2.1, (du 2 (by decide)).trans a2.2.1, (du 6 (by decide)).trans a2.2.2.1, fun q => (du 7 (by decide)).trans (a2.2.2.2.1 q), (du 12 (by decide)).trans a2.2.2.2.2.1, (du 13 (by decide)).trans a2.2.2.2.2.2.1, (du 14 (by decide)).trans a2.2.2.2.2.2.2⟩, (du 19 (by decide)).trans a3, (du 20 (by decide)).trans a4, (du 21 (by decide)).trans a5, (du 22 (by decide)).trans a6, ⟨fc, (hu_n _ _ (by decide)).trans ((df 72 (by decide) (by decide)).trans b1), b2⟩, ⟨fw, (hu_n _ _ (by decide)).trans ((df 73 (by decide) (by decide)).trans b3), b4⟩, fun j j1 j2 => (hu_n _ _ (by omega)).trans ((df j j1 (by omega)).trans (b5 j j1 j2)), ?_⟩ d24 (hu_s _ _ _) (fun q => by rw [if_pos q]; rfl)
    refine MrP.up (i := 70) ⟨fun j hj => ?_, ?_, ?_⟩ (Or.inl ⟨by decide, by decide⟩) _
    · by_cases q : j = 74
      · subst q; exact ⟨g', d74⟩
      · obtain ⟨f9, h9⟩ := b6.1 j hj
        exact ⟨f9, (df j (by unfold mIn at hj; omega) q).trans h9⟩
    · obtain ⟨f9, h9⟩ := b6.2.1
      exact ⟨f9, (df 83 (by decide) (by decide)).trans h9⟩
    · obtain ⟨f9, h9⟩ := b6.2.2
      exact ⟨f9, (df 86 (by decide) (by decide)).trans h9⟩
  intro d
  induction d with
  | zero =>
    intro i h3 u g hi hI hg hall
    obtain rfl : i = e := by omega
    rcases Nat.lt_or_ge i (S.1 ^ S.2.1) with q | q
    · refine ST i h3 u g q hI hg (fun h4 u4 y hI4 h24 h70 hy => ?_)
      have hk2 := hE2 q
      have h45 := evR_45 (cl := cel S.1 S.2.1 i) c
      rw [← hev] at h45
      have hI9 := hI4
      obtain ⟨a0, a1, a2, a3, a4, a5, a6, -⟩ := hI9
      have hI5 := hI4.set (u' := upd (upd u4 13 (nI (evS S F i).1)) 14 (nI i)) (F' := (0, (evS S F i).1, nI i, F.2.2.2)) a1 ⟨a2.1, a2.2.1, a2.2.2.1, a2.2.2.2.1, a2.2.2.2.2.1, rfl, rfl⟩ rfl rfl a5 a6
      have hR5 : RF G (hu h4 62 (MO (upd (upd u4 13 (nI (evS S F i).1)) 14 (nI i)))) 0 S sv Z (0, (evS S F i).1, nI i, F.2.2.2) := PI.rf ⟨_, hI5⟩ hR1 ⟨Nat.zero_le _, fun i hi => absurd hi (Nat.not_lt_zero i), by show (evS S F i).1 ≤ 5; omega⟩ rfl
      refine v_aload_n C (oX9_compile.at 34 rfl) rfl ?_
      refine v_getf C (oX9_compile.at 35 rfl) fX9_201 a0 (congrArg (fun z => some (Value.int z)) (h24)) ?_
      refine v_if_neN C (oX9_compile.at 36 rfl) (tgt := 66) (by decide) (by omega) (fun hc => ?_) (fun hc => absurd hc (by omega))
      refine v_aload_n C (oX9_compile.at 38 rfl) rfl ?_
      refine v_aload_n C (oX9_compile.at 39 rfl) rfl ?_
      refine v_getf C (oX9_compile.at 40 rfl) fX9_201 a0 (congrArg (fun z => some (Value.int z)) (h24)) ?_
      refine v_put9 C (oX9_compile.at 41 rfl) fX9_171 p9_13 a0 ⟨rfl, rfl, rfl⟩ ?_
      refine v_aload_n C (oX9_compile.at 42 rfl) rfl ?_
      refine v_iload_n C (oX9_compile.at 43 rfl) rfl ?_
      refine v_put9u C (oX9_compile.at 44 rfl) fX9_38 p9_14 ⟨rfl, rfl, rfl⟩ ?_
      exact K2 q _ hR5
    · obtain rfl : i = S.1 ^ S.2.1 := by omega
      have hR3 := hfr h3 u hI
      obtain ⟨u3, r0, -⟩ := hR3.o
      refine v_iload_n C (oX9_compile.at 23 rfl) rfl ?_
      refine v_aload_n C (oX9_compile.at 24 rfl) rfl ?_
      refine v_callV C (oX9_compile.at 25 rfl) cX9_114 r0 (k9_allR hR3) rfl rfl rfl ⟨rfl, rfl⟩ rfl rfl (fun _ => rfl) (fun h' hp => ?_)
      rw [show h' = _ from hp]
      dsimp only [Option.toList, List.cons_append, List.nil_append]
      refine v_icmp_geN C (oX9_compile.at 26 rfl) (tgt := 91) (by decide) (by omega) (by omega) (fun hc => ?_) (fun hc => absurd hc (by omega))
      exact K1 rfl h3 g hR3 hg hall
  | succ d ih =>
    intro i h3 u g hi hI hg hall
    refine ST i h3 u g (by omega) hI hg (fun h4 u4 y hI4 h24 h70 hy => ?_)
    have hz := hE i (by omega)
    rw [hz] at h24
    have hI9 := hI4
    obtain ⟨a0, -⟩ := hI9
    refine v_aload_n C (oX9_compile.at 34 rfl) rfl ?_
    refine v_getf C (oX9_compile.at 35 rfl) fX9_201 a0 (congrArg (fun z => some (Value.int z)) (h24)) ?_
    refine v_if_neN C (oX9_compile.at 36 rfl) (tgt := 66) (by decide) (by omega) (fun hc => absurd hc (by omega)) (fun hc => ?_)
    refine v_goto C (oX9_compile.at 37 rfl) (tgt := 85) (by decide) ?_
    refine v_iincN C (oX9_compile.at 49 rfl) rfl ?_
    refine v_goto C (oX9_compile.at 50 rfl) (tgt := 37) (by decide) ?_
    dsimp only [sto1, sto2, killL]
    refine ih (i + 1) h4 u4 _ (by omega) hI4 h70 (fun j hj => ?_)
    by_cases q : j = i
    · rw [q, pk_us]; exact hy hz
    · rw [pk_un q]; exact hall j (by omega)
theorem k9_compileE {w : Wt} {G h : Hp} {th e : Nat} {S Z : Sc} {sv : Bool} {F : Sf} (hR : RF G h th S sv Z F) (h0 : (rdS S F).1 = 0) (he : e < S.1 ^ S.2.1) (hE : ∀ i, i < e → (evS S F i).1 = 0) (hE2 : (evS S F e).1 ≠ 0) : ConN mX9_compile 4 (0, 0) w [.ref 62] h (.inl (some (.int (nI 0)))) (fun h' => RF G h' 2 S sv Z (0, (evS S F e).1, nI e, F.2.2.2)) := by
  refine conI (by decide +kernel) ⟨fun _ => rfl, rfl, by simp⟩ (fun X C => ?_)
  change V X (0, 0) w h 0 [some (.ref 62), none, none] []
  refine cp9_eval (e := e) C hR h0 (by omega) hE (fun _ => hE2) (fun q => absurd q (by omega)) (fun _ h2 hR2 => ?_)
  obtain ⟨u3, r0, -⟩ := hR2.o
  refine v_aload_n C (oX9_compile.at 45 rfl) rfl ?_
  refine v_iconst C (oX9_compile.at 46 rfl) (v := nI 2) rfl ?_
  refine v_callV C (oX9_compile.at 47 rfl) cX9_111 r0 (k9_noR hR2) rfl rfl rfl ⟨rfl, rfl⟩ rfl rfl (fun _ => rfl) (fun h' hp => ?_)
  dsimp only [Option.toList, List.cons_append, List.nil_append]
  exact v_iret C (oX9_compile.at 48 rfl) rfl rfl ⟨Nat.le_refl _, Nat.le_refl _⟩ ⟨rfl, hp⟩
theorem k9_compile {w : Wt} {G h : Hp} {th : Nat} {S Z : Sc} {sv : Bool} {F : Sf} (hR : RF G h th S sv Z F) (h0 : (rdS S F).1 = 0) (hE : ∀ i, i < S.1 ^ S.2.1 → (evS S F i).1 = 0) : ConN mX9_compile 4 (0, 0) w [.ref 62] h (.inl (some (.int (nI (chg S.2.2.1 (cpT S F) (S.1 ^ S.2.1)))))) (fun h' => RF G h' 0 (withT S (cpT S F)) sv Z (0, 0, -1, F.2.2.2)) := by
  have hk := hR.so.1.k
  refine conI (by decide +kernel) ⟨fun _ => rfl, rfl, by simp⟩ (fun X C => ?_)
  change V X (0, 0) w h 0 [some (.ref 62), none, none] []
  refine cp9_eval (e := S.1 ^ S.2.1) C hR h0 (Nat.le_refl _) hE (fun q => absurd q (by omega)) (fun _ h2 g hR2 hg hall => ?_) (fun q => absurd q (by omega))
  have kb := k9_becomes (w := w) (T' := cpT S F) hR2 hg (fun i hi => ⟨hall i hi, by unfold cpT; exact fmN_lt (by omega)⟩)
  obtain ⟨u3, r0, -⟩ := hR2.o
  refine v_aload_n C (oX9_compile.at 51 rfl) rfl ?_
  refine v_callV C (oX9_compile.at 52 rfl) cX9_121 r0 (kb) rfl rfl rfl ⟨rfl, rfl⟩ rfl rfl (fun _ => rfl) (fun h' hp => ?_)
  dsimp only [Option.toList, List.cons_append, List.nil_append]
  exact v_iret C (oX9_compile.at 53 rfl) rfl rfl ⟨Nat.le_refl _, Nat.le_refl _⟩ ⟨rfl, hp⟩
