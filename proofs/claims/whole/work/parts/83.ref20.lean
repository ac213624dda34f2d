/-! ===== the reference: subsets, orphans ===== -/
theorem k9_subsets {w : Wt} {G h : Hp} {th e : Nat} {S Z : Sc} {sv : Bool} {F : Sf} (hR : RF G h th S sv Z F) (he : Bend S.1 (S.1 ^ (S.2.1 - 1)) S.2.2.1 e) : ConN mX9_subsets 4 (0, 0) w [.ref 62] h (.inl (some (.int (nI e)))) (fun h' => RF G h' 0 S sv Z F) := by
  refine conI (by decide +kernel) ⟨fun _ => rfl, rfl, by simp⟩ (fun X C => ?_)
  change V X (0, 0) w h 0 [some (.ref 62)] []
  refine v_aload_n C (oX9_subsets.at 0 rfl) rfl ?_
  refine v_iconst C (oX9_subsets.at 1 rfl) (v := nI 0) rfl ?_
  refine v_thr C (oX9_subsets.at 2 rfl) fX9_96 hR (fun h1 u1 hR1 q0 qt qm => ?_)
  refine v_aload_n C (oX9_subsets.at 3 rfl) rfl ?_
  refine v_callV C (oX9_subsets.at 4 rfl) cX9_259 q0 (k9_findsSets hR1 he) rfl rfl rfl ⟨rfl, rfl⟩ rfl rfl (fun _ => rfl) (fun h' hp => ?_)
  dsimp only [Option.toList, List.cons_append, List.nil_append]
  have hR2 : RF G h' 0 S sv Z F := FI.rf hp hR1
  obtain ⟨u, r, cf, cb, fa, z, a0, a1, a2, a3, -⟩ := hp
  rw [he.1] at a3
  refine v_aload_n C (oX9_subsets.at 5 rfl) rfl ?_
  refine v_getf C (oX9_subsets.at 6 rfl) fX9_246 a0 (congrArg (fun z => some (Value.int z)) (a3)) ?_
  exact v_iret C (oX9_subsets.at 7 rfl) rfl rfl ⟨Nat.le_refl _, Nat.le_refl _⟩ ⟨rfl, hR2⟩
theorem k9_shortestR {w : Wt} {G h : Hp} {th : Nat} {S Z : Sc} {sv : Bool} {F : Sf} {x : Int32} (hR : RF G h th S sv Z F) (hx : ¬ InB x 4) : ConN mX9_shortestOrphan 4 (0, 0) w [.ref 62, .int x] h (.inl (some (.int (nI 0)))) (fun h' => RF G h' 1 S sv Z F) := by
  obtain ⟨u, o0, o1, o2⟩ := hR.o
  refine conI (by decide +kernel) ⟨fun _ => rfl, rfl, by simp⟩ (fun X C => ?_)
  change V X (0, 0) w h 0 [some (.ref 62), some (.int x), none, none, none] []
  refine v_aload_n C (oX9_shortestOrphan.at 0 rfl) rfl ?_
  refine v_iload_n C (oX9_shortestOrphan.at 1 rfl) rfl ?_
  refine v_callV C (oX9_shortestOrphan.at 2 rfl) cX9_213 o0 (k9_isOneF hR hx) rfl rfl rfl ⟨rfl, rfl⟩ rfl rfl (fun _ => rfl) (fun h' hp => ?_)
  dsimp only [Option.toList, List.cons_append, List.nil_append]
  refine v_if_neB C (oX9_shortestOrphan.at 3 rfl) (tgt := 10) (by decide) (fun z => absurd z (by decide)) (fun _ => ?_)
  refine v_iconst C (oX9_shortestOrphan.at 4 rfl) (v := nI 0) rfl ?_
  exact v_iret C (oX9_shortestOrphan.at 5 rfl) rfl rfl ⟨Nat.le_refl _, Nat.le_refl _⟩ ⟨rfl, hp⟩
/-- up to the end of the search -/
theorem so9_start {w : Wt} {G h : Hp} {th e : Nat} {S Z : Sc} {sv : Bool} {F : Sf} {x : Nat} {X : CT} {o : Oc} {P : Wt → Hp → Prop} (C : Cx X mX9_shortestOrphan [] 4 (0, 0) o P) (hR : RF G h th S sv Z F) (hx : x < 4) (he : Bend S.1 (S.1 ^ (S.2.1 - 1)) S.2.2.1 e) (K : ∀ h1 h2, RF G h1 0 S sv Z F → FI h1 0 S sv Z F (bfs S.1 (S.1 ^ (S.2.1 - 1)) S.2.2.1 (e * S.1)) h2 → V X (0, 0) w h2 14 [some (.ref 62), some (.int (nI x)), none, none, none] []) : V X (0, 0) w h 0 [some (.ref 62), some (.int (nI x)), none, none, none] [] := by
  obtain ⟨u, o0, o1, o2⟩ := hR.o
  refine v_aload_n C (oX9_shortestOrphan.at 0 rfl) rfl ?_
  refine v_iload_n C (oX9_shortestOrphan.at 1 rfl) rfl ?_
  refine v_callV C (oX9_shortestOrphan.at 2 rfl) cX9_213 o0 (k9_isOneT hR (InB.of hx (by decide))) rfl rfl rfl ⟨rfl, rfl⟩ rfl rfl (fun _ => rfl) (fun h' hp => ?_)
  dsimp only [Option.toList, List.cons_append, List.nil_append]
  have hR1 : RF G h' 0 S sv Z F := hp
  clear hp
  obtain ⟨h2, e2⟩ : ∃ z, z = h' := ⟨h', rfl⟩
  rw [← e2] at hR1 ⊢
  obtain ⟨u1, r0, -⟩ := hR1.o
  refine v_if_neB C (oX9_shortestOrphan.at 3 rfl) (tgt := 10) (by decide) (fun _ => ?_) (fun z => absurd z (by decide))
  refine v_aload_n C (oX9_shortestOrphan.at 6 rfl) rfl ?_
  refine v_callV C (oX9_shortestOrphan.at 7 rfl) cX9_259 r0 (k9_findsSets hR1 he) rfl rfl rfl ⟨rfl, rfl⟩ rfl rfl (fun _ => rfl) (fun h' hp => ?_)
  dsimp only [Option.toList, List.cons_append, List.nil_append]
  exact K _ _ hR1 hp
theorem k9_shortestN {w : Wt} {G h : Hp} {th e : Nat} {S Z : Sc} {sv : Bool} {F : Sf} {x : Nat} (hR : RF G h th S sv Z F) (hx : x < 4) (he : Bend S.1 (S.1 ^ (S.2.1 - 1)) S.2.2.1 e) (h0 : ∀ j, j < e → Qs S e j ≠ 0) : ConN mX9_shortestOrphan 4 (0, 0) w [.ref 62, .int (nI x)] h (.inl (some (.int (nI 0)))) (fun h' => RF G h' 2 S sv Z F) := by
  refine conI (by decide +kernel) ⟨fun _ => rfl, rfl, by simp⟩ (fun X C => ?_)
  change V X (0, 0) w h 0 [some (.ref 62), some (.int (nI x)), none, none, none] []
  refine so9_start C hR hx he (fun h1 h2 hR1 hI => ?_)
  have hR2 := hI.rf hR1
  obtain ⟨u, r, cf, cb, fa, z, a0, a1, a2, a3, b1, b2, b3, b4, b5, hB, ff⟩ := hI
  have e35 : u 35 = -1 := hB.2.2.2.2.2 (fun j hj => h0 j (by rw [he.1] at hj; exact hj))
  refine v_aload_n C (oX9_shortestOrphan.at 8 rfl) rfl ?_
  refine v_getf C (oX9_shortestOrphan.at 9 rfl) fX9_249 a0 rfl ?_
  rw [e35]
  refine v_if_ge C (oX9_shortestOrphan.at 10 rfl) (tgt := 27) (by decide) (fun hc => absurd hc (by decide)) (fun hc => ?_)
  refine v_aload_n C (oX9_shortestOrphan.at 11 rfl) rfl ?_
  refine v_iconst C (oX9_shortestOrphan.at 12 rfl) (v := nI 2) rfl ?_
  refine v_callV C (oX9_shortestOrphan.at 13 rfl) cX9_111 a0 (k9_noR hR2) rfl rfl rfl ⟨rfl, rfl⟩ rfl rfl (fun _ => rfl) (fun h' hp => ?_)
  dsimp only [Option.toList, List.cons_append, List.nil_append]
  exact v_iret C (oX9_shortestOrphan.at 14 rfl) rfl rfl ⟨Nat.le_refl _, Nat.le_refl _⟩ ⟨rfl, hp⟩
theorem k9_shortestL {w : Wt} {G h : Hp} {th e j0 : Nat} {S Z : Sc} {sv : Bool} {F : Sf} {x : Nat} (hR : RF G h th S sv Z F) (hx : x < 4) (he : Bend S.1 (S.1 ^ (S.2.1 - 1)) S.2.2.1 e) (hj0 : j0 < e) (h0 : Qs S e j0 = 0) (hL : 14 < oLn S e j0) (hL2 : oLn S e j0 < 2 ^ 31) : ConN mX9_shortestOrphan 4 (0, 0) w [.ref 62, .int (nI x)] h (.inl (some (.int (nI 0)))) (fun h' => RF G h' 3 S sv Z F) := by
  have hle := he.le hR.so.1
  refine conI (by decide +kernel) ⟨fun _ => rfl, rfl, by simp⟩ (fun X C => ?_)
  change V X (0, 0) w h 0 [some (.ref 62), some (.int (nI x)), none, none, none] []
  refine so9_start C hR hx he (fun h1 h2 hR1 hI => ?_)
  have hR2 := hI.rf hR1
  obtain ⟨u, r, cf, cb, fa, z, a0, a1, a2, a3, b1, b2, b3, b4, b5, hB, ff⟩ := hI
  have e35 : u 35 = nI j0 := hB.2.2.2.2.1 j0 (by rw [he.1]; exact hj0) h0
  have efa : fa j0 = nI (oLn S e j0) := (hB.2.1 j0 (by rw [he.1]; exact hj0)).2.1
  refine v_aload_n C (oX9_shortestOrphan.at 8 rfl) rfl ?_
  refine v_getf C (oX9_shortestOrphan.at 9 rfl) fX9_249 a0 (congrArg (fun z => some (Value.int z)) (e35)) ?_
  refine v_if_geN C (oX9_shortestOrphan.at 10 rfl) (tgt := 27) (by decide) (by omega) ?_
  refine v_aload_n C (oX9_shortestOrphan.at 15 rfl) rfl ?_
  refine v_getf C (oX9_shortestOrphan.at 16 rfl) fX9_77 a0 rfl ?_
  refine v_aload_n C (oX9_shortestOrphan.at 17 rfl) rfl ?_
  refine v_getf C (oX9_shortestOrphan.at 18 rfl) fX9_249 a0 (congrArg (fun z => some (Value.int z)) (e35)) ?_
  refine v_iald C (oX9_shortestOrphan.at 19 rfl) b4 (by decide) rfl (by omega) efa ?_
  refine v_bipush C (oX9_shortestOrphan.at 20 rfl) (v := nI 14) rfl ?_
  refine v_icmp_leN C (oX9_shortestOrphan.at 21 rfl) (tgt := 47) (by decide) (by omega) (by omega) (fun hc => absurd hc (by omega)) (fun hc => ?_)
  refine v_aload_n C (oX9_shortestOrphan.at 22 rfl) rfl ?_
  refine v_iconst C (oX9_shortestOrphan.at 23 rfl) (v := nI 3) rfl ?_
  refine v_callV C (oX9_shortestOrphan.at 24 rfl) cX9_111 a0 (k9_noR hR2) rfl rfl rfl ⟨rfl, rfl⟩ rfl rfl (fun _ => rfl) (fun h' hp => ?_)
  dsimp only [Option.toList, List.cons_append, List.nil_append]
  exact v_iret C (oX9_shortestOrphan.at 25 rfl) rfl rfl ⟨Nat.le_refl _, Nat.le_refl _⟩ ⟨rfl, hp⟩
theorem k9_shortest {w : Wt} {G h : Hp} {th e j0 : Nat} {S Z : Sc} {sv : Bool} {F : Sf} {x : Nat} (hR : RF G h th S sv Z F) (hx : x < 4) (he : Bend S.1 (S.1 ^ (S.2.1 - 1)) S.2.2.1 e) (hj0 : j0 < e) (h0 : Qs S e j0 = 0) (hL : oLn S e j0 ≤ 14) (hix : oIx S e j0 < S.1 ^ oLn S e j0) : ConN mX9_shortestOrphan 4 (0, 0) w [.ref 62, .int (nI x)] h (.inl (some (.int (nI (oLn S e j0))))) (fun h' => RF G h' 0 (withR S x (oLn S e j0) (oIx S e j0)) sv Z F) := by
  have hle := he.le hR.so.1
  have hk := hR.so.1.k
  refine conI (by decide +kernel) ⟨fun _ => rfl, rfl, by simp⟩ (fun X C => ?_)
  change V X (0, 0) w h 0 [some (.ref 62), some (.int (nI x)), none, none, none] []
  refine so9_start C hR hx he (fun h1 h2 hR1 hI => ?_)
  have hR2 := hI.rf hR1
  obtain ⟨u, r, cf, cb, fa, z, a0, a1, a2, a3, b1, b2, b3, b4, b5, hB, ff⟩ := hI
  have e35 : u 35 = nI j0 := hB.2.2.2.2.1 j0 (by rw [he.1]; exact hj0) h0
  have efa : fa j0 = nI (oLn S e j0) := (hB.2.1 j0 (by rw [he.1]; exact hj0)).2.1
  have hfr := bfs_from (k := S.1) (n := S.1 ^ (S.2.1 - 1)) (T := S.2.2.1) (by omega) e 0 (Nat.zero_le _) he.2 (Or.inl rfl)
  rw [Nat.add_zero, he.1] at hfr
  have hcf : ∀ j, 0 < j → j < e → cf j = nI ((bfs S.1 (S.1 ^ (S.2.1 - 1)) S.2.2.1 (e * S.1)).2.2.1 j) ∧ cb j = nI ((bfs S.1 (S.1 ^ (S.2.1 - 1)) S.2.2.1 (e * S.1)).2.2.2 j) := fun j h1 h2 => (hB.2.1 j (by rw [he.1]; exact h2)).2.2 h1
  refine v_aload_n C (oX9_shortestOrphan.at 8 rfl) rfl ?_
  refine v_getf C (oX9_shortestOrphan.at 9 rfl) fX9_249 a0 (congrArg (fun z => some (Value.int z)) (e35)) ?_
  refine v_if_geN C (oX9_shortestOrphan.at 10 rfl) (tgt := 27) (by decide) (by omega) ?_
  refine v_aload_n C (oX9_shortestOrphan.at 15 rfl) rfl ?_
  refine v_getf C (oX9_shortestOrphan.at 16 rfl) fX9_77 a0 rfl ?_
  refine v_aload_n C (oX9_shortestOrphan.at 17 rfl) rfl ?_
  refine v_getf C (oX9_shortestOrphan.at 18 rfl) fX9_249 a0 (congrArg (fun z => some (Value.int z)) (e35)) ?_
  refine v_iald C (oX9_shortestOrphan.at 19 rfl) b4 (by decide) rfl (by omega) efa ?_
  refine v_bipush C (oX9_shortestOrphan.at 20 rfl) (v := nI 14) rfl ?_
  refine v_icmp_leN C (oX9_shortestOrphan.at 21 rfl) (tgt := 47) (by decide) (by omega) (by omega) (fun hc => ?_) (fun hc => absurd hc (by omega))
  refine v_iconst C (oX9_shortestOrphan.at 26 rfl) (v := nI 0) rfl ?_
  refine v_istore_n C (oX9_shortestOrphan.at 27 rfl) rfl ?_
  refine v_iconst C (oX9_shortestOrphan.at 28 rfl) (v := nI 1) rfl ?_
  refine v_istore_n C (oX9_shortestOrphan.at 29 rfl) rfl ?_
  refine v_aload_n C (oX9_shortestOrphan.at 30 rfl) rfl ?_
  refine v_getf C (oX9_shortestOrphan.at 31 rfl) fX9_249 a0 (congrArg (fun z => some (Value.int z)) (e35)) ?_
  refine v_istore C (oX9_shortestOrphan.at 32 rfl) rfl ?_
  dsimp only [sto1, sto2, killL]
  obtain ⟨f, hf, hLn⟩ := hR2.rl
  obtain ⟨g, hg, hIx⟩ := hR2.ri
  have E : ∀ wt i, V X (0, 0) w h2 98 [some (.ref 62), some (.int (nI x)), some (.int (nI (oIx S e j0))), some (.int (nI wt)), some (.int (nI i))] [] := by
    intro wt i
    refine v_aload_n C (oX9_shortestOrphan.at 58 rfl) rfl ?_
    refine v_getf C (oX9_shortestOrphan.at 59 rfl) fX9_20 a0 rfl ?_
    refine v_iload_n C (oX9_shortestOrphan.at 60 rfl) rfl ?_
    refine v_aload_n C (oX9_shortestOrphan.at 61 rfl) rfl ?_
    refine v_getf C (oX9_shortestOrphan.at 62 rfl) fX9_77 a0 rfl ?_
    refine v_aload_n C (oX9_shortestOrphan.at 63 rfl) rfl ?_
    refine v_getf C (oX9_shortestOrphan.at 64 rfl) fX9_249 a0 (congrArg (fun z => some (Value.int z)) (e35)) ?_
    refine v_iald C (oX9_shortestOrphan.at 65 rfl) b4 (by decide) rfl (by omega) efa ?_
    refine v_iast C (oX9_shortestOrphan.at 66 rfl) hf (by decide) rfl (by omega) ?_
    refine v_aload_n C (oX9_shortestOrphan.at 67 rfl) rfl ?_
    refine v_getf C (oX9_shortestOrphan.at 68 rfl) fX9_23 ((hu_n _ _ (by decide)).trans a0) rfl ?_
    refine v_iload_n C (oX9_shortestOrphan.at 69 rfl) rfl ?_
    refine v_iload_n C (oX9_shortestOrphan.at 70 rfl) rfl ?_
    refine v_iast C (oX9_shortestOrphan.at 71 rfl) ((hu_n _ _ (by decide)).trans hg) (by decide) rfl (by omega) ?_
    refine v_aload_n C (oX9_shortestOrphan.at 72 rfl) rfl ?_
    refine v_getf C (oX9_shortestOrphan.at 73 rfl) fX9_77 ((hu_n _ _ (by decide)).trans ((hu_n _ _ (by decide)).trans a0)) rfl ?_
    refine v_aload_n C (oX9_shortestOrphan.at 74 rfl) rfl ?_
    refine v_getf C (oX9_shortestOrphan.at 75 rfl) fX9_249 ((hu_n _ _ (by decide)).trans ((hu_n _ _ (by decide)).trans a0)) (congrArg (fun z => some (Value.int z)) (e35)) ?_
    refine v_iald C (oX9_shortestOrphan.at 76 rfl) ((hu_n _ _ (by decide)).trans ((hu_n _ _ (by decide)).trans b4)) (by decide) rfl (by omega) efa ?_
    exact v_iret C (oX9_shortestOrphan.at 77 rfl) rfl rfl ⟨Nat.le_refl _, Nat.le_refl _⟩ ⟨rfl, hR2.set_w hLn hIx hL hix⟩
  suffices H : ∀ f i word wt, i ≤ f → i < e → word + wt * wdF S.1 (bfs S.1 (S.1 ^ (S.2.1 - 1)) S.2.2.1 (e * S.1)).2.2.1 (bfs S.1 (S.1 ^ (S.2.1 - 1)) S.2.2.1 (e * S.1)).2.2.2 f i = oIx S e j0 → V X (0, 0) w h2 57 [some (.ref 62), some (.int (nI x)), some (.int (nI word)), some (.int (nI wt)), some (.int (nI i))] [] from H 512 j0 0 1 (by omega) hj0 (by rw [Nat.zero_add, Nat.one_mul]; rfl)
  have Z0 : ∀ word wt, word = oIx S e j0 → V X (0, 0) w h2 57 [some (.ref 62), some (.int (nI x)), some (.int (nI word)), some (.int (nI wt)), some (.int (nI 0))] [] := by
    intro word wt hw
    subst hw
    refine v_aload_n C (oX9_shortestOrphan.at 33 rfl) rfl ?_
    refine v_getf C (oX9_shortestOrphan.at 34 rfl) fX9_71 a0 rfl ?_
    refine v_iload C (oX9_shortestOrphan.at 35 rfl) rfl ?_
    refine v_iald C (oX9_shortestOrphan.at 36 rfl) b2 (by decide) rfl (by omega) hB.1 ?_
    refine v_if_lt C (oX9_shortestOrphan.at 37 rfl) (tgt := 98) (by decide) (fun hc => E _ _) (fun hc => absurd (by decide) hc)
  intro f0
  induction f0 with
  | zero =>
    intro i word wt hi hie hw
    obtain rfl : i = 0 := by omega
    exact Z0 _ _ (by rw [wdF, Nat.mul_zero, Nat.add_zero] at hw; exact hw)
  | succ f0 ih =>
    intro i word wt hi hie hw
    rw [wdF] at hw
    by_cases hi0 : i = 0
    · rw [if_pos hi0, Nat.mul_zero, Nat.add_zero] at hw
      rw [hi0]
      exact Z0 _ _ hw
    · rw [if_neg hi0] at hw
      obtain ⟨c1, c2⟩ := hcf i (by omega) hie
      have hlt := hfr i (by omega) hie
      refine v_aload_n C (oX9_shortestOrphan.at 33 rfl) rfl ?_
      refine v_getf C (oX9_shortestOrphan.at 34 rfl) fX9_71 a0 rfl ?_
      refine v_iload C (oX9_shortestOrphan.at 35 rfl) rfl ?_
      refine v_iald C (oX9_shortestOrphan.at 36 rfl) b2 (by decide) rfl (by omega) c1 ?_
      refine v_if_ltN C (oX9_shortestOrphan.at 37 rfl) (tgt := 98) (by decide) (by omega) ?_
      refine v_iload_n C (oX9_shortestOrphan.at 38 rfl) rfl ?_
      refine v_aload_n C (oX9_shortestOrphan.at 39 rfl) rfl ?_
      refine v_getf C (oX9_shortestOrphan.at 40 rfl) fX9_74 a0 rfl ?_
      refine v_iload C (oX9_shortestOrphan.at 41 rfl) rfl ?_
      refine v_iald C (oX9_shortestOrphan.at 42 rfl) b3 (by decide) rfl (by omega) c2 ?_
      refine v_iload_n C (oX9_shortestOrphan.at 43 rfl) rfl ?_
      refine v_imulN C (oX9_shortestOrphan.at 44 rfl) ?_
      refine v_iaddN C (oX9_shortestOrphan.at 45 rfl) ?_
      refine v_istore_n C (oX9_shortestOrphan.at 46 rfl) rfl ?_
      refine v_iload_n C (oX9_shortestOrphan.at 47 rfl) rfl ?_
      refine v_aload_n C (oX9_shortestOrphan.at 48 rfl) rfl ?_
      refine v_getf C (oX9_shortestOrphan.at 49 rfl) fX9_7 a0 (congrArg (fun z => some (Value.int z)) (a2.1)) ?_
      refine v_imulN C (oX9_shortestOrphan.at 50 rfl) ?_
      refine v_istore_n C (oX9_shortestOrphan.at 51 rfl) rfl ?_
      refine v_aload_n C (oX9_shortestOrphan.at 52 rfl) rfl ?_
      refine v_getf C (oX9_shortestOrphan.at 53 rfl) fX9_71 a0 rfl ?_
      refine v_iload C (oX9_shortestOrphan.at 54 rfl) rfl ?_
      refine v_iald C (oX9_shortestOrphan.at 55 rfl) b2 (by decide) rfl (by omega) c1 ?_
      refine v_istore C (oX9_shortestOrphan.at 56 rfl) rfl ?_
      refine v_goto C (oX9_shortestOrphan.at 57 rfl) (tgt := 57) (by decide) ?_
      dsimp only [sto1, sto2, killL]
      refine ih _ _ _ (by omega) (by omega) ?_
      rw [← hw, Nat.mul_add, Nat.add_assoc]
      congr 1
      generalize wdF S.1 (bfs S.1 (S.1 ^ (S.2.1 - 1)) S.2.2.1 (e * S.1)).2.2.1 (bfs S.1 (S.1 ^ (S.2.1 - 1)) S.2.2.1 (e * S.1)).2.2.2 f0 ((bfs S.1 (S.1 ^ (S.2.1 - 1)) S.2.2.1 (e * S.1)).2.2.1 i) = A
      generalize (bfs S.1 (S.1 ^ (S.2.1 - 1)) S.2.2.1 (e * S.1)).2.2.2 i = B
      rw [Nat.add_comm, Nat.mul_comm A S.1, Nat.mul_assoc, Nat.mul_comm B wt]
/-! ===== sums ===== -/
theorem sumN_add (f g : Nat → Nat) : ∀ n, sumN (fun i => f i + g i) n = sumN f n + sumN g n
  | 0 => rfl
  | n + 1 => by rw [sumN, sumN, sumN, sumN_add f g n]; omega
theorem sumN_zero {f : Nat → Nat} : ∀ n, (∀ i, i < n → f i = 0) → sumN f n = 0
  | 0, _ => rfl
  | n + 1, h => by rw [sumN, sumN_zero n (fun i hi => h i (by omega)), h n (by omega)]
theorem sumN_delta (c x : Nat) : ∀ n, c < n → sumN (fun i => if c = i then x else 0) n = x
  | 0, h => absurd h (by omega)
  | n + 1, h => by
    rw [sumN]
    by_cases e : c = n
    · rw [if_pos e, sumN_zero n (fun i hi => if_neg (by omega)), Nat.zero_add]
    · rw [if_neg e, sumN_delta c x n (by omega), Nat.add_zero]
theorem sumN_ge {f : Nat → Nat} {i : Nat} : ∀ n, i < n → f i ≤ sumN f n
  | 0, h => absurd h (by omega)
  | n + 1, h => by
    rw [sumN]
    by_cases e : i = n
    · subst e; omega
    · have := sumN_ge (f := f) n (show i < n by omega); omega
theorem sumN_plus (f : Nat → Nat) (a : Nat) : ∀ b, sumN f (a + b) = sumN f a + sumN (fun i => f (a + i)) b
  | 0 => rfl
  | b + 1 => by rw [← Nat.add_assoc, sumN, sumN, sumN_plus f a b]; omega
theorem sumN_const (x : Nat) : ∀ n, sumN (fun _ => x) n = n * x
  | 0 => by rw [sumN, Nat.zero_mul]
  | n + 1 => by rw [sumN, sumN_const x n, Nat.add_mul, Nat.one_mul]
/-- a sum over m rows of k -/
theorem sumN_rows (f : Nat → Nat) (k : Nat) : ∀ m, sumN f (m * k) = sumN (fun v => sumN (fun s => f (v * k + s)) k) m
  | 0 => by rw [Nat.zero_mul]; rfl
  | m + 1 => by rw [Nat.add_mul, Nat.one_mul, sumN_plus, sumN_rows f k m, sumN]
theorem acN_sumN (k : Nat) (nx F : Nat → Nat) (u : Nat) : ∀ t, acN k nx F t u = sumN (fun t => if nx t = u then F (t / k) else 0) t
  | 0 => rfl
  | t + 1 => by rw [acN, sumN, acN_sumN k nx F u t]
theorem acN_total {k : Nat} {nx F : Nat → Nat} {M : Nat} (hnx : ∀ t, nx t < M) : ∀ t, sumN (acN k nx F t) M = sumN (fun t => F (t / k)) t
  | 0 => sumN_zero M (fun _ _ => rfl)
  | t + 1 => by
    have e : sumN (acN k nx F (t + 1)) M = sumN (fun u => acN k nx F t u + (if nx t = u then F (t / k) else 0)) M := rfl
    rw [e, sumN_add, acN_total hnx t, sumN_delta _ _ _ (hnx t), sumN]
/-- the words that lead to a set -/
def mnC (k n : Nat) (T : Nat → Nat) : Nat → Nat → Nat
  | 0, q => baT (2 ^ n - 1) q
  | i + 1, q => acN k (fun t => suc k n T (t / k) (t % k)) (mnC k n T i) (512 * k) q
theorem mnC_total {k n : Nat} {T : Nat → Nat} (hk : 0 < k) (hn : 0 < n) (hn9 : n ≤ 9) : ∀ i, sumN (mnC k n T i) 512 = k ^ i
  | 0 => by
    have h1 := pow_le9 hn9
    have h2 : 0 < 2 ^ n := Nat.pow_pos (by decide)
    have : sumN (mnC k n T 0) 512 = sumN (fun i => if 2 ^ n - 1 = i then 1 else 0) 512 := sumN_congr _ (fun i _ => by
      show baT (2 ^ n - 1) i = _
      unfold baT
      by_cases e : i = 2 ^ n - 1
      · rw [if_pos e, if_pos e.symm]
      · rw [if_neg e, if_neg (Ne.symm e)])
    rw [this, sumN_delta _ _ _ (by omega), Nat.pow_zero]
  | i + 1 => by
    have h1 := pow_le9 hn9
    have e : sumN (mnC k n T (i + 1)) 512 = sumN (acN k (fun t => suc k n T (t / k) (t % k)) (mnC k n T i) (512 * k)) 512 := rfl
    rw [e, acN_total (fun t => Nat.lt_of_lt_of_le (suc_lt hn) h1), sumN_rows]
    have : sumN (fun v => sumN (fun s => mnC k n T i ((v * k + s) / k)) k) 512 = sumN (fun v => k * mnC k n T i v) 512 := sumN_congr _ (fun v _ => by
      refine (sumN_congr (g := fun _ => mnC k n T i v) k (fun s hs => ?_)).trans (sumN_const _ _)
      rw [vk_div hs])
    rw [this, Nat.pow_succ, ← mnC_total (T := T) hk hn hn9 i]
    have hm : ∀ (f : Nat → Nat) m, sumN (fun v => k * f v) m = sumN f m * k := by
      intro f m
      induction m with
      | zero => simp [sumN]
      | succ m ih => rw [sumN, sumN, ih, Nat.add_mul, Nat.mul_comm k]
    rw [hm]
theorem mnC_le {k n : Nat} {T : Nat → Nat} (hk : 0 < k) (hn : 0 < n) (hn9 : n ≤ 9) (i : Nat) {q : Nat} (hq : q < 512) : mnC k n T i q ≤ k ^ i := by
  rw [← mnC_total (T := T) hk hn hn9 i]
  exact sumN_ge 512 hq
theorem k9_orphansX {w : Wt} {G h : Hp} {th : Nat} {S Z : Sc} {sv : Bool} {F : Sf} {x : Int32} (hR : RF G h th S sv Z F) (hx : ¬ InB x 13) : ConN mX9_orphans 3 (0, 0) w [.ref 62, .int x] h (.inl (some (.int (nI 0)))) (fun h' => RF G h' 1 S sv Z F) := by
  refine conI (by decide +kernel) ⟨fun _ => rfl, rfl, by simp⟩ (fun X C => ?_)
  change V X (0, 0) w h 0 [some (.ref 62), some (.int x), none, none, none] []
  refine v_aload_n C (oX9_orphans.at 0 rfl) rfl ?_
  refine v_iconst C (oX9_orphans.at 1 rfl) (v := nI 0) rfl ?_
  refine v_thr C (oX9_orphans.at 2 rfl) fX9_96 hR (fun h1 u1 hR1 q0 qt qm => ?_)
  refine v_iload_n C (oX9_orphans.at 3 rfl) rfl ?_
  refine v_iconst C (oX9_orphans.at 4 rfl) (v := nI 0) rfl ?_
  refine v_bipush C (oX9_orphans.at 5 rfl) (v := nI 12) rfl ?_
  refine v_callS C (oX9_orphans.at 6 rfl) cX9_103 (k_inF 13 (by decide) (by decide) rfl hx) rfl rfl rfl ⟨rfl, rfl⟩ rfl rfl (fun _ => rfl) (fun h' hp => ?_)
  rw [show h' = _ from hp]
  dsimp only [Option.toList, List.cons_append, List.nil_append]
  refine v_if_neB C (oX9_orphans.at 7 rfl) (tgt := 21) (by decide) (fun z => absurd z (by decide)) (fun _ => ?_)
  refine v_aload_n C (oX9_orphans.at 8 rfl) rfl ?_
  refine v_iconst C (oX9_orphans.at 9 rfl) (v := nI 1) rfl ?_
  refine v_callV C (oX9_orphans.at 10 rfl) cX9_111 q0 (k9_noR hR1) rfl rfl rfl ⟨rfl, rfl⟩ rfl rfl (fun _ => rfl) (fun h' hp => ?_)
  dsimp only [Option.toList, List.cons_append, List.nil_append]
  exact v_iret C (oX9_orphans.at 11 rfl) rfl rfl ⟨Nat.le_refl _, Nat.le_refl _⟩ ⟨rfl, hp⟩
theorem k9_orphans {w : Wt} {G h : Hp} {th : Nat} {S Z : Sc} {sv : Bool} {F : Sf} {x : Nat} (hR : RF G h th S sv Z F) (hx : x ≤ 12) : ConN mX9_orphans 3 (0, 0) w [.ref 62, .int (nI x)] h (.inl (some (.int (nI (mnC S.1 (S.1 ^ (S.2.1 - 1)) S.2.2.1 x 0))))) (fun h' => RF G h' 0 S sv Z F) := by
  have hk := hR.so.1.k
  have hn9 := hR.so.1.n
  have hn0 := hR.so.1.n0
  have h512 := pow_le9 hn9
  have h2n : 0 < 2 ^ S.1 ^ (S.2.1 - 1) := Nat.pow_pos (by decide)
  have hml : ∀ i q, i ≤ 12 → q < 512 → mnC S.1 (S.1 ^ (S.2.1 - 1)) S.2.2.1 i q ≤ 531441 := fun i q hi hq => Nat.le_trans (mnC_le (by omega) hn0 hn9 i hq) (pw_le hk (b := 12) hi)
  refine conI (by decide +kernel) ⟨fun _ => rfl, rfl, by simp⟩ (fun X C => ?_)
  change V X (0, 0) w h 0 [some (.ref 62), some (.int (nI x)), none, none, none] []
  refine v_aload_n C (oX9_orphans.at 0 rfl) rfl ?_
  refine v_iconst C (oX9_orphans.at 1 rfl) (v := nI 0) rfl ?_
  refine v_thr C (oX9_orphans.at 2 rfl) fX9_96 hR (fun h1 u1 hR1 q0 qt qm => ?_)
  refine v_iload_n C (oX9_orphans.at 3 rfl) rfl ?_
  refine v_iconst C (oX9_orphans.at 4 rfl) (v := nI 0) rfl ?_
  refine v_bipush C (oX9_orphans.at 5 rfl) (v := nI 12) rfl ?_
  refine v_callS C (oX9_orphans.at 6 rfl) cX9_103 (k_inT 13 (by decide) (by decide) rfl (InB.of (show x < 13 by omega) (by decide))) rfl rfl rfl ⟨rfl, rfl⟩ rfl rfl (fun _ => rfl) (fun h' hp => ?_)
  rw [show h' = _ from hp]
  dsimp only [Option.toList, List.cons_append, List.nil_append]
  refine v_if_neB C (oX9_orphans.at 7 rfl) (tgt := 21) (by decide) (fun _ => ?_) (fun z => absurd z (by decide))
  refine v_iconst C (oX9_orphans.at 12 rfl) (v := nI 0) rfl ?_
  refine v_istore_n C (oX9_orphans.at 13 rfl) rfl ?_
  dsimp only [sto1, sto2, killL]
  obtain ⟨g1, hg1⟩ := hR1.sc (i := 84) (Or.inr (Or.inl rfl))
  obtain ⟨g2, hg2⟩ := hR1.sc (i := 85) (Or.inr (Or.inr (Or.inl rfl)))
  have hg1 : h1 84 = io 512 g1 := hg1
  have hg2 : h1 85 = io 512 g2 := hg2
  have c0 : ∀ a b, hu (hu h1 84 a) 85 b 62 = MO u1 := fun a b => (hu_n _ _ (by decide)).trans ((hu_n _ _ (by decide)).trans q0)
  have c7 : ∀ a b, hu (hu h1 84 a) 85 b 84 = a := fun a b => (hu_n _ _ (by decide)).trans (hu_s _ _ _)
  have c8 : ∀ a b, hu (hu h1 84 a) 85 b 85 = b := fun a b => hu_s _ _ _
  have cR : ∀ a b, RF G (hu (hu h1 84 (io 512 a)) 85 (io 512 b)) 0 S sv Z F := fun a b => (hR1.set_r (i := 84) (f' := a) (Or.inr (Or.inl rfl))).set_r (i := 85) (Or.inr (Or.inr (Or.inl rfl)))
  generalize hnn : S.1 ^ (S.2.1 - 1) = n at *
  have M : ∀ d i a b l3 l4, i + d = x → (∀ q, q < 512 → a q = nI (mnC S.1 n S.2.2.1 i q)) → V X (0, 0) w (hu (hu h1 84 (io 512 a)) 85 (io 512 b)) 59 [some (.ref 62), some (.int (nI x)), some (.int (nI i)), l3, l4] [] := by
    intro d
    induction d with
    | zero =>
      intro i a b l3 l4 hi ha
      obtain rfl : i = x := by omega
      refine v_iload_n C (oX9_orphans.at 36 rfl) rfl ?_
      refine v_iload_n C (oX9_orphans.at 37 rfl) rfl ?_
      refine v_icmp_geN C (oX9_orphans.at 38 rfl) (tgt := 182) (by decide) (by omega) (by omega) (fun hc => ?_) (fun hc => absurd hc (by omega))
      refine v_aload_n C (oX9_orphans.at 102 rfl) rfl ?_
      refine v_getf C (oX9_orphans.at 103 rfl) fX9_84 (c0 _ _) rfl ?_
      refine v_iconst C (oX9_orphans.at 104 rfl) (v := nI 0) rfl ?_
      refine v_iald C (oX9_orphans.at 105 rfl) (c7 _ _) (by decide) rfl (by omega) (ha 0 (by decide)) ?_
      exact v_iret C (oX9_orphans.at 106 rfl) rfl rfl ⟨Nat.le_refl _, Nat.le_refl _⟩ ⟨rfl, cR _ _⟩
    | succ d ih =>
      intro i a b l3 l4 hi ha
      refine v_iload_n C (oX9_orphans.at 36 rfl) rfl ?_
      refine v_iload_n C (oX9_orphans.at 37 rfl) rfl ?_
      refine v_icmp_geN C (oX9_orphans.at 38 rfl) (tgt := 182) (by decide) (by omega) (by omega) (fun hc => absurd hc (by omega)) (fun hc => ?_)
      refine v_iconst C (oX9_orphans.at 39 rfl) (v := nI 0) rfl ?_
      refine v_istore_n C (oX9_orphans.at 40 rfl) rfl ?_
      dsimp only [sto1, sto2, killL]
      have L3 : ∀ b, (∀ q, q < 512 → b q = nI (mnC S.1 n S.2.2.1 (i + 1) q)) → ∀ e j a l4, j + e = 512 → (∀ q, q < j → a q = nI (mnC S.1 n S.2.2.1 (i + 1) q)) → V X (0, 0) w (hu (hu h1 84 (io 512 a)) 85 (io 512 b)) 151 [some (.ref 62), some (.int (nI x)), some (.int (nI i)), some (.int (nI j)), l4] [] := by
        intro b hb e
        induction e with
        | zero =>
          intro j a l4 hj ha
          obtain rfl : j = 512 := by omega
          refine v_iload_n C (oX9_orphans.at 87 rfl) rfl ?_
          refine v_sipush C (oX9_orphans.at 88 rfl) (v := nI 512) rfl ?_
          refine v_icmp_geN C (oX9_orphans.at 89 rfl) (tgt := 176) (by decide) (by omega) (by omega) (fun hc => ?_) (fun hc => absurd hc (by omega))
          refine v_iincN C (oX9_orphans.at 100 rfl) rfl ?_
          refine v_goto C (oX9_orphans.at 101 rfl) (tgt := 59) (by decide) ?_
          dsimp only [sto1, sto2, killL]
          exact ih (i + 1) a b _ _ (by omega) ha
        | succ e ihe =>
          intro j a l4 hj ha
          refine v_iload_n C (oX9_orphans.at 87 rfl) rfl ?_
          refine v_sipush C (oX9_orphans.at 88 rfl) (v := nI 512) rfl ?_
          refine v_icmp_geN C (oX9_orphans.at 89 rfl) (tgt := 176) (by decide) (by omega) (by omega) (fun hc => absurd hc (by omega)) (fun hc => ?_)
          refine v_aload_n C (oX9_orphans.at 90 rfl) rfl ?_
          refine v_getf C (oX9_orphans.at 91 rfl) fX9_84 (c0 _ _) rfl ?_
          refine v_iload_n C (oX9_orphans.at 92 rfl) rfl ?_
          refine v_aload_n C (oX9_orphans.at 93 rfl) rfl ?_
          refine v_getf C (oX9_orphans.at 94 rfl) fX9_87 (c0 _ _) rfl ?_
          refine v_iload_n C (oX9_orphans.at 95 rfl) rfl ?_
          refine v_iald C (oX9_orphans.at 96 rfl) (c8 _ _) (by decide) rfl (by omega) (hb j (by omega)) ?_
          refine v_iast C (oX9_orphans.at 97 rfl) (c7 _ _) (by decide) rfl (by omega) ?_
          rw [hu_c _ _ _ (by decide), hu_hu]
          refine v_iincN C (oX9_orphans.at 98 rfl) rfl ?_
          refine v_goto C (oX9_orphans.at 99 rfl) (tgt := 151) (by decide) ?_
          dsimp only [sto1, sto2, killL]
          refine ihe (j + 1) _ _ (by omega) (fun q hq => ?_)
          by_cases z : q = j
          · rw [z, pk_us]
          · rw [pk_un z]; exact ha q (by omega)
      have L2 : ∀ e j b l4, j + e = 512 → (∀ q, q < 512 → b q = nI (acN S.1 (fun t => suc S.1 n S.2.2.1 (t / S.1) (t % S.1)) (mnC S.1 n S.2.2.1 i) (j * S.1) q)) → V X (0, 0) w (hu (hu h1 84 (io 512 a)) 85 (io 512 b)) 88 [some (.ref 62), some (.int (nI x)), some (.int (nI i)), some (.int (nI j)), l4] [] := by
        intro e
        induction e with
        | zero =>
          intro j b l4 hj hb
          obtain rfl : j = 512 := by omega
          refine v_iload_n C (oX9_orphans.at 53 rfl) rfl ?_
          refine v_sipush C (oX9_orphans.at 54 rfl) (v := nI 512) rfl ?_
          refine v_icmp_geN C (oX9_orphans.at 55 rfl) (tgt := 149) (by decide) (by omega) (by omega) (fun hc => ?_) (fun hc => absurd hc (by omega))
          refine v_iconst C (oX9_orphans.at 85 rfl) (v := nI 0) rfl ?_
          refine v_istore_n C (oX9_orphans.at 86 rfl) rfl ?_
          dsimp only [sto1, sto2, killL]
          exact L3 b hb 512 0 a _ (by omega) (fun q hq => absurd hq (by omega))
        | succ e ihe =>
          intro j b l4 hj hb
          have haj := ha j (by omega)
          have hmj := hml i j (by omega) (by omega)
          refine v_iload_n C (oX9_orphans.at 53 rfl) rfl ?_
          refine v_sipush C (oX9_orphans.at 54 rfl) (v := nI 512) rfl ?_
          refine v_icmp_geN C (oX9_orphans.at 55 rfl) (tgt := 149) (by decide) (by omega) (by omega) (fun hc => absurd hc (by omega)) (fun hc => ?_)
          refine v_iconst C (oX9_orphans.at 56 rfl) (v := nI 0) rfl ?_
          refine v_istore C (oX9_orphans.at 57 rfl) rfl ?_
          dsimp only [sto1, sto2, killL]
          by_cases hz : mnC S.1 n S.2.2.1 i j = 0
          · have hz2 : a j = nI 0 := by rw [haj, hz]
            refine v_iload C (oX9_orphans.at 58 rfl) rfl ?_
            refine v_aload_n C (oX9_orphans.at 59 rfl) rfl ?_
            refine v_getf C (oX9_orphans.at 60 rfl) fX9_7 (c0 _ _) (congrArg (fun z => some (Value.int z)) (qm.1)) ?_
            refine v_icmp_geN C (oX9_orphans.at 61 rfl) (tgt := 143) (by decide) (by omega) (by omega) (fun hc => absurd hc (by omega)) (fun hc => ?_)
            refine v_aload_n C (oX9_orphans.at 62 rfl) rfl ?_
            refine v_getf C (oX9_orphans.at 63 rfl) fX9_84 (c0 _ _) rfl ?_
            refine v_iload_n C (oX9_orphans.at 64 rfl) rfl ?_
            refine v_iald C (oX9_orphans.at 65 rfl) (c7 _ _) (by decide) rfl (by omega) hz2 ?_
            refine v_if_leN C (oX9_orphans.at 66 rfl) (tgt := 143) (by decide) (by omega) (fun hc => ?_) (fun hc => absurd hc (by omega))
            refine v_iincN C (oX9_orphans.at 83 rfl) rfl ?_
            refine v_goto C (oX9_orphans.at 84 rfl) (tgt := 88) (by decide) ?_
            dsimp only [sto1, sto2, killL]
            refine ihe (j + 1) b _ (by omega) (fun q hq => ?_)
            rw [Nat.add_mul, Nat.one_mul, acN_skip (by rw [hz]; rfl) S.1 (Nat.le_refl _)]
            exact hb q hq
          · suffices H4 : ∀ d2 s b, s + d2 = S.1 → (∀ q, q < 512 → b q = nI (acN S.1 (fun t => suc S.1 n S.2.2.1 (t / S.1) (t % S.1)) (mnC S.1 n S.2.2.1 i) (j * S.1 + s) q)) → V X (0, 0) w (hu (hu h1 84 (io 512 a)) 85 (io 512 b)) 98 [some (.ref 62), some (.int (nI x)), some (.int (nI i)), some (.int (nI j)), some (.int (nI s))] [] from H4 S.1 0 b (by omega) hb
            intro d2
            induction d2 with
            | zero =>
              intro s b hs hb
              obtain rfl : s = S.1 := by omega
              refine v_iload C (oX9_orphans.at 58 rfl) rfl ?_
              refine v_aload_n C (oX9_orphans.at 59 rfl) rfl ?_
              refine v_getf C (oX9_orphans.at 60 rfl) fX9_7 (c0 _ _) (congrArg (fun z => some (Value.int z)) (qm.1)) ?_
              refine v_icmp_geN C (oX9_orphans.at 61 rfl) (tgt := 143) (by decide) (by omega) (by omega) (fun hc => ?_) (fun hc => absurd hc (by omega))
              refine v_iincN C (oX9_orphans.at 83 rfl) rfl ?_
              refine v_goto C (oX9_orphans.at 84 rfl) (tgt := 88) (by decide) ?_
              dsimp only [sto1, sto2, killL]
              exact ihe (j + 1) b _ (by omega) (fun q hq => by rw [Nat.add_mul, Nat.one_mul]; exact hb q hq)
            | succ d2 ih2 =>
              intro s b hs hb
              have ks := k9_successors (w := w) (q := j) (c := s) (cR a b) (by omega) (by omega)
              rw [hnn] at ks
              have hsl : suc S.1 n S.2.2.1 j s < 512 := Nat.lt_of_lt_of_le (suc_lt hn0) h512
              refine v_iload C (oX9_orphans.at 58 rfl) rfl ?_
              refine v_aload_n C (oX9_orphans.at 59 rfl) rfl ?_
              refine v_getf C (oX9_orphans.at 60 rfl) fX9_7 (c0 _ _) (congrArg (fun z => some (Value.int z)) (qm.1)) ?_
              refine v_icmp_geN C (oX9_orphans.at 61 rfl) (tgt := 143) (by decide) (by omega) (by omega) (fun hc => absurd hc (by omega)) (fun hc => ?_)
              refine v_aload_n C (oX9_orphans.at 62 rfl) rfl ?_
              refine v_getf C (oX9_orphans.at 63 rfl) fX9_84 (c0 _ _) rfl ?_
              refine v_iload_n C (oX9_orphans.at 64 rfl) rfl ?_
              refine v_iald C (oX9_orphans.at 65 rfl) (c7 _ _) (by decide) rfl (by omega) haj ?_
              refine v_if_leN C (oX9_orphans.at 66 rfl) (tgt := 143) (by decide) (by omega) (fun hc => absurd hc (by omega)) (fun hc => ?_)
              refine v_aload_n C (oX9_orphans.at 67 rfl) rfl ?_
              refine v_getf C (oX9_orphans.at 68 rfl) fX9_87 (c0 _ _) rfl ?_
              refine v_aload_n C (oX9_orphans.at 69 rfl) rfl ?_
              refine v_iload_n C (oX9_orphans.at 70 rfl) rfl ?_
              refine v_iload C (oX9_orphans.at 71 rfl) rfl ?_
              refine v_callV C (oX9_orphans.at 72 rfl) cX9_256 (c0 _ _) (ks) rfl rfl rfl ⟨rfl, rfl⟩ rfl rfl (fun _ => rfl) (fun h' hp => ?_)
              rw [show h' = _ from hp]
              dsimp only [Option.toList, List.cons_append, List.nil_append]
              refine v_dup2 C (oX9_orphans.at 73 rfl) rfl rfl ?_
              refine v_iald C (oX9_orphans.at 74 rfl) (c8 _ _) (by decide) rfl hsl (hb _ hsl) ?_
              refine v_aload_n C (oX9_orphans.at 75 rfl) rfl ?_
              refine v_getf C (oX9_orphans.at 76 rfl) fX9_84 (c0 _ _) rfl ?_
              refine v_iload_n C (oX9_orphans.at 77 rfl) rfl ?_
              refine v_iald C (oX9_orphans.at 78 rfl) (c7 _ _) (by decide) rfl (by omega) haj ?_
              refine v_iaddN C (oX9_orphans.at 79 rfl) ?_
              refine v_iast C (oX9_orphans.at 80 rfl) (c8 _ _) (by decide) rfl hsl ?_
              rw [hu_hu]
              refine v_iincN C (oX9_orphans.at 81 rfl) rfl ?_
              refine v_goto C (oX9_orphans.at 82 rfl) (tgt := 98) (by decide) ?_
              dsimp only [sto1, sto2, killL]
              refine ih2 (s + 1) _ (by omega) (fun q hq => ?_)
              rw [← Nat.add_assoc, acN, vk_div (by omega), vk_mod (by omega)]
              by_cases z : q = suc S.1 n S.2.2.1 j s
              · rw [z, pk_us, if_pos rfl]
              · rw [pk_un z, if_neg (Ne.symm z), Nat.add_zero]; exact hb q hq
      suffices L1 : ∀ e j b l4, j + e = 512 → (∀ q, q < j → b q = nI 0) → V X (0, 0) w (hu (hu h1 84 (io 512 a)) 85 (io 512 b)) 66 [some (.ref 62), some (.int (nI x)), some (.int (nI i)), some (.int (nI j)), l4] [] from L1 512 0 b _ (by omega) (fun q hq => absurd hq (by omega))
      intro e
      induction e with
      | zero =>
        intro j b l4 hj hb
        obtain rfl : j = 512 := by omega
        refine v_iload_n C (oX9_orphans.at 41 rfl) rfl ?_
        refine v_sipush C (oX9_orphans.at 42 rfl) (v := nI 512) rfl ?_
        refine v_icmp_geN C (oX9_orphans.at 43 rfl) (tgt := 86) (by decide) (by omega) (by omega) (fun hc => ?_) (fun hc => absurd hc (by omega))
        refine v_iconst C (oX9_orphans.at 51 rfl) (v := nI 0) rfl ?_
        refine v_istore_n C (oX9_orphans.at 52 rfl) rfl ?_
        dsimp only [sto1, sto2, killL]
        exact L2 512 0 b _ (by omega) (fun q hq => by rw [Nat.zero_mul, acN]; exact hb q hq)
      | succ e ihe =>
        intro j b l4 hj hb
        refine v_iload_n C (oX9_orphans.at 41 rfl) rfl ?_
        refine v_sipush C (oX9_orphans.at 42 rfl) (v := nI 512) rfl ?_
        refine v_icmp_geN C (oX9_orphans.at 43 rfl) (tgt := 86) (by decide) (by omega) (by omega) (fun hc => absurd hc (by omega)) (fun hc => ?_)
        refine v_aload_n C (oX9_orphans.at 44 rfl) rfl ?_
        refine v_getf C (oX9_orphans.at 45 rfl) fX9_87 (c0 _ _) rfl ?_
        refine v_iload_n C (oX9_orphans.at 46 rfl) rfl ?_
        refine v_iconst C (oX9_orphans.at 47 rfl) (v := nI 0) rfl ?_
        refine v_iast C (oX9_orphans.at 48 rfl) (c8 _ _) (by decide) rfl (by omega) ?_
        rw [hu_hu]
        refine v_iincN C (oX9_orphans.at 49 rfl) rfl ?_
        refine v_goto C (oX9_orphans.at 50 rfl) (tgt := 66) (by decide) ?_
        dsimp only [sto1, sto2, killL]
        refine ihe (j + 1) _ _ (by omega) (fun q hq => ?_)
        by_cases z : q = j
        · rw [z, pk_us]
        · rw [pk_un z]; exact hb q (by omega)
  suffices H : ∀ d i a, i + d = 512 → (∀ q, q < i → a q = nI 0) → V X (0, 0) w (hu (hu h1 84 (io 512 a)) 85 (io 512 g2)) 23 [some (.ref 62), some (.int (nI x)), some (.int (nI i)), none, none] [] by
    have := H 512 0 g1 (by omega) (fun v hv => absurd hv (by omega))
    rw [hu_id h1 hg1, hu_id h1 hg2] at this
    exact this
  intro d
  induction d with
  | zero =>
    intro i a hi ha
    obtain rfl : i = 512 := by omega
    have kn := k9_nodesR (w := w) (cR a g2)
    rw [hnn] at kn
    have h1p : 1 ≤ 1 * 2 ^ n := by rw [Nat.one_mul]; exact h2n
    have h1q : 1 * 2 ^ n ≤ 512 := by rw [Nat.one_mul]; exact h512
    refine v_iload_n C (oX9_orphans.at 14 rfl) rfl ?_
    refine v_sipush C (oX9_orphans.at 15 rfl) (v := nI 512) rfl ?_
    refine v_icmp_geN C (oX9_orphans.at 16 rfl) (tgt := 43) (by decide) (by omega) (by omega) (fun hc => ?_) (fun hc => absurd hc (by omega))
    refine v_aload_n C (oX9_orphans.at 24 rfl) rfl ?_
    refine v_getf C (oX9_orphans.at 25 rfl) fX9_84 (c0 _ _) rfl ?_
    refine v_iconst C (oX9_orphans.at 26 rfl) (v := nI 1) rfl ?_
    refine v_aload_n C (oX9_orphans.at 27 rfl) rfl ?_
    refine v_callV C (oX9_orphans.at 28 rfl) cX9_118 (c0 _ _) (kn) rfl rfl rfl ⟨rfl, rfl⟩ rfl rfl (fun _ => rfl) (fun h' hp => ?_)
    rw [show h' = _ from hp]
    dsimp only [Option.toList, List.cons_append, List.nil_append]
    refine v_ishlN C (oX9_orphans.at 29 rfl) (by omega) (by omega) ?_
    refine v_iconst C (oX9_orphans.at 30 rfl) (v := nI 1) rfl ?_
    refine v_isubN C (oX9_orphans.at 31 rfl) (by omega) ?_
    refine v_iconst C (oX9_orphans.at 32 rfl) (v := nI 1) rfl ?_
    refine v_iast C (oX9_orphans.at 33 rfl) (c7 _ _) (by decide) rfl (by omega) ?_
    rw [hu_c _ _ _ (by decide), hu_hu]
    refine v_iconst C (oX9_orphans.at 34 rfl) (v := nI 0) rfl ?_
    refine v_istore_n C (oX9_orphans.at 35 rfl) rfl ?_
    dsimp only [sto1, sto2, killL]
    refine M x 0 _ g2 _ _ (by omega) (fun q hq => ?_)
    show _ = nI (baT (2 ^ n - 1) q)
    unfold baT
    rw [Nat.one_mul]
    by_cases z : q = 2 ^ n - 1
    · rw [z, pk_us, if_pos rfl]
    · rw [pk_un z, if_neg z]; exact ha q hq
  | succ d ih =>
    intro i a hi ha
    refine v_iload_n C (oX9_orphans.at 14 rfl) rfl ?_
    refine v_sipush C (oX9_orphans.at 15 rfl) (v := nI 512) rfl ?_
    refine v_icmp_geN C (oX9_orphans.at 16 rfl) (tgt := 43) (by decide) (by omega) (by omega) (fun hc => absurd hc (by omega)) (fun hc => ?_)
    refine v_aload_n C (oX9_orphans.at 17 rfl) rfl ?_
    refine v_getf C (oX9_orphans.at 18 rfl) fX9_84 (c0 _ _) rfl ?_
    refine v_iload_n C (oX9_orphans.at 19 rfl) rfl ?_
    refine v_iconst C (oX9_orphans.at 20 rfl) (v := nI 0) rfl ?_
    refine v_iast C (oX9_orphans.at 21 rfl) (c7 _ _) (by decide) rfl (by omega) ?_
    rw [hu_c _ _ _ (by decide), hu_hu]
    refine v_iincN C (oX9_orphans.at 22 rfl) rfl ?_
    refine v_goto C (oX9_orphans.at 23 rfl) (tgt := 23) (by decide) ?_
    dsimp only [sto1, sto2, killL]
    refine ih (i + 1) _ (by omega) (fun v hv => ?_)
    by_cases q : v = i
    · rw [q, pk_us]
    · rw [pk_un q]; exact ha v (by omega)
