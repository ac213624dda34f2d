/-! ===== the program's methods: cells, errors, edges, words ===== -/
theorem k8_errorX {w : Wt} {h : Hp} {x : Int32} (hx : ¬ (x = 0 ∨ x = 1)) : ConN mX8_error 1 (1, 6) w [.ref 0, .int x] h (.inr EIOO) (fun h' => h' = h) := by
  refine conI (by decide +kernel) ⟨fun _ => rfl, rfl, by simp⟩ (fun X C => ?_)
  change V X (0, 0) w h 0 [some (.ref 0), some (.int x)] []
  refine v_iload_n C (oX8_error.at 0 rfl) rfl ?_
  exact v_callST C (oX8_error.at 1 rfl) cX8_179 (k_needBitX hx) rfl rfl rfl rfl rfl (fun h' hp => ⟨rfl, hp⟩)
theorem k8_error {w : Wt} {G h : Hp} {S Z : Sc} {sv : Bool} {F : Sf} {x : Int32} (hP : PA G h S sv Z F) (hx : x = 0 ∨ x = 1) : ConN mX8_error 1 (0, 0) w [.ref 0, .int x] h (.inl (some (.int (if x = 0 then nI F.2.1 else F.2.2.1)))) (fun h' => h' = h) := by
  obtain ⟨c, t, hF⟩ := hP.fm
  refine conI (by decide +kernel) ⟨fun _ => rfl, rfl, by simp⟩ (fun X C => ?_)
  change V X (0, 0) w h 0 [some (.ref 0), some (.int x)] []
  refine v_iload_n C (oX8_error.at 0 rfl) rfl ?_
  refine v_callS C (oX8_error.at 1 rfl) cX8_179 (k_needBit hx) rfl rfl rfl ⟨rfl, rfl⟩ rfl rfl (fun _ => rfl) (fun h' hp => ?_)
  rw [show h' = _ from hp]
  dsimp only [Option.toList, List.cons_append, List.nil_append]
  refine v_iload_n C (oX8_error.at 2 rfl) rfl ?_
  refine v_if_ne C (oX8_error.at 3 rfl) (tgt := 18) (by decide) (fun hc => ?_) (fun hc => ?_)
  · rw [if_neg hc] at C
    refine v_aload_n C (oX8_error.at 8 rfl) rfl ?_
    refine v_getf C (oX8_error.at 9 rfl) fX8_36 hP.ob rfl ?_
    refine v_getf C (oX8_error.at 10 rfl) fX8_182 hF.o rfl ?_
    exact v_iret C (oX8_error.at 11 rfl) rfl rfl ⟨Nat.le_refl _, Nat.le_refl _⟩ ⟨rfl, rfl⟩
  · rw [if_pos hc] at C
    refine v_aload_n C (oX8_error.at 4 rfl) rfl ?_
    refine v_getf C (oX8_error.at 5 rfl) fX8_36 hP.ob rfl ?_
    refine v_getf C (oX8_error.at 6 rfl) fX8_165 hF.o rfl ?_
    refine v_goto C (oX8_error.at 7 rfl) (tgt := 25) (by decide) ?_
    exact v_iret C (oX8_error.at 11 rfl) rfl rfl ⟨Nat.le_refl _, Nat.le_refl _⟩ ⟨rfl, rfl⟩
theorem k8_cellR {w : Wt} {h : Hp} {x y : Int32} (hx : ¬ InB x 4) : ConN mX8_cell 1 (1, 6) w [.ref 0, .int x, .int y] h (.inr EIOO) (fun h' => h' = h) := by
  refine conI (by decide +kernel) ⟨fun _ => rfl, rfl, by simp⟩ (fun X C => ?_)
  change V X (0, 0) w h 0 [some (.ref 0), some (.int x), some (.int y), none] []
  refine v_iload_n C (oX8_cell.at 0 rfl) rfl ?_
  exact v_callST C (oX8_cell.at 1 rfl) cX8_210 (k_needRegX hx) rfl rfl rfl rfl rfl (fun h' hp => ⟨rfl, hp⟩)
theorem k8_cellX {w : Wt} {G h : Hp} {S Z : Sc} {sv : Bool} {F : Sf} {x : Nat} {y : Int32} (hP : PA G h S sv Z F) (hx : x < 4) (hy : ¬ InB y (S.2.2.2.1 x)) : ConN mX8_cell 1 (1, 6) w [.ref 0, .int (nI x), .int y] h (.inr EIOO) (fun h' => h' = h) := by
  obtain ⟨f, e, g0, g1, g2, g3, g4⟩ := hP.rg
  refine conI (by decide +kernel) ⟨fun _ => rfl, rfl, by simp⟩ (fun X C => ?_)
  change V X (0, 0) w h 0 [some (.ref 0), some (.int (nI x)), some (.int y), none] []
  refine v_iload_n C (oX8_cell.at 0 rfl) rfl ?_
  refine v_callS C (oX8_cell.at 1 rfl) cX8_210 (k_needReg (InB.of hx (by decide))) rfl rfl rfl ⟨rfl, rfl⟩ rfl rfl (fun _ => rfl) (fun h' hp => ?_)
  rw [show h' = _ from hp]
  dsimp only [Option.toList, List.cons_append, List.nil_append]
  refine v_aload_n C (oX8_cell.at 2 rfl) rfl ?_
  refine v_getf C (oX8_cell.at 3 rfl) fX8_22 hP.ob rfl ?_
  refine v_getf C (oX8_cell.at 4 rfl) fX8_217 g0 rfl ?_
  refine v_iload_n C (oX8_cell.at 5 rfl) rfl ?_
  refine v_iald C (oX8_cell.at 6 rfl) g1 (by decide) rfl (by omega) (g2 x hx) ?_
  refine v_istore_n C (oX8_cell.at 7 rfl) rfl ?_
  dsimp only [sto1, sto2, killL]
  have thr : V X (0, 0) w h 23 [some (.ref 0), some (.int (nI x)), some (.int y), some (.int (nI (S.2.2.2.1 x)))] [] := v_throwS C rfl tIOO sr227 (oX8_cell.at 13 rfl) (oX8_cell.at 14 rfl) (oX8_cell.at 15 rfl) (oX8_cell.at 16 rfl) (oX8_cell.at 17 rfl) rfl rfl ⟨rfl, rfl⟩
  refine v_iload_n C (oX8_cell.at 8 rfl) rfl ?_
  refine v_if_lt C (oX8_cell.at 9 rfl) (tgt := 23) (by decide) (fun hc => ?_) (fun hc => ?_)
  · exact thr
  · refine v_iload_n C (oX8_cell.at 10 rfl) rfl ?_
    refine v_iload_n C (oX8_cell.at 11 rfl) rfl ?_
    refine v_icmp_lt C (oX8_cell.at 12 rfl) (tgt := 33) (by decide) (fun hc => ?_) (fun hc => ?_)
    · exact absurd ⟨by assumption, hc⟩ hy
    · exact thr
theorem k8_cell {w : Wt} {G h : Hp} {S Z : Sc} {sv : Bool} {F : Sf} {x y : Nat} (hP : PA G h S sv Z F) (hx : x < 4) (hy : y < S.2.2.2.1 x) : ConN mX8_cell 2 (0, 0) w [.ref 0, .int (nI x), .int (nI y)] h (.inl (some (.int (nI (cel S.1 (S.2.2.2.1 x) (S.2.2.2.2 x) y))))) (fun h' => h' = h) := by
  obtain ⟨f, e, g0, g1, g2, g3, g4⟩ := hP.rg
  have hb := hP.so.2 x hx
  have hk := hP.sz.k
  have hix : S.2.2.2.2 x < 2 ^ 31 := by
    have h1 : S.1 ^ S.2.2.2.1 x ≤ 3 ^ S.2.2.2.1 x := Nat.pow_le_pow_left (by omega) _
    have h2 : 3 ^ S.2.2.2.1 x ≤ 3 ^ 14 := Nat.pow_le_pow_right (by decide) hb.1
    have h3 : (3 : Nat) ^ 14 < 2 ^ 31 := by decide
    omega
  refine conI (by decide +kernel) ⟨fun _ => rfl, rfl, by simp⟩ (fun X C => ?_)
  change V X (0, 0) w h 0 [some (.ref 0), some (.int (nI x)), some (.int (nI y)), none] []
  refine v_iload_n C (oX8_cell.at 0 rfl) rfl ?_
  refine v_callS C (oX8_cell.at 1 rfl) cX8_210 (k_needReg (InB.of hx (by decide))) rfl rfl rfl ⟨rfl, rfl⟩ rfl rfl (fun _ => rfl) (fun h' hp => ?_)
  rw [show h' = _ from hp]
  dsimp only [Option.toList, List.cons_append, List.nil_append]
  refine v_aload_n C (oX8_cell.at 2 rfl) rfl ?_
  refine v_getf C (oX8_cell.at 3 rfl) fX8_22 hP.ob rfl ?_
  refine v_getf C (oX8_cell.at 4 rfl) fX8_217 g0 rfl ?_
  refine v_iload_n C (oX8_cell.at 5 rfl) rfl ?_
  refine v_iald C (oX8_cell.at 6 rfl) g1 (by decide) rfl (by omega) (g2 x hx) ?_
  refine v_istore_n C (oX8_cell.at 7 rfl) rfl ?_
  dsimp only [sto1, sto2, killL]
  refine v_iload_n C (oX8_cell.at 8 rfl) rfl ?_
  refine v_if_ltN C (oX8_cell.at 9 rfl) (tgt := 23) (by decide) (by omega) ?_
  refine v_iload_n C (oX8_cell.at 10 rfl) rfl ?_
  refine v_iload_n C (oX8_cell.at 11 rfl) rfl ?_
  refine v_icmp_ltN C (oX8_cell.at 12 rfl) (tgt := 33) (by decide) (by omega) (by omega) (fun hc => ?_) (fun hc => ?_)
  · refine v_aload_n C (oX8_cell.at 18 rfl) rfl ?_
    refine v_getf C (oX8_cell.at 19 rfl) fX8_10 hP.ob rfl ?_
    refine v_aload_n C (oX8_cell.at 20 rfl) rfl ?_
    refine v_getf C (oX8_cell.at 21 rfl) fX8_22 hP.ob rfl ?_
    refine v_getf C (oX8_cell.at 22 rfl) fX8_224 g0 rfl ?_
    refine v_iload_n C (oX8_cell.at 23 rfl) rfl ?_
    refine v_iald C (oX8_cell.at 24 rfl) g3 (by decide) rfl (by omega) (g4 x hx) ?_
    refine v_iload_n C (oX8_cell.at 25 rfl) rfl ?_
    refine v_iload_n C (oX8_cell.at 26 rfl) rfl ?_
    refine v_callV C (oX8_cell.at 27 rfl) cX8_229 hP.ru.ro (k_cellOf hP.ru.ro hk hix (by omega) hy) rfl rfl rfl ⟨rfl, rfl⟩ rfl rfl (fun _ => rfl) (fun h' hp => ?_)
    rw [show h' = _ from hp]
    dsimp only [Option.toList, List.cons_append, List.nil_append]
    exact v_iret C (oX8_cell.at 28 rfl) rfl rfl ⟨Nat.le_refl _, Nat.le_refl _⟩ ⟨rfl, rfl⟩
  · exact absurd hc (by omega)
theorem k8_edgeN {w : Wt} {G h : Hp} {S Z : Sc} {sv : Bool} {F : Sf} {x y v : Int32} (hP : PA G h S sv Z F) (hx : ¬ InB x (S.1 ^ (S.2.1 - 1))) : ConN mX8_edge 1 (1, 6) w [.ref 0, .int x, .int y, .int v] h (.inr EIOO) (fun h' => h' = h) := by
  refine conI (by decide +kernel) ⟨fun _ => rfl, rfl, by simp⟩ (fun X C => ?_)
  change V X (0, 0) w h 0 [some (.ref 0), some (.int x), some (.int y), some (.int v), none] []
  refine v_aload_n C (oX8_edge.at 0 rfl) rfl ?_
  refine v_iload_n C (oX8_edge.at 1 rfl) rfl ?_
  exact v_callVT C (oX8_edge.at 2 rfl) cX8_274 hP.ob (k_needNodeX hP.ob hP.ru.ro hx) rfl rfl rfl rfl rfl (fun h' hp => ⟨rfl, hp⟩)
theorem k8_edgeS {w : Wt} {G h : Hp} {S Z : Sc} {sv : Bool} {F : Sf} {x : Nat} {y v : Int32} (hP : PA G h S sv Z F) (hx : x < S.1 ^ (S.2.1 - 1)) (hy : ¬ InB y S.1) : ConN mX8_edge 1 (1, 6) w [.ref 0, .int (nI x), .int y, .int v] h (.inr EIOO) (fun h' => h' = h) := by
  have hn := hP.sz.n
  refine conI (by decide +kernel) ⟨fun _ => rfl, rfl, by simp⟩ (fun X C => ?_)
  change V X (0, 0) w h 0 [some (.ref 0), some (.int (nI x)), some (.int y), some (.int v), none] []
  refine v_aload_n C (oX8_edge.at 0 rfl) rfl ?_
  refine v_iload_n C (oX8_edge.at 1 rfl) rfl ?_
  refine v_callV C (oX8_edge.at 2 rfl) cX8_274 hP.ob (k_needNode hP.ob hP.ru.ro (InB.of hx (by omega))) rfl rfl rfl ⟨rfl, rfl⟩ rfl rfl (fun _ => rfl) (fun h' hp => ?_)
  rw [show h' = _ from hp]
  dsimp only [Option.toList, List.cons_append, List.nil_append]
  have thr : V X (0, 0) w h 20 [some (.ref 0), some (.int (nI x)), some (.int y), some (.int v), none] [] := v_throwSW C rfl tIOO sr295 (oX8_edge.at 10 rfl) (oX8_edge.at 11 rfl) (oX8_edge.at 12 rfl) (oX8_edge.at 13 rfl) (oX8_edge.at 14 rfl) rfl rfl ⟨rfl, rfl⟩
  refine v_iload_n C (oX8_edge.at 3 rfl) rfl ?_
  refine v_if_lt C (oX8_edge.at 4 rfl) (tgt := 20) (by decide) (fun hc => ?_) (fun hc => ?_)
  · exact thr
  · refine v_iload_n C (oX8_edge.at 5 rfl) rfl ?_
    refine v_aload_n C (oX8_edge.at 6 rfl) rfl ?_
    refine v_getf C (oX8_edge.at 7 rfl) fX8_10 hP.ob rfl ?_
    refine v_getf C (oX8_edge.at 8 rfl) fX8_104 hP.ru.ro rfl ?_
    refine v_icmp_lt C (oX8_edge.at 9 rfl) (tgt := 31) (by decide) (fun hc => ?_) (fun hc => ?_)
    · exact absurd ⟨by assumption, hc⟩ hy
    · exact thr
theorem k8_edgeB {w : Wt} {G h : Hp} {S Z : Sc} {sv : Bool} {F : Sf} {x y : Nat} {v : Int32} (hP : PA G h S sv Z F) (hx : x < S.1 ^ (S.2.1 - 1)) (hy : y < S.1) (hv : ¬ (v = 0 ∨ v = 1)) : ConN mX8_edge 1 (1, 6) w [.ref 0, .int (nI x), .int (nI y), .int v] h (.inr EIOO) (fun h' => h' = h) := by
  have hn := hP.sz.n
  have hk := hP.sz.k
  refine conI (by decide +kernel) ⟨fun _ => rfl, rfl, by simp⟩ (fun X C => ?_)
  change V X (0, 0) w h 0 [some (.ref 0), some (.int (nI x)), some (.int (nI y)), some (.int v), none] []
  refine v_aload_n C (oX8_edge.at 0 rfl) rfl ?_
  refine v_iload_n C (oX8_edge.at 1 rfl) rfl ?_
  refine v_callV C (oX8_edge.at 2 rfl) cX8_274 hP.ob (k_needNode hP.ob hP.ru.ro (InB.of hx (by omega))) rfl rfl rfl ⟨rfl, rfl⟩ rfl rfl (fun _ => rfl) (fun h' hp => ?_)
  rw [show h' = _ from hp]
  dsimp only [Option.toList, List.cons_append, List.nil_append]
  refine v_iload_n C (oX8_edge.at 3 rfl) rfl ?_
  refine v_if_ltN C (oX8_edge.at 4 rfl) (tgt := 20) (by decide) (by omega) ?_
  refine v_iload_n C (oX8_edge.at 5 rfl) rfl ?_
  refine v_aload_n C (oX8_edge.at 6 rfl) rfl ?_
  refine v_getf C (oX8_edge.at 7 rfl) fX8_10 hP.ob rfl ?_
  refine v_getf C (oX8_edge.at 8 rfl) fX8_104 hP.ru.ro rfl ?_
  refine v_icmp_ltN C (oX8_edge.at 9 rfl) (tgt := 31) (by decide) (by omega) (by omega) (fun hc => ?_) (fun hc => ?_)
  · refine v_iload_n C (oX8_edge.at 15 rfl) rfl ?_
    exact v_callST C (oX8_edge.at 16 rfl) cX8_179 (k_needBitX hv) rfl rfl rfl rfl rfl (fun h' hp => ⟨rfl, hp⟩)
  · exact absurd hc (by omega)
theorem k8_edge {w : Wt} {G h : Hp} {S Z : Sc} {sv : Bool} {F : Sf} {x y : Nat} {v : Int32} (hP : PA G h S sv Z F) (hx : x < S.1 ^ (S.2.1 - 1)) (hy : y < S.1) (hv : v = 0 ∨ v = 1) : ConN mX8_edge 1 (0, 0) w [.ref 0, .int (nI x), .int (nI y), .int v] h (.inl (some (.int (nI (if v = 0 then (x * S.1 + y) % S.1 ^ (S.2.1 - 1) else S.2.2.1 (x * S.1 + y)))))) (fun h' => h' = h) := by
  have hn := hP.sz.n
  have hk := hP.sz.k
  have hm := hP.sz.m
  have hnk := hP.sz.nk
  obtain ⟨f, gg, e, vv, t, a0, a1, a2, a3, a4, -⟩ := id hP.ru
  have h1 : (x + 1) * S.1 ≤ S.1 ^ (S.2.1 - 1) * S.1 := Nat.mul_le_mul_right _ hx
  rw [Nat.add_mul, Nat.one_mul] at h1
  have hi : x * S.1 + y < S.1 ^ S.2.1 := by omega
  refine conI (by decide +kernel) ⟨fun _ => rfl, rfl, by simp⟩ (fun X C => ?_)
  change V X (0, 0) w h 0 [some (.ref 0), some (.int (nI x)), some (.int (nI y)), some (.int v), none] []
  refine v_aload_n C (oX8_edge.at 0 rfl) rfl ?_
  refine v_iload_n C (oX8_edge.at 1 rfl) rfl ?_
  refine v_callV C (oX8_edge.at 2 rfl) cX8_274 hP.ob (k_needNode hP.ob a0 (InB.of hx (by omega))) rfl rfl rfl ⟨rfl, rfl⟩ rfl rfl (fun _ => rfl) (fun h' hp => ?_)
  rw [show h' = _ from hp]
  dsimp only [Option.toList, List.cons_append, List.nil_append]
  refine v_iload_n C (oX8_edge.at 3 rfl) rfl ?_
  refine v_if_ltN C (oX8_edge.at 4 rfl) (tgt := 20) (by decide) (by omega) ?_
  refine v_iload_n C (oX8_edge.at 5 rfl) rfl ?_
  refine v_aload_n C (oX8_edge.at 6 rfl) rfl ?_
  refine v_getf C (oX8_edge.at 7 rfl) fX8_10 hP.ob rfl ?_
  refine v_getf C (oX8_edge.at 8 rfl) fX8_104 a0 rfl ?_
  refine v_icmp_ltN C (oX8_edge.at 9 rfl) (tgt := 31) (by decide) (by omega) (by omega) (fun hc => ?_) (fun hc => ?_)
  · refine v_iload_n C (oX8_edge.at 15 rfl) rfl ?_
    refine v_callS C (oX8_edge.at 16 rfl) cX8_179 (k_needBit hv) rfl rfl rfl ⟨rfl, rfl⟩ rfl rfl (fun _ => rfl) (fun h' hp => ?_)
    rw [show h' = _ from hp]
    dsimp only [Option.toList, List.cons_append, List.nil_append]
    refine v_iload_n C (oX8_edge.at 17 rfl) rfl ?_
    refine v_aload_n C (oX8_edge.at 18 rfl) rfl ?_
    refine v_getf C (oX8_edge.at 19 rfl) fX8_10 hP.ob rfl ?_
    refine v_getf C (oX8_edge.at 20 rfl) fX8_104 a0 rfl ?_
    refine v_imulN C (oX8_edge.at 21 rfl) ?_
    refine v_iload_n C (oX8_edge.at 22 rfl) rfl ?_
    refine v_iaddN C (oX8_edge.at 23 rfl) ?_
    refine v_istore C (oX8_edge.at 24 rfl) rfl ?_
    dsimp only [sto1, sto2, killL]
    refine v_iload_n C (oX8_edge.at 25 rfl) rfl ?_
    refine v_if_ne C (oX8_edge.at 26 rfl) (tgt := 65) (by decide) (fun hc => ?_) (fun hc => ?_)
    · rw [if_neg hc] at C
      refine v_aload_n C (oX8_edge.at 33 rfl) rfl ?_
      refine v_getf C (oX8_edge.at 34 rfl) fX8_10 hP.ob rfl ?_
      refine v_getf C (oX8_edge.at 35 rfl) fX8_124 a0 rfl ?_
      refine v_iload C (oX8_edge.at 36 rfl) rfl ?_
      refine v_iald C (oX8_edge.at 37 rfl) a1 (by decide) rfl (by omega) (a2 _ hi).1 ?_
      exact v_iret C (oX8_edge.at 38 rfl) rfl rfl ⟨Nat.le_refl _, Nat.le_refl _⟩ ⟨rfl, rfl⟩
    · rw [if_pos hc] at C
      refine v_aload_n C (oX8_edge.at 27 rfl) rfl ?_
      refine v_getf C (oX8_edge.at 28 rfl) fX8_10 hP.ob rfl ?_
      refine v_getf C (oX8_edge.at 29 rfl) fX8_297 a0 rfl ?_
      refine v_iload C (oX8_edge.at 30 rfl) rfl ?_
      refine v_iald C (oX8_edge.at 31 rfl) a3 (by decide) rfl (by omega) (a4 _ hi) ?_
      refine v_goto C (oX8_edge.at 32 rfl) (tgt := 75) (by decide) ?_
      exact v_iret C (oX8_edge.at 38 rfl) rfl rfl ⟨Nat.le_refl _, Nat.le_refl _⟩ ⟨rfl, rfl⟩
  · exact absurd hc (by omega)
theorem k8_subsets {w : Wt} {G h : Hp} {S Z : Sc} {sv : Bool} {F : Sf} {e : Nat} (hP : PA G h S sv Z F) (he : Bend S.1 (S.1 ^ (S.2.1 - 1)) S.2.2.1 e) : ConN mX8_subsets 3 (0, 0) w [.ref 0] h (.inl (some (.int (nI e)))) (fun h' => PA G h' S sv Z F) := by
  obtain ⟨fnd, A, hA⟩ := hP.au
  have ke := k_explore (w := w) hP.ru hP.sz hA (by decide) he
  refine conI (by decide +kernel) ⟨fun _ => rfl, rfl, by simp⟩ (fun X C => ?_)
  change V X (0, 0) w h 0 [some (.ref 0)] []
  refine v_aload_n C (oX8_subsets.at 0 rfl) rfl ?_
  refine v_getf C (oX8_subsets.at 1 rfl) fX8_57 hP.ob rfl ?_
  refine v_aload_n C (oX8_subsets.at 2 rfl) rfl ?_
  refine v_getf C (oX8_subsets.at 3 rfl) fX8_10 hP.ob rfl ?_
  refine v_callV C (oX8_subsets.at 4 rfl) cX8_300 hA.1 (ke) rfl rfl rfl ⟨rfl, rfl⟩ rfl rfl (fun _ => rfl) (fun h' hp => ?_)
  dsimp only [Option.toList, List.cons_append, List.nil_append]
  obtain ⟨⟨A', hA', -⟩, hfr⟩ := hp
  have hP1 : PA G h' S sv Z F := hP.set_au (fun j hj => hfr j (by omega)) ⟨e, A', hA'⟩
  refine v_aload_n C (oX8_subsets.at 5 rfl) rfl ?_
  refine v_getf C (oX8_subsets.at 6 rfl) fX8_57 hP1.ob rfl ?_
  refine v_getf C (oX8_subsets.at 7 rfl) fX8_304 hA'.1 rfl ?_
  exact v_iret C (oX8_subsets.at 8 rfl) rfl rfl ⟨Nat.le_refl _, Nat.le_refl _⟩ ⟨rfl, hP1⟩
theorem k8_fixedWordsX {w : Wt} {h : Hp} {x : Int32} (hx : ¬ (¬ x < nI 1 ∧ x ≤ nI 8)) : ConN mX8_fixedWords 1 (1, 6) w [.ref 0, .int x] h (.inr EIAE) (fun h' => h' = h) := by
  refine conI (by decide +kernel) ⟨fun _ => rfl, rfl, by simp⟩ (fun X C => ?_)
  change V X (0, 0) w h 0 [some (.ref 0), some (.int x)] []
  refine v_iload_n C (oX8_fixedWords.at 0 rfl) rfl ?_
  refine v_iconst C (oX8_fixedWords.at 1 rfl) (v := nI 1) rfl ?_
  refine v_bipush C (oX8_fixedWords.at 2 rfl) (v := nI 8) rfl ?_
  exact v_callST C (oX8_fixedWords.at 3 rfl) cX8_280 (k_needLengthX hx) rfl rfl rfl rfl rfl (fun h' hp => ⟨rfl, hp⟩)
