/-! ===== the reference: its object, small methods ===== -/
abbrev MO (u : Nat → Int32) : PE := ob 9 [.int (u 0), .int (u 1), .int (u 2), .ref 63, .ref 64, .ref 65, .int (u 6), .int (u 7), .ref 66, .ref 67, .ref 68, .ref 69, .int (u 12), .int (u 13), .int (u 14), .ref 70, .ref 71, .ref 72, .ref 73, .int (u 19), .int (u 20), .int (u 21), .int (u 22), .ref 74, .int (u 24), .ref 75, .ref 76, .ref 77, .ref 78, .ref 79, .ref 80, .ref 81, .ref 82, .ref 83, .int (u 34), .int (u 35), .ref 84, .ref 85, .ref 86, .ref 87, .int (u 40), .int (u 41)]
theorem k_isIn {w : Wt} {h : Hp} {x a b : Int32} : ConN mX9_isIn 0 (0, 0) w [.int x, .int a, .int b] h (.inl (some (.int (bI (decide (¬ x < a ∧ ¬ b < x)))))) (fun h' => h' = h) := by
  refine conI (by decide +kernel) ⟨fun _ => rfl, rfl, by simp⟩ (fun X C => ?_)
  change V X (0, 0) w h 0 [some (.int x), some (.int a), some (.int b)] []
  refine v_iload_n C (oX9_isIn.at 0 rfl) rfl ?_
  refine v_iload_n C (oX9_isIn.at 1 rfl) rfl ?_
  refine v_icmp_lt C (oX9_isIn.at 2 rfl) (tgt := 14) (by decide) (fun hc => ?_) (fun hc => ?_)
  · rw [decide_eq_false (fun z => z.1 hc)] at C
    refine v_iconst C (oX9_isIn.at 8 rfl) (v := nI 0) rfl ?_
    exact v_zret0 C (oX9_isIn.at 9 rfl) rfl rfl ⟨Nat.le_refl _, Nat.le_refl _⟩ ⟨rfl, rfl⟩
  · have hc1 := hc
    refine v_iload_n C (oX9_isIn.at 3 rfl) rfl ?_
    refine v_iload_n C (oX9_isIn.at 4 rfl) rfl ?_
    refine v_icmp_gt C (oX9_isIn.at 5 rfl) (tgt := 14) (by decide) (fun hc => ?_) (fun hc => ?_)
    · rw [decide_eq_false (fun z => z.2 hc)] at C
      refine v_iconst C (oX9_isIn.at 8 rfl) (v := nI 0) rfl ?_
      exact v_zret0 C (oX9_isIn.at 9 rfl) rfl rfl ⟨Nat.le_refl _, Nat.le_refl _⟩ ⟨rfl, rfl⟩
    · rw [decide_eq_true ⟨hc1, hc⟩] at C
      refine v_iconst C (oX9_isIn.at 6 rfl) (v := nI 1) rfl ?_
      refine v_goto C (oX9_isIn.at 7 rfl) (tgt := 15) (by decide) ?_
      exact v_zret1 C (oX9_isIn.at 9 rfl) rfl rfl ⟨Nat.le_refl _, Nat.le_refl _⟩ ⟨rfl, rfl⟩
theorem k9_thrown {w : Wt} {h : Hp} {u : Nat → Int32} (ho : h 62 = MO u) : ConN mX9_thrown 0 (0, 0) w [.ref 62] h (.inl (some (.int (u 0)))) (fun h' => h' = h) := by
  refine conI (by decide +kernel) ⟨fun _ => rfl, rfl, by simp⟩ (fun X C => ?_)
  change V X (0, 0) w h 0 [some (.ref 62)] []
  refine v_aload_n C (oX9_thrown.at 0 rfl) rfl ?_
  refine v_getf C (oX9_thrown.at 1 rfl) fX9_96 ho rfl ?_
  exact v_iret C (oX9_thrown.at 2 rfl) rfl rfl ⟨Nat.le_refl _, Nat.le_refl _⟩ ⟨rfl, rfl⟩
theorem k9_no {w : Wt} {h : Hp} {u : Nat → Int32} {x : Int32} (ho : h 62 = MO u) : ConN mX9_no 0 (0, 0) w [.ref 62, .int x] h (.inl (some (.int (nI 0)))) (fun h' => h' = hu h 62 (MO (upd u 0 x))) := by
  refine conI (by decide +kernel) ⟨fun _ => rfl, rfl, by simp⟩ (fun X C => ?_)
  change V X (0, 0) w h 0 [some (.ref 62), some (.int x)] []
  refine v_aload_n C (oX9_no.at 0 rfl) rfl ?_
  refine v_iload_n C (oX9_no.at 1 rfl) rfl ?_
  refine v_putI C (oX9_no.at 2 rfl) fX9_96 p9_0 ho rfl ?_
  refine v_iconst C (oX9_no.at 3 rfl) (v := nI 0) rfl ?_
  exact v_iret C (oX9_no.at 4 rfl) rfl rfl ⟨Nat.le_refl _, Nat.le_refl _⟩ ⟨rfl, rfl⟩
theorem k9_power {w : Wt} {h : Hp} {u : Nat → Int32} {k n : Nat} (ho : h 62 = MO u) (hk : u 1 = nI k) (hn : n < 2 ^ 31) : ConN mX9_power 0 (0, 0) w [.ref 62, .int (nI n)] h (.inl (some (.int (nI (k ^ n))))) (fun h' => h' = h) := by
  refine conI (by decide +kernel) ⟨fun _ => rfl, rfl, by simp⟩ (fun X C => ?_)
  change V X (0, 0) w h 0 [some (.ref 62), some (.int (nI n)), none, none] []
  refine v_iconst C (oX9_power.at 0 rfl) (v := nI 1) rfl ?_
  refine v_istore_n C (oX9_power.at 1 rfl) rfl ?_
  refine v_iconst C (oX9_power.at 2 rfl) (v := nI 0) rfl ?_
  refine v_istore_n C (oX9_power.at 3 rfl) rfl ?_
  dsimp only [sto1, sto2, killL]
  suffices H : ∀ d i, i + d = n → V X (0, 0) w h 4 [some (.ref 62), some (.int (nI n)), some (.int (nI (k ^ i))), some (.int (nI i))] [] from H n 0 (by omega)
  intro d
  induction d with
  | zero =>
    intro i hi
    obtain rfl : i = n := by omega
    refine v_iload_n C (oX9_power.at 4 rfl) rfl ?_
    refine v_iload_n C (oX9_power.at 5 rfl) rfl ?_
    refine v_icmp_geN C (oX9_power.at 6 rfl) (tgt := 22) (by decide) (by omega) (by omega) (fun hc => ?_) (fun hc => ?_)
    · refine v_iload_n C (oX9_power.at 14 rfl) rfl ?_
      exact v_iret C (oX9_power.at 15 rfl) rfl rfl ⟨Nat.le_refl _, Nat.le_refl _⟩ ⟨rfl, rfl⟩
    · exact absurd hc (by omega)
  | succ d ih =>
    intro i hi
    refine v_iload_n C (oX9_power.at 4 rfl) rfl ?_
    refine v_iload_n C (oX9_power.at 5 rfl) rfl ?_
    refine v_icmp_geN C (oX9_power.at 6 rfl) (tgt := 22) (by decide) (by omega) (by omega) (fun hc => ?_) (fun hc => ?_)
    · exact absurd hc (by omega)
    · refine v_iload_n C (oX9_power.at 7 rfl) rfl ?_
      refine v_aload_n C (oX9_power.at 8 rfl) rfl ?_
      refine v_getf C (oX9_power.at 9 rfl) fX9_7 ho rfl ?_
      rw [hk]
      refine v_imulN C (oX9_power.at 10 rfl) ?_
      refine v_istore_n C (oX9_power.at 11 rfl) rfl ?_
      refine v_iincN C (oX9_power.at 12 rfl) rfl ?_
      refine v_goto C (oX9_power.at 13 rfl) (tgt := 4) (by decide) ?_
      dsimp only [sto1, sto2, killL]
      have := ih (i + 1) (by omega)
      rw [Nat.pow_succ] at this
      exact this
theorem k9_all {w : Wt} {h : Hp} {u : Nat → Int32} {k wd : Nat} (ho : h 62 = MO u) (hk : u 1 = nI k) (hw : u 2 = nI wd) (hwd : wd < 2 ^ 31) : ConN mX9_all 1 (0, 0) w [.ref 62] h (.inl (some (.int (nI (k ^ wd))))) (fun h' => h' = h) := by
  refine conI (by decide +kernel) ⟨fun _ => rfl, rfl, by simp⟩ (fun X C => ?_)
  change V X (0, 0) w h 0 [some (.ref 62)] []
  refine v_aload_n C (oX9_all.at 0 rfl) rfl ?_
  refine v_aload_n C (oX9_all.at 1 rfl) rfl ?_
  refine v_getf C (oX9_all.at 2 rfl) fX9_13 ho rfl ?_
  rw [hw]
  refine v_callV C (oX9_all.at 3 rfl) cX9_99 ho (k9_power ho hk hwd) rfl rfl rfl ⟨rfl, rfl⟩ rfl rfl (fun _ => rfl) (fun h' hp => ?_)
  rw [show h' = _ from hp]
  dsimp only [Option.toList, List.cons_append, List.nil_append]
  exact v_iret C (oX9_all.at 4 rfl) rfl rfl ⟨Nat.le_refl _, Nat.le_refl _⟩ ⟨rfl, rfl⟩
theorem k9_nodes {w : Wt} {h : Hp} {u : Nat → Int32} {k wd : Nat} (ho : h 62 = MO u) (hk : u 1 = nI k) (hw : u 2 = nI wd) (hwd : wd < 2 ^ 31) (hw1 : 1 ≤ wd) : ConN mX9_nodes 1 (0, 0) w [.ref 62] h (.inl (some (.int (nI (k ^ (wd - 1)))))) (fun h' => h' = h) := by
  refine conI (by decide +kernel) ⟨fun _ => rfl, rfl, by simp⟩ (fun X C => ?_)
  change V X (0, 0) w h 0 [some (.ref 62)] []
  refine v_aload_n C (oX9_nodes.at 0 rfl) rfl ?_
  refine v_aload_n C (oX9_nodes.at 1 rfl) rfl ?_
  refine v_getf C (oX9_nodes.at 2 rfl) fX9_13 ho rfl ?_
  rw [hw]
  refine v_iconst C (oX9_nodes.at 3 rfl) (v := nI 1) rfl ?_
  refine v_isubN C (oX9_nodes.at 4 rfl) (by omega) ?_
  refine v_callV C (oX9_nodes.at 5 rfl) cX9_99 ho (k9_power ho hk (by omega)) rfl rfl rfl ⟨rfl, rfl⟩ rfl rfl (fun _ => rfl) (fun h' hp => ?_)
  rw [show h' = _ from hp]
  dsimp only [Option.toList, List.cons_append, List.nil_append]
  exact v_iret C (oX9_nodes.at 6 rfl) rfl rfl ⟨Nat.le_refl _, Nat.le_refl _⟩ ⟨rfl, rfl⟩
theorem k9_goal {w : Wt} {h : Hp} {u : Nat → Int32} {k wd v s : Nat} (ho : h 62 = MO u) (hk : u 1 = nI k) (hw : u 2 = nI wd) (hs : SZ k wd) (hv : v < 2 ^ 31) : ConN mX9_goal 1 (0, 0) w [.ref 62, .int (nI v), .int (nI s)] h (.inl (some (.int (nI (v % k ^ (wd - 2) * k + s))))) (fun h' => h' = h) := by
  have hk2 := hs.k
  have hw2 := hs.w
  have hp0 : 0 < k ^ (wd - 2) := Nat.pow_pos (by omega)
  have hp1 : k ^ (wd - 2) ≤ k ^ wd := Nat.pow_le_pow_right (by omega) (by omega)
  have hm := hs.m
  refine conI (by decide +kernel) ⟨fun _ => rfl, rfl, by simp⟩ (fun X C => ?_)
  change V X (0, 0) w h 0 [some (.ref 62), some (.int (nI v)), some (.int (nI s))] []
  refine v_iload_n C (oX9_goal.at 0 rfl) rfl ?_
  refine v_aload_n C (oX9_goal.at 1 rfl) rfl ?_
  refine v_aload_n C (oX9_goal.at 2 rfl) rfl ?_
  refine v_getf C (oX9_goal.at 3 rfl) fX9_13 ho rfl ?_
  rw [hw]
  refine v_iconst C (oX9_goal.at 4 rfl) (v := nI 2) rfl ?_
  refine v_isubN C (oX9_goal.at 5 rfl) (by omega) ?_
  refine v_callV C (oX9_goal.at 6 rfl) cX9_99 ho (k9_power ho hk (by omega)) rfl rfl rfl ⟨rfl, rfl⟩ rfl rfl (fun _ => rfl) (fun h' hp => ?_)
  rw [show h' = _ from hp]
  dsimp only [Option.toList, List.cons_append, List.nil_append]
  refine v_iremN C (oX9_goal.at 7 rfl) (by omega) (by omega) (by omega) ?_
  refine v_aload_n C (oX9_goal.at 8 rfl) rfl ?_
  refine v_getf C (oX9_goal.at 9 rfl) fX9_7 ho rfl ?_
  rw [hk]
  refine v_imulN C (oX9_goal.at 10 rfl) ?_
  refine v_iload_n C (oX9_goal.at 11 rfl) rfl ?_
  refine v_iaddN C (oX9_goal.at 12 rfl) ?_
  exact v_iret C (oX9_goal.at 13 rfl) rfl rfl ⟨Nat.le_refl _, Nat.le_refl _⟩ ⟨rfl, rfl⟩
theorem k9_label {w : Wt} {h : Hp} {u : Nat → Int32} {k wd v s : Nat} {T : Nat → Nat} {f : Nat → Int32} (ho : h 62 = MO u) (hk : u 1 = nI k) (ht : h 63 = io 27 f) (hT : f (v * k + s) = nI (T (v * k + s))) (hi : v * k + s < 27) : ConN mX9_label 0 (0, 0) w [.ref 62, .int (nI v), .int (nI s)] h (.inl (some (.int (nI (T (v * k + s)))))) (fun h' => h' = h) := by
  refine conI (by decide +kernel) ⟨fun _ => rfl, rfl, by simp⟩ (fun X C => ?_)
  change V X (0, 0) w h 0 [some (.ref 62), some (.int (nI v)), some (.int (nI s))] []
  refine v_aload_n C (oX9_label.at 0 rfl) rfl ?_
  refine v_getf C (oX9_label.at 1 rfl) fX9_16 ho rfl ?_
  refine v_iload_n C (oX9_label.at 2 rfl) rfl ?_
  refine v_aload_n C (oX9_label.at 3 rfl) rfl ?_
  refine v_getf C (oX9_label.at 4 rfl) fX9_7 ho rfl ?_
  rw [hk]
  refine v_imulN C (oX9_label.at 5 rfl) ?_
  refine v_iload_n C (oX9_label.at 6 rfl) rfl ?_
  refine v_iaddN C (oX9_label.at 7 rfl) ?_
  refine v_iald C (oX9_label.at 8 rfl) ht (by decide) rfl hi hT ?_
  exact v_iret C (oX9_label.at 9 rfl) rfl rfl ⟨Nat.le_refl _, Nat.le_refl _⟩ ⟨rfl, rfl⟩
