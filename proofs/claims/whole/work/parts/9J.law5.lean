/-! ===== the law, from its entry ===== -/
theorem df8 : ∀ j, j < 13 → defaultValue (tyC 8 j) = vp_V dv8 j
  | 0, _ => by decide +kernel
  | 1, _ => by decide +kernel
  | 2, _ => by decide +kernel
  | 3, _ => by decide +kernel
  | 4, _ => by decide +kernel
  | 5, _ => by decide +kernel
  | 6, _ => by decide +kernel
  | 7, _ => by decide +kernel
  | 8, _ => by decide +kernel
  | 9, _ => by decide +kernel
  | 10, _ => by decide +kernel
  | 11, _ => by decide +kernel
  | 12, _ => by decide +kernel
  | j + 13, h => absurd h (by omega)
theorem dr8 : ∀ v ∈ dv8, ∀ a, v ≠ .ref a := by intro v hv a e; subst e; simp [dv8] at hv
theorem df9 : ∀ j, j < 42 → defaultValue (tyC 9 j) = vp_V dv9 j
  | 0, _ => by decide +kernel
  | 1, _ => by decide +kernel
  | 2, _ => by decide +kernel
  | 3, _ => by decide +kernel
  | 4, _ => by decide +kernel
  | 5, _ => by decide +kernel
  | 6, _ => by decide +kernel
  | 7, _ => by decide +kernel
  | 8, _ => by decide +kernel
  | 9, _ => by decide +kernel
  | 10, _ => by decide +kernel
  | 11, _ => by decide +kernel
  | 12, _ => by decide +kernel
  | 13, _ => by decide +kernel
  | 14, _ => by decide +kernel
  | 15, _ => by decide +kernel
  | 16, _ => by decide +kernel
  | 17, _ => by decide +kernel
  | 18, _ => by decide +kernel
  | 19, _ => by decide +kernel
  | 20, _ => by decide +kernel
  | 21, _ => by decide +kernel
  | 22, _ => by decide +kernel
  | 23, _ => by decide +kernel
  | 24, _ => by decide +kernel
  | 25, _ => by decide +kernel
  | 26, _ => by decide +kernel
  | 27, _ => by decide +kernel
  | 28, _ => by decide +kernel
  | 29, _ => by decide +kernel
  | 30, _ => by decide +kernel
  | 31, _ => by decide +kernel
  | 32, _ => by decide +kernel
  | 33, _ => by decide +kernel
  | 34, _ => by decide +kernel
  | 35, _ => by decide +kernel
  | 36, _ => by decide +kernel
  | 37, _ => by decide +kernel
  | 38, _ => by decide +kernel
  | 39, _ => by decide +kernel
  | 40, _ => by decide +kernel
  | 41, _ => by decide +kernel
  | j + 42, h => absurd h (by omega)
theorem dr9 : ∀ v ∈ dv9, ∀ a, v ≠ .ref a := by intro v hv a e; subst e; simp [dv9] at hv
def u9 (i : Nat) : Int32 := if i = 1 then nI 2 else if i = 2 then nI 3 else if i = 14 then -1 else 0
theorem rf_start {h h2 h3 : Hp} {o0 : PE} (p : h2 = hu (mkL (hu h 62 o0) (62 + 1) [io 27 (fun _ => 0), io 4 (fun _ => 0), io 4 (fun _ => 0), io 27 (fun _ => 0), io 4 (fun _ => 0), io 4 (fun _ => 0), io 40 (fun _ => 0), io 27 (fun _ => 0), io 27 (fun _ => 0), io 40 (fun _ => 0), io 41 (fun _ => 0), io 40 (fun _ => 0), io 6561 (fun _ => 0), io 144 (fun _ => 0), io 9 (fun _ => 0), io 9 (fun _ => 0), io 512 (fun _ => 0), io 512 (fun _ => 0), io 512 (fun _ => 0), io 512 (fun _ => 0), zo 512 (fun _ => 0), io 512 (fun _ => 0), io 512 (fun _ => 0), zo 6561 (fun _ => 0), io 243 (fun _ => 0)]) 62 (.inr (9, [.int 0, .int (nI 2), .int (nI 3), .ref (62 + 1), .ref (62 + 2), .ref (62 + 3), .int 0, .int 0, .ref (62 + 4), .ref (62 + 5), .ref (62 + 6), .ref (62 + 7), .int 0, .int 0, .int (-1), .ref (62 + 8), .ref (62 + 9), .ref (62 + 10), .ref (62 + 11), .int 0, .int 0, .int 0, .int 0, .ref (62 + 12), .int 0, .ref (62 + 13), .ref (62 + 14), .ref (62 + 15), .ref (62 + 16), .ref (62 + 17), .ref (62 + 18), .ref (62 + 19), .ref (62 + 20), .ref (62 + 21), .int 0, .int 0, .ref (62 + 22), .ref (62 + 23), .ref (62 + 24), .ref (62 + 25), .int 0, .int 0]))) (e : ∀ j, j ≠ 88 → h3 j = h2 j) : RF h3 h3 0 (newS 2 3) false (newS 2 3) (0, 0, -1, fun _ => 0) := by
  refine ⟨⟨u9, (e 62 (by decide)).trans (mk_ob p), rfl, rfl, rfl, rfl, fun h => (by cases h), rfl, rfl, rfl⟩, ⟨fun _ => 0, ((e 63 (by decide)).trans (mk_at p 0 rfl)), fun i _ => ⟨rfl, Nat.zero_lt_succ 1⟩⟩, ⟨fun _ => 0, ((e 64 (by decide)).trans (mk_at p 1 rfl)), fun _ _ => rfl⟩, ⟨fun _ => 0, ((e 65 (by decide)).trans (mk_at p 2 rfl)), fun _ _ => rfl⟩, ⟨fun _ => 0, ((e 66 (by decide)).trans (mk_at p 3 rfl)), fun h => (by cases h)⟩, ⟨fun _ => 0, ((e 67 (by decide)).trans (mk_at p 4 rfl)), fun h => (by cases h)⟩, ⟨fun _ => 0, ((e 68 (by decide)).trans (mk_at p 5 rfl)), fun h => (by cases h)⟩, ⟨fun _ => 0, ((e 69 (by decide)).trans (mk_at p 6 rfl)), fun i hi => absurd hi (Nat.not_lt_zero i)⟩, ⟨fun i hi => ?_, ⟨fun _ => 0, ((e 83 (by decide)).trans (mk_at p 20 rfl))⟩, ⟨fun _ => 0, ((e 86 (by decide)).trans (mk_at p 23 rfl))⟩⟩, newS_ok (.inl ⟨rfl, by decide, by decide⟩), newS_ok (.inl ⟨rfl, by decide, by decide⟩), ⟨by decide, fun i hi => absurd hi (Nat.not_lt_zero i), by decide⟩, fun _ _ => rfl⟩
  have hi2 : i = 70 ∨ i = 71 ∨ i = 72 ∨ i = 73 ∨ i = 74 ∨ i = 75 ∨ i = 76 ∨ i = 77 ∨ i = 78 ∨ i = 79 ∨ i = 80 ∨ i = 81 ∨ i = 82 ∨ i = 84 ∨ i = 85 ∨ i = 87 := by unfold mIn at hi; omega
  rcases hi2 with rfl | rfl | rfl | rfl | rfl | rfl | rfl | rfl | rfl | rfl | rfl | rfl | rfl | rfl | rfl | rfl
  · exact ⟨fun _ => 0, ((e 70 (by decide)).trans (mk_at p 7 rfl))⟩
  · exact ⟨fun _ => 0, ((e 71 (by decide)).trans (mk_at p 8 rfl))⟩
  · exact ⟨fun _ => 0, ((e 72 (by decide)).trans (mk_at p 9 rfl))⟩
  · exact ⟨fun _ => 0, ((e 73 (by decide)).trans (mk_at p 10 rfl))⟩
  · exact ⟨fun _ => 0, ((e 74 (by decide)).trans (mk_at p 11 rfl))⟩
  · exact ⟨fun _ => 0, ((e 75 (by decide)).trans (mk_at p 12 rfl))⟩
  · exact ⟨fun _ => 0, ((e 76 (by decide)).trans (mk_at p 13 rfl))⟩
  · exact ⟨fun _ => 0, ((e 77 (by decide)).trans (mk_at p 14 rfl))⟩
  · exact ⟨fun _ => 0, ((e 78 (by decide)).trans (mk_at p 15 rfl))⟩
  · exact ⟨fun _ => 0, ((e 79 (by decide)).trans (mk_at p 16 rfl))⟩
  · exact ⟨fun _ => 0, ((e 80 (by decide)).trans (mk_at p 17 rfl))⟩
  · exact ⟨fun _ => 0, ((e 81 (by decide)).trans (mk_at p 18 rfl))⟩
  · exact ⟨fun _ => 0, ((e 82 (by decide)).trans (mk_at p 19 rfl))⟩
  · exact ⟨fun _ => 0, ((e 84 (by decide)).trans (mk_at p 21 rfl))⟩
  · exact ⟨fun _ => 0, ((e 85 (by decide)).trans (mk_at p 22 rfl))⟩
  · exact ⟨fun _ => 0, ((e 87 (by decide)).trans (mk_at p 24 rfl))⟩
theorem SC.eq {X : CT} {w w' : Wt} {N : Nat} {xs : Nat → Int32} (h : SC X w N xs) (e : w'.1 1000 = w.1 1000) : SC X w' N xs := by
  rcases X with ⟨p, l, e', R, s, m, args, below, meth, c, G, B, Q⟩
  show va_X (w'.1 1000) N xs s s.heap ∧ w'.1 1000 < s.heap.size ∧ ¬ AB B (w'.1 1000)
  rw [e]
  exact h
theorem law_start {X : CT} (C : Cx X mL_law [] 10 zL (.inl (some (.int (bI true)))) (fun _ _ => True)) {w : Wt} {h : Hp} {N : Nat} {xs : Nat → Int32} (hw : w.2 = 0) (hs : SC X w N xs) (hN : N ≤ 2560) : V X (0, 0) w h 0 [some (.ref 1000), none, none, none, none, none, none, none] [] := by
  refine v_newO C dL_law_0 (ci := 8) rfl (tj1 32 (by rfl) rfl) (tj1 33 (by rfl) rfl) (tj1 1 (by rfl) rfl) df8 dr8 ⟨by decide, by decide⟩ (fun v hv => ?_) (fun v hv => by cases hv) (fun a => ?_)
  · simp at hv; subst hv; show 1000 ≠ w.2; omega
  have x0 := wx_WX w a
  obtain ⟨w0, g0⟩ : ∃ z, z = wx w a := ⟨_, rfl⟩
  rw [← g0] at x0 ⊢
  have hw0 : w0.2 = 1 := by rw [x0.1, hw]
  rw [hw]
  refine v_dup C dL_law_3 rfl ?_
  refine v_callI C dL_law_4 kX8_init iX8_init (tj1 34 (by rfl) rfl) (k8_init hw0 (hu_s _ _ _)) rfl ⟨by decide, by decide⟩ rfl rfl (fun v hv => ?_) (fun v hv => ?_) (fun w1 h1 x1 p1 => ?_)
  · simp at hv; subst hv; exact .inr (show w0.2 + 61 ≤ 1000 by omega)
  · simp at hv; subst hv; exact .inl (show 0 < w0.2 by omega)
  have hw1 : w1.2 = 62 := by rw [x1.1, hw0]
  refine v_astore_n C dL_law_7 rfl ?_
  dsimp only [sto1, sto2, killL]
  refine v_newO C dL_law_8 (ci := 9) rfl (tj6 143 (by rfl) rfl) (tj6 144 (by rfl) rfl) (tj1 10 (by rfl) rfl) df9 dr9 ⟨by decide, by decide⟩ (fun v hv => ?_) (fun v hv => by cases hv) (fun a1 => ?_)
  · simp at hv
    rcases hv with hv | hv <;> subst hv
    · show 1000 ≠ w1.2; omega
    · show 0 ≠ w1.2; omega
  have x2 := wx_WX w1 a1
  obtain ⟨w2, g2⟩ : ∃ z, z = wx w1 a1 := ⟨_, rfl⟩
  rw [← g2] at x2 ⊢
  have hw2 : w2.2 = 62 + 1 := by rw [x2.1, hw1]
  rw [hw1]
  refine v_dup C dL_law_11 rfl ?_
  refine v_callI C dL_law_12 kX9_init iX9_init (tj6 145 (by rfl) rfl) (k9_init (q := 62) hw2 (hu_s _ _ _)) rfl ⟨by decide, by decide⟩ rfl rfl (fun v hv => ?_) (fun v hv => ?_) (fun w3 h3 x3 p3 => ?_)
  · simp at hv
    rcases hv with hv | hv <;> subst hv
    · exact .inr (show w2.2 + 25 ≤ 1000 by omega)
    · exact .inl (show 0 < w2.2 by omega)
  · simp at hv; subst hv; exact .inl (show 62 < w2.2 by omega)
  have hw3 : w3.2 = 88 := by rw [x3.1, hw2]
  refine v_astore_n C dL_law_15 rfl ?_
  dsimp only [sto1, sto2, killL]
  refine v_iconst C dL_law_16 (v := nI 1) rfl ?_
  refine v_newaJ C dL_law_17 (by decide) ⟨by decide, by decide⟩ (fun v hv => ?_) (fun v hv => by cases hv) (fun a3 => ?_)
  · simp at hv
    rcases hv with hv | hv | hv <;> subst hv
    · show 1000 ≠ w3.2; omega
    · show 0 ≠ w3.2; omega
    · show 62 ≠ w3.2; omega
  have x4 := wx_WX w3 a3
  obtain ⟨w4, g4⟩ : ∃ z, z = wx w3 a3 := ⟨_, rfl⟩
  rw [← g4] at x4 ⊢
  rw [hw3]
  refine v_astore_n C dL_law_19 rfl ?_
  refine v_iconst C dL_law_20 (v := nI 0) rfl ?_
  refine v_istore C dL_law_21 rfl ?_
  dsimp only [sto1, sto2, killL]
  have e4 : w4.1 1000 = w.1 1000 := by
    rw [x4.2 1000 (.inr (by omega)), x3.2 1000 (.inr (by omega)), x2.2 1000 (.inr (by omega)), x1.2 1000 (.inr (by omega)), x0.2 1000 (.inr (by omega))]
  have e5 : ∀ j, j ≠ 88 → hu h3 88 (jo 1 (fun _ => 0)) j = h3 j := fun j hj => hu_n _ _ hj
  refine law_loop C (hs.eq e4) hN (fun _ => trivial) 512 0 _ _ (newS 2 3) false (newS 2 3) (0, 0, -1, fun _ => 0) (by omega) (by decide) ⟨by decide, by decide⟩ ⟨p1.top (fun j hj => (e5 j (by omega)).trans (mk_fr p3 rfl j (.inl (by omega)))), ⟨0, rf_start p3 e5⟩, _, hu_s _ _ _⟩
