/-! ===== the reference: the search of sets ===== -/
theorem k9_reach1 {w : Wt} {h : Hp} {u : Nat → Int32} {q : Nat} {a b c : Int32} {z : Nat → Int32} (ho : h 62 = MO u) (hz : h 83 = zo 512 z) (hq : q < 512) (hv : z q = bI true) : ConN mX9_reaches 0 (0, 0) w [.ref 62, .int (nI q), .int a, .int b, .int c] h (.inl none) (fun h' => h' = h) := by
  refine conI (by decide +kernel) ⟨fun _ => rfl, rfl, by simp⟩ (fun X C => ?_)
  change V X (0, 0) w h 0 [some (.ref 62), some (.int (nI q)), some (.int a), some (.int b), some (.int c)] []
  refine v_aload_n C (oX9_reaches.at 0 rfl) rfl ?_
  refine v_getf C (oX9_reaches.at 1 rfl) fX9_80 ho rfl ?_
  refine v_iload_n C (oX9_reaches.at 2 rfl) rfl ?_
  refine v_zald C (oX9_reaches.at 3 rfl) hz (by decide) rfl (by omega) hv ?_
  refine v_if_eqB C (oX9_reaches.at 4 rfl) (tgt := 10) (by decide) (fun hc => ?_) (fun hc => ?_)
  · cases hc
  · exact v_vret C (oX9_reaches.at 5 rfl) rfl rfl ⟨Nat.le_refl _, Nat.le_refl _⟩ ⟨rfl, rfl⟩
theorem k9_reach2 {w : Wt} {h : Hp} {u : Nat → Int32} {q N : Nat} {a b c : Int32} {z r cf cb fa : Nat → Int32} (ho : h 62 = MO u) (hN : u 34 = nI N) (hN5 : N < 512) (h79 : h 79 = io 512 r) (h80 : h 80 = io 512 cf) (h81 : h 81 = io 512 cb) (h82 : h 82 = io 512 fa) (hz : h 83 = zo 512 z) (hq : q < 512) (hv : z q = bI false) : ConN mX9_reaches 0 (0, 0) w [.ref 62, .int (nI q), .int a, .int b, .int c] h (.inl none) (fun h' => ∃ u', h' 62 = MO u' ∧ u' 34 = nI (N + 1) ∧ u' 35 = (if q = 0 then nI N else u 35) ∧ (∀ i, i ≠ 34 → i ≠ 35 → u' i = u i) ∧ h' 79 = io 512 (upd r N (nI q)) ∧ h' 80 = io 512 (upd cf N a) ∧ h' 81 = io 512 (upd cb N b) ∧ h' 82 = io 512 (upd fa N c) ∧ h' 83 = zo 512 (upd z q (bI true)) ∧ ∀ j, j ≠ 62 → (j < 79 ∨ 83 < j) → h' j = h j) := by
  refine conI (by decide +kernel) ⟨fun _ => rfl, rfl, by simp⟩ (fun X C => ?_)
  change V X (0, 0) w h 0 [some (.ref 62), some (.int (nI q)), some (.int a), some (.int b), some (.int c)] []
  refine v_aload_n C (oX9_reaches.at 0 rfl) rfl ?_
  refine v_getf C (oX9_reaches.at 1 rfl) fX9_80 ho rfl ?_
  refine v_iload_n C (oX9_reaches.at 2 rfl) rfl ?_
  refine v_zald C (oX9_reaches.at 3 rfl) hz (by decide) rfl (by omega) hv ?_
  refine v_if_eqB C (oX9_reaches.at 4 rfl) (tgt := 10) (by decide) (fun hc => ?_) (fun hc => ?_)
  · refine v_aload_n C (oX9_reaches.at 6 rfl) rfl ?_
    refine v_getf C (oX9_reaches.at 7 rfl) fX9_80 ho rfl ?_
    refine v_iload_n C (oX9_reaches.at 8 rfl) rfl ?_
    refine v_iconst C (oX9_reaches.at 9 rfl) (v := bI true) rfl ?_
    refine v_zast C (oX9_reaches.at 10 rfl) hz (by decide) rfl hq ?_
    refine v_aload_n C (oX9_reaches.at 11 rfl) rfl ?_
    refine v_getf C (oX9_reaches.at 12 rfl) fX9_68 ((hu_n _ _ (by decide)).trans ho) rfl ?_
    refine v_aload_n C (oX9_reaches.at 13 rfl) rfl ?_
    refine v_getf C (oX9_reaches.at 14 rfl) fX9_246 ((hu_n _ _ (by decide)).trans ho) (congrArg (fun z => some (Value.int z)) (hN)) ?_
    refine v_iload_n C (oX9_reaches.at 15 rfl) rfl ?_
    refine v_iast C (oX9_reaches.at 16 rfl) ((hu_n _ _ (by decide)).trans h79) (by decide) rfl (by omega) ?_
    refine v_aload_n C (oX9_reaches.at 17 rfl) rfl ?_
    refine v_getf C (oX9_reaches.at 18 rfl) fX9_71 ((hu_n _ _ (by decide)).trans ((hu_n _ _ (by decide)).trans ho)) rfl ?_
    refine v_aload_n C (oX9_reaches.at 19 rfl) rfl ?_
    refine v_getf C (oX9_reaches.at 20 rfl) fX9_246 ((hu_n _ _ (by decide)).trans ((hu_n _ _ (by decide)).trans ho)) (congrArg (fun z => some (Value.int z)) (hN)) ?_
    refine v_iload_n C (oX9_reaches.at 21 rfl) rfl ?_
    refine v_iast C (oX9_reaches.at 22 rfl) ((hu_n _ _ (by decide)).trans ((hu_n _ _ (by decide)).trans h80)) (by decide) rfl (by omega) ?_
    refine v_aload_n C (oX9_reaches.at 23 rfl) rfl ?_
    refine v_getf C (oX9_reaches.at 24 rfl) fX9_74 ((hu_n _ _ (by decide)).trans ((hu_n _ _ (by decide)).trans ((hu_n _ _ (by decide)).trans ho))) rfl ?_
    refine v_aload_n C (oX9_reaches.at 25 rfl) rfl ?_
    refine v_getf C (oX9_reaches.at 26 rfl) fX9_246 ((hu_n _ _ (by decide)).trans ((hu_n _ _ (by decide)).trans ((hu_n _ _ (by decide)).trans ho))) (congrArg (fun z => some (Value.int z)) (hN)) ?_
    refine v_iload_n C (oX9_reaches.at 27 rfl) rfl ?_
    refine v_iast C (oX9_reaches.at 28 rfl) ((hu_n _ _ (by decide)).trans ((hu_n _ _ (by decide)).trans ((hu_n _ _ (by decide)).trans h81))) (by decide) rfl (by omega) ?_
    refine v_aload_n C (oX9_reaches.at 29 rfl) rfl ?_
    refine v_getf C (oX9_reaches.at 30 rfl) fX9_77 ((hu_n _ _ (by decide)).trans ((hu_n _ _ (by decide)).trans ((hu_n _ _ (by decide)).trans ((hu_n _ _ (by decide)).trans ho)))) rfl ?_
    refine v_aload_n C (oX9_reaches.at 31 rfl) rfl ?_
    refine v_getf C (oX9_reaches.at 32 rfl) fX9_246 ((hu_n _ _ (by decide)).trans ((hu_n _ _ (by decide)).trans ((hu_n _ _ (by decide)).trans ((hu_n _ _ (by decide)).trans ho)))) (congrArg (fun z => some (Value.int z)) (hN)) ?_
    refine v_iload C (oX9_reaches.at 33 rfl) rfl ?_
    refine v_iast C (oX9_reaches.at 34 rfl) ((hu_n _ _ (by decide)).trans ((hu_n _ _ (by decide)).trans ((hu_n _ _ (by decide)).trans ((hu_n _ _ (by decide)).trans h82)))) (by decide) rfl (by omega) ?_
    have f79 : ∀ x, hu (hu (hu (hu (hu (hu h 83 (zo 512 (upd z q (bI true)))) 79 (io 512 (upd r N (nI q)))) 80 (io 512 (upd cf N a))) 81 (io 512 (upd cb N b))) 82 (io 512 (upd fa N c))) 62 x 79 = io 512 (upd r N (nI q)) := fun x => ((hu_n _ _ (by decide)).trans ((hu_n _ _ (by decide)).trans ((hu_n _ _ (by decide)).trans ((hu_n _ _ (by decide)).trans (hu_s _ _ _)))))
    have f80 : ∀ x, hu (hu (hu (hu (hu (hu h 83 (zo 512 (upd z q (bI true)))) 79 (io 512 (upd r N (nI q)))) 80 (io 512 (upd cf N a))) 81 (io 512 (upd cb N b))) 82 (io 512 (upd fa N c))) 62 x 80 = io 512 (upd cf N a) := fun x => ((hu_n _ _ (by decide)).trans ((hu_n _ _ (by decide)).trans ((hu_n _ _ (by decide)).trans (hu_s _ _ _))))
    have f81 : ∀ x, hu (hu (hu (hu (hu (hu h 83 (zo 512 (upd z q (bI true)))) 79 (io 512 (upd r N (nI q)))) 80 (io 512 (upd cf N a))) 81 (io 512 (upd cb N b))) 82 (io 512 (upd fa N c))) 62 x 81 = io 512 (upd cb N b) := fun x => ((hu_n _ _ (by decide)).trans ((hu_n _ _ (by decide)).trans (hu_s _ _ _)))
    have f82 : ∀ x, hu (hu (hu (hu (hu (hu h 83 (zo 512 (upd z q (bI true)))) 79 (io 512 (upd r N (nI q)))) 80 (io 512 (upd cf N a))) 81 (io 512 (upd cb N b))) 82 (io 512 (upd fa N c))) 62 x 82 = io 512 (upd fa N c) := fun x => ((hu_n _ _ (by decide)).trans (hu_s _ _ _))
    have f83 : ∀ x, hu (hu (hu (hu (hu (hu h 83 (zo 512 (upd z q (bI true)))) 79 (io 512 (upd r N (nI q)))) 80 (io 512 (upd cf N a))) 81 (io 512 (upd cb N b))) 82 (io 512 (upd fa N c))) 62 x 83 = zo 512 (upd z q (bI true)) := fun x => ((hu_n _ _ (by decide)).trans ((hu_n _ _ (by decide)).trans ((hu_n _ _ (by decide)).trans ((hu_n _ _ (by decide)).trans ((hu_n _ _ (by decide)).trans (hu_s _ _ _))))))
    have ff : ∀ x j, j ≠ 62 → (j < 79 ∨ 83 < j) → hu (hu (hu (hu (hu (hu h 83 (zo 512 (upd z q (bI true)))) 79 (io 512 (upd r N (nI q)))) 80 (io 512 (upd cf N a))) 81 (io 512 (upd cb N b))) 82 (io 512 (upd fa N c))) 62 x j = h j := fun x j j1 j2 => (hu_n _ _ (by omega)).trans ((hu_n _ _ (by omega)).trans ((hu_n _ _ (by omega)).trans ((hu_n _ _ (by omega)).trans ((hu_n _ _ (by omega)).trans ((hu_n _ _ (by omega)))))))
    refine v_iload_n C (oX9_reaches.at 35 rfl) rfl ?_
    refine v_if_neN C (oX9_reaches.at 36 rfl) (tgt := 70) (by decide) (by omega) (fun hc => ?_) (fun hc => ?_)
    · rw [if_neg hc] at C
      refine v_aload_n C (oX9_reaches.at 41 rfl) rfl ?_
      refine v_dup C (oX9_reaches.at 42 rfl) rfl ?_
      refine v_getf C (oX9_reaches.at 43 rfl) fX9_246 ((hu_n _ _ (by decide)).trans ((hu_n _ _ (by decide)).trans ((hu_n _ _ (by decide)).trans ((hu_n _ _ (by decide)).trans ((hu_n _ _ (by decide)).trans ho))))) (congrArg (fun z => some (Value.int z)) (hN)) ?_
      refine v_iconst C (oX9_reaches.at 44 rfl) (v := nI 1) rfl ?_
      refine v_iaddN C (oX9_reaches.at 45 rfl) ?_
      refine v_put9 C (oX9_reaches.at 46 rfl) fX9_246 p9_34 ((hu_n _ _ (by decide)).trans ((hu_n _ _ (by decide)).trans ((hu_n _ _ (by decide)).trans ((hu_n _ _ (by decide)).trans ((hu_n _ _ (by decide)).trans ho))))) ⟨rfl, rfl, rfl⟩ ?_
      exact v_vret C (oX9_reaches.at 47 rfl) rfl rfl ⟨Nat.le_refl _, Nat.le_refl _⟩ ⟨rfl, _, hu_s _ _ _, rfl, rfl, fun i i1 i2 => if_neg i1, f79 _, f80 _, f81 _, f82 _, f83 _, ff _⟩
    · rw [if_pos hc] at C
      refine v_aload_n C (oX9_reaches.at 37 rfl) rfl ?_
      refine v_aload_n C (oX9_reaches.at 38 rfl) rfl ?_
      refine v_getf C (oX9_reaches.at 39 rfl) fX9_246 ((hu_n _ _ (by decide)).trans ((hu_n _ _ (by decide)).trans ((hu_n _ _ (by decide)).trans ((hu_n _ _ (by decide)).trans ((hu_n _ _ (by decide)).trans ho))))) (congrArg (fun z => some (Value.int z)) (hN)) ?_
      refine v_put9 C (oX9_reaches.at 40 rfl) fX9_249 p9_35 ((hu_n _ _ (by decide)).trans ((hu_n _ _ (by decide)).trans ((hu_n _ _ (by decide)).trans ((hu_n _ _ (by decide)).trans ((hu_n _ _ (by decide)).trans ho))))) ⟨rfl, rfl, rfl⟩ ?_
      refine v_aload_n C (oX9_reaches.at 41 rfl) rfl ?_
      refine v_dup C (oX9_reaches.at 42 rfl) rfl ?_
      refine v_getf C (oX9_reaches.at 43 rfl) fX9_246 (hu_s _ _ _) (congrArg (fun z => some (Value.int z)) (hN)) ?_
      refine v_iconst C (oX9_reaches.at 44 rfl) (v := nI 1) rfl ?_
      refine v_iaddN C (oX9_reaches.at 45 rfl) ?_
      refine v_put9u C (oX9_reaches.at 46 rfl) fX9_246 p9_34 ⟨rfl, rfl, rfl⟩ ?_
      exact v_vret C (oX9_reaches.at 47 rfl) rfl rfl ⟨Nat.le_refl _, Nat.le_refl _⟩ ⟨rfl, _, hu_s _ _ _, rfl, rfl, fun i i1 i2 => (if_neg i1).trans (if_neg i2), f79 _, f80 _, f81 _, f82 _, f83 _, ff _⟩
  · cases hc
/-- what the rows of the search hold -/
def FBp (b : Bt) (ne : Int32) (r cf cb fa z : Nat → Int32) : Prop := cf 0 = -1 ∧ (∀ j, j < b.1 → r j = nI (b.2.1 j) ∧ fa j = nI (bdp b j) ∧ (0 < j → cf j = nI (b.2.2.1 j) ∧ cb j = nI (b.2.2.2 j))) ∧ (∀ s, s < 512 → (∀ j, j < b.1 → b.2.1 j ≠ s) → z s = bI false) ∧ (∀ j, j < b.1 → z (b.2.1 j) = bI true) ∧ (∀ j, j < b.1 → b.2.1 j = 0 → ne = nI j) ∧ ((∀ j, j < b.1 → b.2.1 j ≠ 0) → ne = -1)
theorem FBp.new {b : Bt} {ne : Int32} {r cf cb fa z : Nat → Int32} {q i c : Nat} (H : FBp b ne r cf cb fa z) (hq : ∀ j, j < b.1 → b.2.1 j ≠ q) (hi : i < b.1) (hb : b.1 + 1 ≤ 512) (hfr : ∀ q, 0 < q → q < b.1 → b.2.2.1 q < q) : FBp (b.1 + 1, updN b.2.1 b.1 q, updN b.2.2.1 b.1 i, updN b.2.2.2 b.1 c) (if q = 0 then nI b.1 else ne) (upd r b.1 (nI q)) (upd cf b.1 (nI i)) (upd cb b.1 (nI c)) (upd fa b.1 (nI (bdp b i + 1))) (upd z q (bI true)) := by
  obtain ⟨h0, h1, h2, h3, h4, h5⟩ := H
  have hold : ∀ j, j < b.1 → updN b.2.1 b.1 q j = b.2.1 j := fun j hj => by unfold updN; rw [if_neg (by omega)]
  have hnew : updN b.2.1 b.1 q b.1 = q := by unfold updN; rw [if_pos rfl]
  have hf2 : ∀ j, j < b.1 → updN b.2.2.1 b.1 i j = b.2.2.1 j := fun j hj => by unfold updN; rw [if_neg (by omega)]
  have hf3 : updN b.2.2.1 b.1 i b.1 = i := by unfold updN; rw [if_pos rfl]
  have hc2 : ∀ j, j < b.1 → updN b.2.2.2 b.1 c j = b.2.2.2 j := fun j hj => by unfold updN; rw [if_neg (by omega)]
  have hc3 : updN b.2.2.2 b.1 c b.1 = c := by unfold updN; rw [if_pos rfl]
  refine ⟨?_, fun j hj => ?_, fun s s1 s2 => ?_, fun j hj => ?_, fun j hj hj0 => ?_, fun hall => ?_⟩
  · rw [pk_un (by omega)]; exact h0
  · have hj : j < b.1 + 1 := hj
    by_cases e : j = b.1
    · subst e
      refine ⟨?_, ?_, fun _ => ⟨?_, ?_⟩⟩
      · show upd _ _ _ _ = nI (updN b.2.1 b.1 q b.1)
        rw [pk_us, hnew]
      · show upd _ _ _ _ = nI (dpF (updN b.2.2.1 b.1 i) (511 + 1) b.1)
        have hfr' : ∀ q, 0 < q → q ≤ i → b.2.2.1 q < q := fun q a1 a2 => hfr q a1 (by omega)
        rw [pk_us, dpF, if_neg (by omega), hf3, dpF_congr 511 i hfr' (fun q hq => hf2 q (by omega))]
        have a4 := dpF_fuel 511 i hfr' (by omega)
        have a5 := dpF_fuel 512 i hfr' (by omega)
        rw [a4, ← a5]
        rfl
      · show upd _ _ _ _ = nI (updN b.2.2.1 b.1 i b.1)
        rw [pk_us, hf3]
      · show upd _ _ _ _ = nI (updN b.2.2.2 b.1 c b.1)
        rw [pk_us, hc3]
    · have hj2 : j < b.1 := by omega
      obtain ⟨c1, c2, c3⟩ := h1 j hj2
      have hfq : ∀ i', 0 < i' → i' ≤ j → b.2.2.1 i' < i' := fun i' a1 a2 => hfr i' a1 (by omega)
      refine ⟨?_, ?_, fun j0 => ⟨?_, ?_⟩⟩
      · show upd _ _ _ _ = nI (updN b.2.1 b.1 q j)
        rw [pk_un e, hold j hj2]; exact c1
      · show upd _ _ _ _ = nI (dpF (updN b.2.2.1 b.1 i) 512 j)
        rw [pk_un e, dpF_congr 512 j hfq (fun q' hq' => hf2 q' (by omega))]
        exact c2
      · show upd _ _ _ _ = nI (updN b.2.2.1 b.1 i j)
        rw [pk_un e, hf2 j hj2]; exact (c3 j0).1
      · show upd _ _ _ _ = nI (updN b.2.2.2 b.1 c j)
        rw [pk_un e, hc2 j hj2]; exact (c3 j0).2
  · have a1 : updN b.2.1 b.1 q b.1 ≠ s := s2 b.1 (Nat.lt_succ_self _)
    rw [hnew] at a1
    rw [pk_un (Ne.symm a1)]
    refine h2 s s1 (fun j hj => ?_)
    have a2 : updN b.2.1 b.1 q j ≠ s := s2 j (Nat.lt_succ_of_lt hj)
    rw [hold j hj] at a2
    exact a2
  · have hj : j < b.1 + 1 := hj
    show upd z q (bI true) (updN b.2.1 b.1 q j) = _
    by_cases e : j = b.1
    · rw [e, hnew, pk_us]
    · rw [hold j (by omega), pk_un (hq j (by omega))]; exact h3 j (by omega)
  · have hj : j < b.1 + 1 := hj
    have hj0 : updN b.2.1 b.1 q j = 0 := hj0
    by_cases e : j = b.1
    · rw [e, hnew] at hj0
      rw [if_pos hj0, e]
    · rw [hold j (by omega)] at hj0
      rw [if_neg (fun z => hq j (by omega) (by rw [hj0, z]))]
      exact h4 j (by omega) hj0
  · have a1 : updN b.2.1 b.1 q b.1 ≠ 0 := hall b.1 (Nat.lt_succ_self _)
    rw [hnew] at a1
    rw [if_neg a1]
    refine h5 (fun j hj => ?_)
    have a2 : updN b.2.1 b.1 q j ≠ 0 := hall j (Nat.lt_succ_of_lt hj)
    rw [hold j hj] at a2
    exact a2
def FI (h : Hp) (th : Nat) (S : Sc) (sv : Bool) (Z : Sc) (F : Sf) (b : Bt) (h' : Hp) : Prop := ∃ u r cf cb fa z, h' 62 = MO u ∧ u 0 = nI th ∧ MuP S sv Z F u ∧ u 34 = nI b.1 ∧ h' 79 = io 512 r ∧ h' 80 = io 512 cf ∧ h' 81 = io 512 cb ∧ h' 82 = io 512 fa ∧ h' 83 = zo 512 z ∧ FBp b (u 35) r cf cb fa z ∧ ∀ j, j ≠ 62 → (j < 79 ∨ 83 < j) → h' j = h j
theorem FI.rf {G h h' : Hp} {th : Nat} {S Z : Sc} {sv : Bool} {F : Sf} {b : Bt} (hI : FI h th S sv Z F b h') (hR : RF G h th S sv Z F) : RF G h' th S sv Z F := by
  obtain ⟨u, r, cf, cb, fa, z, a0, a1, a2, a3, b1, b2, b3, b4, b5, -, ff⟩ := hI
  obtain ⟨f, hf, hB⟩ := hR.bf
  have hM := hR.2.2.2.2.2.2.2.2.1
  refine hR.set_b a0 a1 a2 ((ff 69 (by decide) (by decide)).trans hf) hB hR.fo (fun j j1 j2 j3 => ff j j1 (by omega)) ⟨fun i hi => ?_, ⟨z, b5⟩, ?_⟩
  · by_cases e1 : i = 79
    · subst e1; exact ⟨r, b1⟩
    · by_cases e2 : i = 80
      · subst e2; exact ⟨cf, b2⟩
      · by_cases e3 : i = 81
        · subst e3; exact ⟨cb, b3⟩
        · by_cases e4 : i = 82
          · subst e4; exact ⟨fa, b4⟩
          · obtain ⟨g, hg⟩ := hM.1 i hi
            exact ⟨g, (ff i (by unfold mIn at hi; omega) (by unfold mIn at hi; omega)).trans hg⟩
  · obtain ⟨g, hg⟩ := hM.2.2
    exact ⟨g, (ff 86 (by decide) (by decide)).trans hg⟩
theorem k9_findsSets {w : Wt} {G h : Hp} {th e : Nat} {S Z : Sc} {sv : Bool} {F : Sf} (hR : RF G h th S sv Z F) (he : Bend S.1 (S.1 ^ (S.2.1 - 1)) S.2.2.1 e) : ConN mX9_findsSets 3 (0, 0) w [.ref 62] h (.inl none) (FI h th S sv Z F (bfs S.1 (S.1 ^ (S.2.1 - 1)) S.2.2.1 (e * S.1))) := by
  obtain ⟨u, o0, o1, o2⟩ := hR.o
  have hk := hR.so.1.k
  have hn9 := hR.so.1.n
  have hn0 := hR.so.1.n0
  have hb5 : ∀ t, (bfs S.1 (S.1 ^ (S.2.1 - 1)) S.2.2.1 t).1 ≤ 512 := bfs_le hn0 hn9
  have h512 := pow_le9 hn9
  obtain ⟨r0, hr0⟩ := hR.sc (i := 79) (Or.inl ⟨by decide, by decide⟩)
  obtain ⟨cf0, hcf0⟩ := hR.sc (i := 80) (Or.inl ⟨by decide, by decide⟩)
  obtain ⟨cb0, hcb0⟩ := hR.sc (i := 81) (Or.inl ⟨by decide, by decide⟩)
  obtain ⟨fa0, hfa0⟩ := hR.sc (i := 82) (Or.inl ⟨by decide, by decide⟩)
  have hr0 : h 79 = io 512 r0 := hr0
  have hcf0 : h 80 = io 512 cf0 := hcf0
  have hcb0 : h 81 = io 512 cb0 := hcb0
  have hfa0 : h 82 = io 512 fa0 := hfa0
  obtain ⟨z0, hz0⟩ := hR.2.2.2.2.2.2.2.2.1.2.1
  have kn : ∀ h u, h 62 = MO u → MuP S sv Z F u → ConN mX9_nodes 1 (0, 0) w [.ref 62] h (.inl (some (.int (nI (S.1 ^ (S.2.1 - 1)))))) (fun h' => h' = h) := fun h u a b => k9_nodes a b.1 b.2.1 (by have := hR.so.1.w; omega) (by have := hR.so.1.w; omega)
  have hrf : ∀ b h', FI h th S sv Z F b h' → RF G h' th S sv Z F := fun b h' hI => hI.rf hR
  generalize hnn : S.1 ^ (S.2.1 - 1) = n at *
  have he5 : e ≤ 512 := by rw [← he.1]; exact hb5 _
  refine conI (by decide +kernel) ⟨fun _ => rfl, rfl, by simp⟩ (fun X C => ?_)
  change V X (0, 0) w h 0 [some (.ref 62), none, none] []
  refine v_iconst C (oX9_findsSets.at 0 rfl) (v := nI 0) rfl ?_
  refine v_istore_n C (oX9_findsSets.at 1 rfl) rfl ?_
  dsimp only [sto1, sto2, killL]
  have M : ∀ d i h1 l2, i + d = e → FI h th S sv Z F (bfs S.1 n S.2.2.1 (i * S.1)) h1 → V X (0, 0) w h1 49 [some (.ref 62), some (.int (nI i)), l2] [] := by
    intro d
    induction d with
    | zero =>
      intro i h1 l2 hi hI
      obtain rfl : i = e := by omega
      have hI0 := hI
      obtain ⟨u, r, cf, cb, fa, z, a0, a1, a2, a3, b1, b2, b3, b4, b5, hB, ff⟩ := hI
      rw [he.1] at a3
      refine v_iload_n C (oX9_findsSets.at 31 rfl) rfl ?_
      refine v_aload_n C (oX9_findsSets.at 32 rfl) rfl ?_
      refine v_getf C (oX9_findsSets.at 33 rfl) fX9_246 a0 (congrArg (fun z => some (Value.int z)) (a3)) ?_
      refine v_icmp_geN C (oX9_findsSets.at 34 rfl) (tgt := 104) (by decide) (by omega) (by omega) (fun hc => ?_) (fun hc => absurd hc (by omega))
      exact v_vret C (oX9_findsSets.at 62 rfl) rfl rfl ⟨Nat.le_refl _, Nat.le_refl _⟩ ⟨rfl, hI0⟩
    | succ d ih =>
      intro i h1 l2 hi hI
      have hb := hb5 (i * S.1)
      have hie := he.2 i (by omega)
      have hI0 := hI
      obtain ⟨u, r, cf, cb, fa, z, a0, a1, a2, a3, b1, b2, b3, b4, b5, hB, ff⟩ := hI
      refine v_iload_n C (oX9_findsSets.at 31 rfl) rfl ?_
      refine v_aload_n C (oX9_findsSets.at 32 rfl) rfl ?_
      refine v_getf C (oX9_findsSets.at 33 rfl) fX9_246 a0 (congrArg (fun z => some (Value.int z)) (a3)) ?_
      refine v_icmp_geN C (oX9_findsSets.at 34 rfl) (tgt := 104) (by decide) (by omega) (by omega) (fun hc => absurd hc (by omega)) (fun hc => ?_)
      refine v_iconst C (oX9_findsSets.at 35 rfl) (v := nI 0) rfl ?_
      refine v_istore_n C (oX9_findsSets.at 36 rfl) rfl ?_
      dsimp only [sto1, sto2, killL]
      clear a0 a1 a2 a3 b1 b2 b3 b4 b5 hB ff hc
      suffices H : ∀ d2 c h1, c + d2 = S.1 → FI h th S sv Z F (bfs S.1 n S.2.2.1 (i * S.1 + c)) h1 → V X (0, 0) w h1 59 [some (.ref 62), some (.int (nI i)), some (.int (nI c))] [] from H S.1 0 h1 (by omega) hI0
      clear hI0 h1
      intro d2
      induction d2 with
      | zero =>
        intro c h1 hcd hI
        obtain rfl : c = S.1 := by omega
        have hI0 := hI
        obtain ⟨u, r, cf, cb, fa, z, a0, a1, a2, a3, b1, b2, b3, b4, b5, hB, ff⟩ := hI
        refine v_iload_n C (oX9_findsSets.at 37 rfl) rfl ?_
        refine v_aload_n C (oX9_findsSets.at 38 rfl) rfl ?_
        refine v_getf C (oX9_findsSets.at 39 rfl) fX9_7 a0 (congrArg (fun z => some (Value.int z)) (a2.1)) ?_
        refine v_icmp_geN C (oX9_findsSets.at 40 rfl) (tgt := 98) (by decide) (by omega) (by omega) (fun hc => ?_) (fun hc => absurd hc (by omega))
        refine v_iincN C (oX9_findsSets.at 60 rfl) rfl ?_
        refine v_goto C (oX9_findsSets.at 61 rfl) (tgt := 49) (by decide) ?_
        dsimp only [sto1, sto2, killL]
        rw [show i * S.1 + S.1 = (i + 1) * S.1 by rw [Nat.add_mul, Nat.one_mul]] at hI0
        exact ih (i + 1) h1 _ (by omega) hI0
      | succ d2 ih2 =>
        intro c h1 hcd hI
        have hI0 := hI
        have hR1 := hrf _ _ hI
        have hmono := bfs_mono (k := S.1) (n := n) (T := S.2.2.1) (i * S.1) c
        have hbt := hb5 (i * S.1 + c)
        have hin := bfs_in (k := S.1) (T := S.2.2.1) hn0 (i * S.1 + c)
        have hQi := hin.2.1 i (by omega)
        have hdv : (i * S.1 + c) / S.1 = i := vk_div (by omega)
        have hmd : (i * S.1 + c) % S.1 = c := vk_mod (by omega)
        have hfrm := bfs_from (k := S.1) (n := n) (T := S.2.2.1) (by omega) i c (by omega) (fun i' h => he.2 i' (by omega)) (Or.inr hie)
        have hsl : suc S.1 n S.2.2.1 ((bfs S.1 n S.2.2.1 (i * S.1 + c)).2.1 i) c < 512 := Nat.lt_of_lt_of_le (suc_lt hn0) h512
        obtain ⟨u, r, cf, cb, fa, z, a0, a1, a2, a3, b1, b2, b3, b4, b5, hB, ff⟩ := hI
        obtain ⟨g0, g1, g2, g3, g4, g5⟩ := id hB
        have hi1 := g1 i (by omega)
        have hdp : bdp (bfs S.1 n S.2.2.1 (i * S.1 + c)) i < 2 ^ 31 ∨ True := Or.inr trivial
        have ks := k9_successors (w := w) (q := (bfs S.1 n S.2.2.1 (i * S.1 + c)).2.1 i) (c := c) hR1 (by omega) (by omega)
        rw [hnn] at ks
        refine v_iload_n C (oX9_findsSets.at 37 rfl) rfl ?_
        refine v_aload_n C (oX9_findsSets.at 38 rfl) rfl ?_
        refine v_getf C (oX9_findsSets.at 39 rfl) fX9_7 a0 (congrArg (fun z => some (Value.int z)) (a2.1)) ?_
        refine v_icmp_geN C (oX9_findsSets.at 40 rfl) (tgt := 98) (by decide) (by omega) (by omega) (fun hc => absurd hc (by omega)) (fun hc => ?_)
        refine v_aload_n C (oX9_findsSets.at 41 rfl) rfl ?_
        refine v_aload_n C (oX9_findsSets.at 42 rfl) rfl ?_
        refine v_aload_n C (oX9_findsSets.at 43 rfl) rfl ?_
        refine v_getf C (oX9_findsSets.at 44 rfl) fX9_68 a0 rfl ?_
        refine v_iload_n C (oX9_findsSets.at 45 rfl) rfl ?_
        refine v_iald C (oX9_findsSets.at 46 rfl) b1 (by decide) rfl (by omega) hi1.1 ?_
        refine v_iload_n C (oX9_findsSets.at 47 rfl) rfl ?_
        refine v_callV C (oX9_findsSets.at 48 rfl) cX9_256 a0 (ks) rfl rfl rfl ⟨rfl, rfl⟩ rfl rfl (fun _ => rfl) (fun h' hp => ?_)
        rw [show h' = _ from hp]
        dsimp only [Option.toList, List.cons_append, List.nil_append]
        refine v_iload_n C (oX9_findsSets.at 49 rfl) rfl ?_
        refine v_iload_n C (oX9_findsSets.at 50 rfl) rfl ?_
        refine v_aload_n C (oX9_findsSets.at 51 rfl) rfl ?_
        refine v_getf C (oX9_findsSets.at 52 rfl) fX9_77 a0 rfl ?_
        refine v_iload_n C (oX9_findsSets.at 53 rfl) rfl ?_
        refine v_iald C (oX9_findsSets.at 54 rfl) b4 (by decide) rfl (by omega) hi1.2.1 ?_
        refine v_iconst C (oX9_findsSets.at 55 rfl) (v := nI 1) rfl ?_
        refine v_iaddN C (oX9_findsSets.at 56 rfl) ?_
        generalize hSS : suc S.1 n S.2.2.1 ((bfs S.1 n S.2.2.1 (i * S.1 + c)).2.1 i) c = q at *
        have hbs : bfs S.1 n S.2.2.1 (i * S.1 + c + 1) = if hasB (bfs S.1 n S.2.2.1 (i * S.1 + c)).2.1 (bfs S.1 n S.2.2.1 (i * S.1 + c)).1 q then bfs S.1 n S.2.2.1 (i * S.1 + c) else ((bfs S.1 n S.2.2.1 (i * S.1 + c)).1 + 1, updN (bfs S.1 n S.2.2.1 (i * S.1 + c)).2.1 (bfs S.1 n S.2.2.1 (i * S.1 + c)).1 q, updN (bfs S.1 n S.2.2.1 (i * S.1 + c)).2.2.1 (bfs S.1 n S.2.2.1 (i * S.1 + c)).1 i, updN (bfs S.1 n S.2.2.1 (i * S.1 + c)).2.2.2 (bfs S.1 n S.2.2.1 (i * S.1 + c)).1 c) := by
          rw [bfs, hdv, hmd, hSS]
        by_cases hex : ∃ j, j < (bfs S.1 n S.2.2.1 (i * S.1 + c)).1 ∧ (bfs S.1 n S.2.2.1 (i * S.1 + c)).2.1 j = q
        · obtain ⟨j, hj, hjS⟩ := hex
          have hbs2 : bfs S.1 n S.2.2.1 (i * S.1 + c + 1) = bfs S.1 n S.2.2.1 (i * S.1 + c) := by rw [hbs, if_pos (hasB_t.mpr ⟨j, hj, hjS⟩)]
          have hpl : z q = bI true := by rw [← hjS]; exact g3 j hj
          refine v_callV C (oX9_findsSets.at 57 rfl) cX9_252 a0 (k9_reach1 a0 b5 hsl hpl) rfl rfl rfl ⟨rfl, rfl⟩ rfl rfl (fun _ => rfl) (fun h' hp => ?_)
          rw [show h' = _ from hp]
          dsimp only [Option.toList, List.cons_append, List.nil_append]
          refine v_iincN C (oX9_findsSets.at 58 rfl) rfl ?_
          refine v_goto C (oX9_findsSets.at 59 rfl) (tgt := 59) (by decide) ?_
          dsimp only [sto1, sto2, killL]
          exact ih2 (c + 1) h1 (by omega) (by rw [← Nat.add_assoc, hbs2]; exact hI0)
        · have hno : ∀ j, j < (bfs S.1 n S.2.2.1 (i * S.1 + c)).1 → (bfs S.1 n S.2.2.1 (i * S.1 + c)).2.1 j ≠ q := fun j hj e => hex ⟨j, hj, e⟩
          have hbs2 : bfs S.1 n S.2.2.1 (i * S.1 + c + 1) = ((bfs S.1 n S.2.2.1 (i * S.1 + c)).1 + 1, updN (bfs S.1 n S.2.2.1 (i * S.1 + c)).2.1 (bfs S.1 n S.2.2.1 (i * S.1 + c)).1 q, updN (bfs S.1 n S.2.2.1 (i * S.1 + c)).2.2.1 (bfs S.1 n S.2.2.1 (i * S.1 + c)).1 i, updN (bfs S.1 n S.2.2.1 (i * S.1 + c)).2.2.2 (bfs S.1 n S.2.2.1 (i * S.1 + c)).1 c) := by rw [hbs, if_neg (fun hh => hex (hasB_t.mp hh))]
          have hb1 := hb5 (i * S.1 + c + 1)
          rw [hbs2] at hb1
          have hb1 : (bfs S.1 n S.2.2.1 (i * S.1 + c)).1 + 1 ≤ 512 := hb1
          have hpl : z q = bI false := g2 q hsl hno
          refine v_callV C (oX9_findsSets.at 57 rfl) cX9_252 a0 (k9_reach2 a0 a3 (by omega) b1 b2 b3 b4 b5 hsl hpl) rfl rfl rfl ⟨rfl, rfl⟩ rfl rfl (fun _ => rfl) (fun h' hp => ?_)
          dsimp only [Option.toList, List.cons_append, List.nil_append]
          obtain ⟨u', c0, c1, c2, c3, d1, d2', d3, d4, d5, df⟩ := hp
          refine v_iincN C (oX9_findsSets.at 58 rfl) rfl ?_
          refine v_goto C (oX9_findsSets.at 59 rfl) (tgt := 59) (by decide) ?_
          dsimp only [sto1, sto2, killL]
          refine ih2 (c + 1) h' (by omega) ?_
          rw [← Nat.add_assoc, hbs2]
          refine ⟨u', _, _, _, _, _, c0, (c3 0 (by decide) (by decide)).trans a1, ?_, c1, d1, d2', d3, d4, d5, ?_, fun j j1 j2 => (df j j1 j2).trans (ff j j1 j2)⟩
          · exact ⟨(c3 1 (by decide) (by decide)).trans a2.1, (c3 2 (by decide) (by decide)).trans a2.2.1, (c3 6 (by decide) (by decide)).trans a2.2.2.1, fun q => (c3 7 (by decide) (by decide)).trans (a2.2.2.2.1 q), (c3 12 (by decide) (by decide)).trans a2.2.2.2.2.1, (c3 13 (by decide) (by decide)).trans a2.2.2.2.2.2.1, (c3 14 (by decide) (by decide)).trans a2.2.2.2.2.2.2⟩
          · rw [c2]
            exact hB.new hno (by omega) hb1 (fun q a1 a2 => (hfrm q a1 a2).1)
  suffices L : ∀ d i z, i + d = 512 → (∀ s, s < i → z s = bI false) → V X (0, 0) w (hu h 83 (zo 512 z)) 2 [some (.ref 62), some (.int (nI i)), none] [] by
    have := L 512 0 z0 (by omega) (fun s hs => absurd hs (by omega))
    rw [hu_id h hz0] at this
    exact this
  intro d
  have c0 : ∀ y, hu h 83 y 62 = MO u := fun y => (hu_n _ _ (by decide)).trans o0
  induction d with
  | zero =>
    intro i z hi hz
    obtain rfl : i = 512 := by omega
    refine v_iload_n C (oX9_findsSets.at 2 rfl) rfl ?_
    refine v_sipush C (oX9_findsSets.at 3 rfl) (v := nI 512) rfl ?_
    refine v_icmp_geN C (oX9_findsSets.at 4 rfl) (tgt := 22) (by decide) (by omega) (by omega) (fun hc => ?_) (fun hc => absurd hc (by omega))
    refine v_aload_n C (oX9_findsSets.at 12 rfl) rfl ?_
    refine v_iconst C (oX9_findsSets.at 13 rfl) (v := nI 0) rfl ?_
    refine v_put9 C (oX9_findsSets.at 14 rfl) fX9_246 p9_34 (c0 _) ⟨rfl, rfl, rfl⟩ ?_
    refine v_aload_n C (oX9_findsSets.at 15 rfl) rfl ?_
    refine v_iconst C (oX9_findsSets.at 16 rfl) (v := -1) rfl ?_
    refine v_put9u C (oX9_findsSets.at 17 rfl) fX9_249 p9_35 ⟨rfl, rfl, rfl⟩ ?_
    refine v_aload_n C (oX9_findsSets.at 18 rfl) rfl ?_
    refine v_iconst C (oX9_findsSets.at 19 rfl) (v := nI 1) rfl ?_
    have q0 : hu (hu h 83 (zo 512 z)) 62 (MO (upd (upd u 34 (nI 0)) 35 (-1))) 62 = MO (upd (upd u 34 (nI 0)) 35 (-1)) := hu_s _ _ _
    have qM : MuP S sv Z F (upd (upd u 34 (nI 0)) 35 (-1)) := o2
    have d79 : hu (hu h 83 (zo 512 z)) 62 (MO (upd (upd u 34 (nI 0)) 35 (-1))) 79 = io 512 r0 := (hu_n _ _ (by decide)).trans ((hu_n _ _ (by decide)).trans hr0)
    have d80 : hu (hu h 83 (zo 512 z)) 62 (MO (upd (upd u 34 (nI 0)) 35 (-1))) 80 = io 512 cf0 := (hu_n _ _ (by decide)).trans ((hu_n _ _ (by decide)).trans hcf0)
    have d81 : hu (hu h 83 (zo 512 z)) 62 (MO (upd (upd u 34 (nI 0)) 35 (-1))) 81 = io 512 cb0 := (hu_n _ _ (by decide)).trans ((hu_n _ _ (by decide)).trans hcb0)
    have d82 : hu (hu h 83 (zo 512 z)) 62 (MO (upd (upd u 34 (nI 0)) 35 (-1))) 82 = io 512 fa0 := (hu_n _ _ (by decide)).trans ((hu_n _ _ (by decide)).trans hfa0)
    have d83 : hu (hu h 83 (zo 512 z)) 62 (MO (upd (upd u 34 (nI 0)) 35 (-1))) 83 = zo 512 z := (hu_n _ _ (by decide)).trans (hu_s _ _ _)
    have dff : ∀ j, j ≠ 62 → (j < 79 ∨ 83 < j) → hu (hu h 83 (zo 512 z)) 62 (MO (upd (upd u 34 (nI 0)) 35 (-1))) j = h j := fun j j1 j2 => (hu_n _ _ j1).trans (hu_n _ _ (by omega))
    have h1p : 1 ≤ 1 * 2 ^ n := by rw [Nat.one_mul]; exact Nat.pow_pos (by decide)
    have h1q : 1 * 2 ^ n ≤ 512 := by rw [Nat.one_mul]; exact h512
    have h2n : 2 ≤ 2 ^ n := Nat.le_trans (by decide : 2 ≤ 2 ^ 1) (Nat.pow_le_pow_right (by decide) hn0)
    generalize hu (hu h 83 (zo 512 z)) 62 (MO (upd (upd u 34 (nI 0)) 35 (-1))) = h2 at *
    refine v_aload_n C (oX9_findsSets.at 20 rfl) rfl ?_
    refine v_callV C (oX9_findsSets.at 21 rfl) cX9_118 q0 (kn h2 _ q0 qM) rfl rfl rfl ⟨rfl, rfl⟩ rfl rfl (fun _ => rfl) (fun h' hp => ?_)
    rw [show h' = _ from hp]
    dsimp only [Option.toList, List.cons_append, List.nil_append]
    refine v_ishlN C (oX9_findsSets.at 22 rfl) (by omega) (by omega) ?_
    refine v_iconst C (oX9_findsSets.at 23 rfl) (v := nI 1) rfl ?_
    refine v_isubN C (oX9_findsSets.at 24 rfl) (by omega) ?_
    refine v_iconst C (oX9_findsSets.at 25 rfl) (v := -1) rfl ?_
    refine v_iconst C (oX9_findsSets.at 26 rfl) (v := nI 0) rfl ?_
    refine v_iconst C (oX9_findsSets.at 27 rfl) (v := nI 0) rfl ?_
    refine v_callV C (oX9_findsSets.at 28 rfl) cX9_252 q0 (k9_reach2 (N := 0) q0 rfl (by decide) d79 d80 d81 d82 d83 (by omega) (hz _ (by omega))) rfl rfl rfl ⟨rfl, rfl⟩ rfl rfl (fun _ => rfl) (fun h' hp => ?_)
    dsimp only [Option.toList, List.cons_append, List.nil_append]
    obtain ⟨u', p0, p1, p2, p3, e1, e2, e3, e4, e5, ef⟩ := hp
    rw [if_neg (by omega)] at p2
    refine v_iconst C (oX9_findsSets.at 29 rfl) (v := nI 0) rfl ?_
    refine v_istore_n C (oX9_findsSets.at 30 rfl) rfl ?_
    dsimp only [sto1, sto2, killL]
    refine M e 0 h' _ (by omega) ?_
    rw [Nat.zero_mul]
    refine ⟨u', _, _, _, _, _, p0, (p3 0 (by decide) (by decide)).trans o1, ?_, p1, e1, e2, e3, e4, e5, ?_, fun j j1 j2 => (ef j j1 j2).trans (dff j j1 j2)⟩
    · exact ⟨(p3 1 (by decide) (by decide)).trans qM.1, (p3 2 (by decide) (by decide)).trans qM.2.1, (p3 6 (by decide) (by decide)).trans qM.2.2.1, fun q => (p3 7 (by decide) (by decide)).trans (qM.2.2.2.1 q), (p3 12 (by decide) (by decide)).trans qM.2.2.2.2.1, (p3 13 (by decide) (by decide)).trans qM.2.2.2.2.2.1, (p3 14 (by decide) (by decide)).trans qM.2.2.2.2.2.2⟩
    · rw [p2, Nat.one_mul]
      refine ⟨pk_us, fun j hj => ?_, fun s s1 s2 => ?_, fun j hj => ?_, fun j hj hj0 => ?_, fun _ => rfl⟩
      · have hj : j < 1 := hj
        obtain rfl : j = 0 := by omega
        exact ⟨pk_us, pk_us, fun q => absurd q (by omega)⟩
      · have : 2 ^ n - 1 ≠ s := s2 0 (by show 0 < 1; omega)
        rw [pk_un (Ne.symm this)]; exact hz s s1
      · exact pk_us
      · have hj0 : 2 ^ n - 1 = 0 := hj0
        omega
  | succ d ih =>
    intro i z hi hz
    refine v_iload_n C (oX9_findsSets.at 2 rfl) rfl ?_
    refine v_sipush C (oX9_findsSets.at 3 rfl) (v := nI 512) rfl ?_
    refine v_icmp_geN C (oX9_findsSets.at 4 rfl) (tgt := 22) (by decide) (by omega) (by omega) (fun hc => absurd hc (by omega)) (fun hc => ?_)
    refine v_aload_n C (oX9_findsSets.at 5 rfl) rfl ?_
    refine v_getf C (oX9_findsSets.at 6 rfl) fX9_80 (c0 _) rfl ?_
    refine v_iload_n C (oX9_findsSets.at 7 rfl) rfl ?_
    refine v_iconst C (oX9_findsSets.at 8 rfl) (v := bI false) rfl ?_
    refine v_zast C (oX9_findsSets.at 9 rfl) (hu_s _ _ _) (by decide) rfl (by omega) ?_
    rw [hu_hu]
    refine v_iincN C (oX9_findsSets.at 10 rfl) rfl ?_
    refine v_goto C (oX9_findsSets.at 11 rfl) (tgt := 2) (by decide) ?_
    dsimp only [sto1, sto2, killL]
    refine ih (i + 1) _ (by omega) (fun s hs => ?_)
    by_cases e : s = i
    · rw [e, pk_us]
    · rw [pk_un e]; exact hz s (by omega)
