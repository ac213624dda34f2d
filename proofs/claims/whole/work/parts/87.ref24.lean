/-! ===== the reference: reading a formula, small methods ===== -/
def cm (x : Nat) : Nat := if 48 ≤ x ∧ x ≤ 57 then x - 48 else if 97 ≤ x ∧ x ≤ 100 then x - 87 else if x = 110 then 73 else if x = 120 then 65 else x
def wm (x : Nat) : Nat := if x = 78 then 105 else if x = 88 then 97 else if x = 110 then 73 else if x = 120 then 65 else x
def rk9 (x : Nat) : Nat := if x = 61 ∨ x = 60 then 1 else if x = 43 ∨ x = 45 then 2 else if x = 42 ∨ x = 47 ∨ x = 37 then 3 else if x = 33 then 4 else 0
theorem rk9_rk {x : Nat} (h : x ≠ 33) : rk9 x = rk x := by unfold rk9 rk; rw [if_neg h]
theorem rk9_33 : rk9 33 = 4 := by decide
theorem rk_le3 (x : Nat) : rk x ≤ 3 := by unfold rk; split; omega; split; omega; split <;> omega
theorem rk9_le (x : Nat) : rk9 x ≤ 4 := by unfold rk9; split; omega; split; omega; split; omega; split <;> omega
theorem rk9_4 {x : Nat} : 4 ≤ rk9 x ↔ x = 33 := by
  constructor
  · intro h
    apply Decidable.byContradiction
    intro q
    rw [rk9_rk q] at h
    have := rk_le3 x
    omega
  · rintro rfl; decide
theorem rk9_wm (x : Nat) : rk9 (wm x) = rk9 x := by
  unfold wm
  split
  · next h => subst h; decide
  · split
    · next h => subst h; decide
    · split
      · next h => subst h; decide
      · split
        · next h => subst h; decide
        · rfl
theorem wm_op {x : Nat} (h : 0 < rk9 x) : wm x = x ∧ cm x = x := by
  have h1 : x = 61 ∨ x = 60 ∨ x = 43 ∨ x = 45 ∨ x = 42 ∨ x = 47 ∨ x = 37 ∨ x = 33 := by
    unfold rk9 at h
    split at h
    · omega
    · split at h
      · omega
      · split at h
        · omega
        · split at h <;> omega
  rcases h1 with rfl | rfl | rfl | rfl | rfl | rfl | rfl | rfl <;> exact ⟨rfl, rfl⟩
def mv9 (r : Nat) (c : List Nat) : List Nat → List Nat × List Nat
  | [] => (c, [])
  | x :: t => if r ≤ rk9 x then mv9 r (x :: c) t else (c, x :: t)
theorem mv9_4 : ∀ (t c : List Nat), mv9 4 c t = endF c t
  | [], c => rfl
  | x :: t, c => by
    rw [mv9, endF]
    by_cases e : x = 33
    · rw [if_pos (rk9_4.mpr e), if_pos e, mv9_4 t, e]
    · rw [if_neg (fun q => e (rk9_4.mp q)), if_neg e]
theorem mv9_len (r : Nat) : ∀ (t c : List Nat), (mv9 r c t).1.length + (mv9 r c t).2.length = c.length + t.length
  | [], c => rfl
  | x :: t, c => by
    rw [mv9]
    split
    · rw [mv9_len r t, List.length_cons, List.length_cons]; omega
    · rfl
/-- no operator stands on a '!' -/
def nb : List Nat → Prop
  | [] => True
  | x :: t => nb t ∧ (0 < rk x → t.headD 0 ≠ 33)
theorem mv9_mvO {r : Nat} (hr : 1 ≤ r) : ∀ (t c : List Nat), nb t → t.headD 0 ≠ 33 → mv9 r c t = mvO r c t ∧ nb (mvO r c t).2 ∧ (mvO r c t).2.headD 0 ≠ 33
  | [], c, _, h => ⟨rfl, trivial, h⟩
  | x :: t, c, hn, h => by
    have hx : x ≠ 33 := h
    rw [mv9, mvO, rk9_rk hx]
    by_cases e : r ≤ rk x
    · rw [if_pos e, if_pos e]
      exact mv9_mvO hr t (x :: c) hn.1 (hn.2 (by omega))
    · rw [if_neg e, if_neg e]
      exact ⟨rfl, hn, h⟩
theorem endF_nb : ∀ (t c : List Nat), nb t → nb (endF c t).2 ∧ (endF c t).2.headD 0 ≠ 33
  | [], c, _ => ⟨trivial, fun q => absurd q (by show ¬ (0 = 33); decide)⟩
  | x :: t, c, hn => by
    rw [endF]
    by_cases e : x = 33
    · rw [if_pos e]; exact endF_nb t _ hn.1
    · rw [if_neg e]; exact ⟨hn, e⟩
/-- what may wait -/
def Wok (x : Nat) : Prop := x = 33 ∨ x = 40 ∨ 0 < rk x ∨ x = 78 ∨ x = 88 ∨ x = 110 ∨ x = 120
theorem Wok.lt {x : Nat} (h : Wok x) : x < 128 := by
  unfold Wok at h
  rcases h with h | h | h | h | h | h | h
  · omega
  · omega
  · have := wm_op (x := x) (by
      by_cases e : x = 33
      · subst e; decide
      · rw [rk9_rk e]; exact h)
    unfold rk at h
    split at h
    · omega
    · split at h
      · omega
      · split at h <;> omega
  · omega
  · omega
  · omega
  · omega
def TW (t : List Nat) : Prop := ∀ x, x ∈ t → Wok x
theorem TW.cons {x : Nat} {t : List Nat} (hx : Wok x) (ht : TW t) : TW (x :: t) := by
  intro y hy
  rcases List.mem_cons.mp hy with h | h
  · rw [h]; exact hx
  · exact ht y h
theorem TW.tl {x : Nat} {t : List Nat} (ht : TW (x :: t)) : TW t := fun y hy => ht y (List.mem_cons_of_mem _ hy)
theorem TW.hd {x : Nat} {t : List Nat} (ht : TW (x :: t)) : Wok x := ht x List.mem_cons_self
theorem mvO_TW (r : Nat) : ∀ (t c : List Nat), TW t → TW (mvO r c t).2
  | [], c, h => h
  | x :: t, c, h => by
    rw [mvO]
    split
    · exact mvO_TW r t _ h.tl
    · exact h
theorem endF_TW : ∀ (t c : List Nat), TW t → TW (endF c t).2
  | [], c, h => h
  | x :: t, c, h => by
    rw [endF]
    split
    · exact endF_TW t _ h.tl
    · exact h
theorem wm_lt {x : Nat} (h : x < 128) : wm x < 128 := by unfold wm; split; omega; split; omega; split; omega; split <;> omega
/-- the state of the reference's reading: the code c and what waits t are the program's, in its own signs -/
def PIu (h : Hp) (th : Nat) (S : Sc) (sv : Bool) (Z : Sc) (F : Sf) (c t : List Nat) (i : Nat) (op : Bool) (h' : Hp) (u : Nat → Int32) : Prop := h' 62 = MO u ∧ u 0 = nI th ∧ MuP S sv Z F u ∧ u 19 = nI c.length ∧ u 20 = nI t.length ∧ u 21 = nI i ∧ u 22 = bI op ∧ (∃ fc, h' 72 = io 40 fc ∧ LA fc (c.map cm)) ∧ (∃ fw, h' 73 = io 41 fw ∧ LA fw (t.map wm)) ∧ (∀ j, j ≠ 62 → (j < 70 ∨ 87 < j) → h' j = h j) ∧ MrP h'
def PI (h : Hp) (th : Nat) (S : Sc) (sv : Bool) (Z : Sc) (F : Sf) (c t : List Nat) (i : Nat) (op : Bool) (h' : Hp) : Prop := ∃ u, PIu h th S sv Z F c t i op h' u
theorem PIu.set {h : Hp} {th th' : Nat} {S Z : Sc} {sv : Bool} {F F' : Sf} {c t : List Nat} {i i' : Nat} {op op' : Bool} {h' : Hp} {u u' : Nat → Int32} (H : PIu h th S sv Z F c t i op h' u) (h0 : u' 0 = nI th') (hm : MuP S sv Z F' u') (h19 : u' 19 = u 19) (h20 : u' 20 = u 20) (h21 : u' 21 = nI i') (h22 : u' 22 = bI op') : PIu h th' S sv Z F' c t i' op' (hu h' 62 (MO u')) u' := by
  obtain ⟨a0, a1, a2, a3, a4, a5, a6, ⟨fc, b1, b2⟩, ⟨fw, b3, b4⟩, b5, b6⟩ := H
  exact ⟨hu_s _ _ _, h0, hm, h19.trans a3, h20.trans a4, h21, h22, ⟨fc, (hu_n _ _ (by decide)).trans b1, b2⟩, ⟨fw, (hu_n _ _ (by decide)).trans b3, b4⟩, fun j j1 j2 => (hu_n _ _ j1).trans (b5 j j1 j2), b6.eq (fun j _ _ => hu_n _ _ (by omega))⟩
theorem MrP.up {h : Hp} (H : MrP h) {i : Nat} (hi : mIn i) (f : Nat → Int32) : MrP (hu h i (io (mLn i) f)) := by
  have hi2 : 70 ≤ i ∧ i ≤ 87 ∧ i ≠ 83 ∧ i ≠ 86 := by unfold mIn at hi; omega
  refine ⟨fun j hj => ?_, ?_, ?_⟩
  · by_cases e : j = i
    · rw [e]; exact ⟨f, hu_s _ _ _⟩
    · obtain ⟨f9, h9⟩ := H.1 j hj
      exact ⟨f9, (hu_n _ _ e).trans h9⟩
  · obtain ⟨f9, h9⟩ := H.2.1
    exact ⟨f9, (hu_n _ _ (by omega)).trans h9⟩
  · obtain ⟨f9, h9⟩ := H.2.2
    exact ⟨f9, (hu_n _ _ (by omega)).trans h9⟩
theorem k_rank {w : Wt} {h : Hp} {x : Nat} (hx : x < 2 ^ 31) : ConN mX9_rank 0 (0, 0) w [.int (nI x)] h (.inl (some (.int (nI (rk9 x))))) (fun h' => h' = h) := by
  unfold rk9
  refine conI (by decide +kernel) ⟨fun _ => rfl, rfl, by simp⟩ (fun X C => ?_)
  change V X (0, 0) w h 0 [some (.int (nI x))] []
  have L4 : ¬ (x = 61 ∨ x = 60) → ¬ (x = 43 ∨ x = 45) → ¬ (x = 42 ∨ x = 47 ∨ x = 37) → V X (0, 0) w h 54 [some (.int (nI x))] [] := by
    intro n1 n2 n3
    rw [if_neg n1, if_neg n2, if_neg n3] at C
    refine v_iload_n C (oX9_rank.at 27 rfl) rfl ?_
    refine v_bipush C (oX9_rank.at 28 rfl) (v := nI 33) rfl ?_
    refine v_icmp_neN C (oX9_rank.at 29 rfl) (tgt := 64) (by decide) (by omega) (by omega) (fun hc => ?_) (fun hc => ?_)
    · rw [if_neg hc] at C
      refine v_iconst C (oX9_rank.at 32 rfl) (v := nI 0) rfl ?_
      exact v_iret C (oX9_rank.at 33 rfl) rfl rfl ⟨Nat.le_refl _, Nat.le_refl _⟩ ⟨rfl, rfl⟩
    · rw [if_pos hc] at C
      refine v_iconst C (oX9_rank.at 30 rfl) (v := nI 4) rfl ?_
      refine v_goto C (oX9_rank.at 31 rfl) (tgt := 65) (by decide) ?_
      exact v_iret C (oX9_rank.at 33 rfl) rfl rfl ⟨Nat.le_refl _, Nat.le_refl _⟩ ⟨rfl, rfl⟩
  have T3 : ¬ (x = 61 ∨ x = 60) → ¬ (x = 43 ∨ x = 45) → (x = 42 ∨ x = 47 ∨ x = 37) → V X (0, 0) w h 50 [some (.int (nI x))] [] := by
    intro n1 n2 n3
    rw [if_neg n1, if_neg n2, if_pos n3] at C
    refine v_iconst C (oX9_rank.at 25 rfl) (v := nI 3) rfl ?_
    refine v_goto C (oX9_rank.at 26 rfl) (tgt := 65) (by decide) ?_
    exact v_iret C (oX9_rank.at 33 rfl) rfl rfl ⟨Nat.le_refl _, Nat.le_refl _⟩ ⟨rfl, rfl⟩
  have L3 : ¬ (x = 61 ∨ x = 60) → ¬ (x = 43 ∨ x = 45) → V X (0, 0) w h 32 [some (.int (nI x))] [] := by
    intro n1 n2
    refine v_iload_n C (oX9_rank.at 16 rfl) rfl ?_
    refine v_bipush C (oX9_rank.at 17 rfl) (v := nI 42) rfl ?_
    refine v_icmp_eqN C (oX9_rank.at 18 rfl) (tgt := 50) (by decide) (by omega) (by omega) (fun hc => ?_) (fun hc => ?_)
    · exact T3 n1 n2 (by omega)
    · refine v_iload_n C (oX9_rank.at 19 rfl) rfl ?_
      refine v_bipush C (oX9_rank.at 20 rfl) (v := nI 47) rfl ?_
      refine v_icmp_eqN C (oX9_rank.at 21 rfl) (tgt := 50) (by decide) (by omega) (by omega) (fun hc => ?_) (fun hc => ?_)
      · exact T3 n1 n2 (by omega)
      · refine v_iload_n C (oX9_rank.at 22 rfl) rfl ?_
        refine v_bipush C (oX9_rank.at 23 rfl) (v := nI 37) rfl ?_
        refine v_icmp_neN C (oX9_rank.at 24 rfl) (tgt := 54) (by decide) (by omega) (by omega) (fun hc => ?_) (fun hc => ?_)
        · exact L4 n1 n2 (by omega)
        · exact T3 n1 n2 (by omega)
  have T2 : ¬ (x = 61 ∨ x = 60) → (x = 43 ∨ x = 45) → V X (0, 0) w h 28 [some (.int (nI x))] [] := by
    intro n1 n2
    rw [if_neg n1, if_pos n2] at C
    refine v_iconst C (oX9_rank.at 14 rfl) (v := nI 2) rfl ?_
    refine v_goto C (oX9_rank.at 15 rfl) (tgt := 65) (by decide) ?_
    exact v_iret C (oX9_rank.at 33 rfl) rfl rfl ⟨Nat.le_refl _, Nat.le_refl _⟩ ⟨rfl, rfl⟩
  have L2 : ¬ (x = 61 ∨ x = 60) → V X (0, 0) w h 16 [some (.int (nI x))] [] := by
    intro n1
    refine v_iload_n C (oX9_rank.at 8 rfl) rfl ?_
    refine v_bipush C (oX9_rank.at 9 rfl) (v := nI 43) rfl ?_
    refine v_icmp_eqN C (oX9_rank.at 10 rfl) (tgt := 28) (by decide) (by omega) (by omega) (fun hc => ?_) (fun hc => ?_)
    · exact T2 n1 (by omega)
    · refine v_iload_n C (oX9_rank.at 11 rfl) rfl ?_
      refine v_bipush C (oX9_rank.at 12 rfl) (v := nI 45) rfl ?_
      refine v_icmp_neN C (oX9_rank.at 13 rfl) (tgt := 32) (by decide) (by omega) (by omega) (fun hc => ?_) (fun hc => ?_)
      · exact L3 n1 (by omega)
      · exact T2 n1 (by omega)
  have T1 : (x = 61 ∨ x = 60) → V X (0, 0) w h 12 [some (.int (nI x))] [] := by
    intro n1
    rw [if_pos n1] at C
    refine v_iconst C (oX9_rank.at 6 rfl) (v := nI 1) rfl ?_
    refine v_goto C (oX9_rank.at 7 rfl) (tgt := 65) (by decide) ?_
    exact v_iret C (oX9_rank.at 33 rfl) rfl rfl ⟨Nat.le_refl _, Nat.le_refl _⟩ ⟨rfl, rfl⟩
  refine v_iload_n C (oX9_rank.at 0 rfl) rfl ?_
  refine v_bipush C (oX9_rank.at 1 rfl) (v := nI 61) rfl ?_
  refine v_icmp_eqN C (oX9_rank.at 2 rfl) (tgt := 12) (by decide) (by omega) (by omega) (fun hc => ?_) (fun hc => ?_)
  · exact T1 (by omega)
  · refine v_iload_n C (oX9_rank.at 3 rfl) rfl ?_
    refine v_bipush C (oX9_rank.at 4 rfl) (v := nI 60) rfl ?_
    refine v_icmp_neN C (oX9_rank.at 5 rfl) (tgt := 16) (by decide) (by omega) (by omega) (fun hc => ?_) (fun hc => ?_)
    · exact L2 (by omega)
    · exact T1 (by omega)
theorem k9_here {w : Wt} {h h1 : Hp} {th : Nat} {S Z : Sc} {sv : Bool} {F : Sf} {c t : List Nat} {i : Nat} {op : Bool} {fb : Nat → Int32} (hI : PI h th S sv Z F c t i op h1) (h69 : h 69 = io 40 fb) (hB : ∀ j, j < F.1 → fb j = nI (F.2.2.2 j)) (hF : F.1 ≤ 40) (hi : i ≤ F.1) : ConN mX9_here 0 (0, 0) w [.ref 62] h1 (.inl (some (.int (if i < F.1 then nI (F.2.2.2 i) else -1)))) (fun h' => h' = h1) := by
  obtain ⟨u, a0, a1, a2, a3, a4, a5, a6, -, -, b5, -⟩ := hI
  have h69' : h1 69 = io 40 fb := (b5 69 (by decide) (by decide)).trans h69
  refine conI (by decide +kernel) ⟨fun _ => rfl, rfl, by simp⟩ (fun X C => ?_)
  change V X (0, 0) w h1 0 [some (.ref 62)] []
  refine v_aload_n C (oX9_here.at 0 rfl) rfl ?_
  refine v_getf C (oX9_here.at 1 rfl) fX9_152 a0 (congrArg (fun z => some (Value.int z)) (a5)) ?_
  refine v_aload_n C (oX9_here.at 2 rfl) rfl ?_
  refine v_getf C (oX9_here.at 3 rfl) fX9_149 a0 (congrArg (fun z => some (Value.int z)) (a2.2.2.2.2.1)) ?_
  refine v_icmp_geN C (oX9_here.at 4 rfl) (tgt := 23) (by decide) (by omega) (by omega) (fun hc => ?_) (fun hc => ?_)
  · rw [if_neg (by omega)] at C
    refine v_iconst C (oX9_here.at 11 rfl) (v := -1) rfl ?_
    exact v_iret C (oX9_here.at 12 rfl) rfl rfl ⟨Nat.le_refl _, Nat.le_refl _⟩ ⟨rfl, rfl⟩
  · rw [if_pos hc] at C
    refine v_aload_n C (oX9_here.at 5 rfl) rfl ?_
    refine v_getf C (oX9_here.at 6 rfl) fX9_35 a0 rfl ?_
    refine v_aload_n C (oX9_here.at 7 rfl) rfl ?_
    refine v_getf C (oX9_here.at 8 rfl) fX9_152 a0 (congrArg (fun z => some (Value.int z)) (a5)) ?_
    refine v_iald C (oX9_here.at 9 rfl) h69' (by decide) rfl (by omega) (hB i hc) ?_
    refine v_goto C (oX9_here.at 10 rfl) (tgt := 24) (by decide) ?_
    exact v_iret C (oX9_here.at 12 rfl) rfl rfl ⟨Nat.le_refl _, Nat.le_refl _⟩ ⟨rfl, rfl⟩
theorem k9_emits {w : Wt} {h h1 : Hp} {th : Nat} {S Z : Sc} {sv : Bool} {F : Sf} {c t : List Nat} {i y : Nat} {op : Bool} (hI : PI h th S sv Z F c t i op h1) (hl : c.length < 40) : ConN mX9_emits 0 (0, 0) w [.ref 62, .int (nI (cm y))] h1 (.inl none) (PI h th S sv Z F (y :: c) t i op) := by
  obtain ⟨u, a0, a1, a2, a3, a4, a5, a6, ⟨fc, b1, b2⟩, ⟨fw, b3, b4⟩, b5, b6⟩ := hI
  have hp := b2.push (cm y)
  rw [List.length_map] at hp
  refine conI (by decide +kernel) ⟨fun _ => rfl, rfl, by simp⟩ (fun X C => ?_)
  change V X (0, 0) w h1 0 [some (.ref 62), some (.int (nI (cm y)))] []
  refine v_aload_n C (oX9_emits.at 0 rfl) rfl ?_
  refine v_getf C (oX9_emits.at 1 rfl) fX9_47 a0 rfl ?_
  refine v_aload_n C (oX9_emits.at 2 rfl) rfl ?_
  refine v_getf C (oX9_emits.at 3 rfl) fX9_155 a0 (congrArg (fun z => some (Value.int z)) (a3)) ?_
  refine v_iload_n C (oX9_emits.at 4 rfl) rfl ?_
  refine v_iast C (oX9_emits.at 5 rfl) b1 (by decide) rfl (by omega) ?_
  refine v_aload_n C (oX9_emits.at 6 rfl) rfl ?_
  refine v_dup C (oX9_emits.at 7 rfl) rfl ?_
  refine v_getf C (oX9_emits.at 8 rfl) fX9_155 ((hu_n _ _ (by decide)).trans a0) (congrArg (fun z => some (Value.int z)) (a3)) ?_
  refine v_iconst C (oX9_emits.at 9 rfl) (v := nI 1) rfl ?_
  refine v_iaddN C (oX9_emits.at 10 rfl) ?_
  refine v_put9 C (oX9_emits.at 11 rfl) fX9_155 p9_19 ((hu_n _ _ (by decide)).trans a0) ⟨rfl, rfl, rfl⟩ ?_
  exact v_vret C (oX9_emits.at 12 rfl) rfl rfl ⟨Nat.le_refl _, Nat.le_refl _⟩ ⟨rfl, _, hu_s _ _ _, a1, a2, by rw [List.length_cons]; rfl, a4, a5, a6, ⟨_, (hu_n _ _ (by decide)).trans (hu_s _ _ _), hp⟩, ⟨fw, (hu_n _ _ (by decide)).trans ((hu_n _ _ (by decide)).trans b3), b4⟩, fun j j1 j2 => (hu_n _ _ j1).trans ((hu_n _ _ (by omega)).trans (b5 j j1 j2)), (b6.up (i := 72) (Or.inl ⟨by decide, by decide⟩) _).eq (fun j _ _ => hu_n _ _ (by omega))⟩
theorem k9_waitsFor {w : Wt} {h h1 : Hp} {th : Nat} {S Z : Sc} {sv : Bool} {F : Sf} {c t : List Nat} {i y : Nat} {op : Bool} (hI : PI h th S sv Z F c t i op h1) (hl : t.length < 41) : ConN mX9_waitsFor 0 (0, 0) w [.ref 62, .int (nI (wm y))] h1 (.inl none) (PI h th S sv Z F c (y :: t) i op) := by
  obtain ⟨u, a0, a1, a2, a3, a4, a5, a6, ⟨fc, b1, b2⟩, ⟨fw, b3, b4⟩, b5, b6⟩ := hI
  have hp := b4.push (wm y)
  rw [List.length_map] at hp
  refine conI (by decide +kernel) ⟨fun _ => rfl, rfl, by simp⟩ (fun X C => ?_)
  change V X (0, 0) w h1 0 [some (.ref 62), some (.int (nI (wm y)))] []
  refine v_aload_n C (oX9_waitsFor.at 0 rfl) rfl ?_
  refine v_getf C (oX9_waitsFor.at 1 rfl) fX9_50 a0 rfl ?_
  refine v_aload_n C (oX9_waitsFor.at 2 rfl) rfl ?_
  refine v_getf C (oX9_waitsFor.at 3 rfl) fX9_158 a0 (congrArg (fun z => some (Value.int z)) (a4)) ?_
  refine v_iload_n C (oX9_waitsFor.at 4 rfl) rfl ?_
  refine v_iast C (oX9_waitsFor.at 5 rfl) b3 (by decide) rfl (by omega) ?_
  refine v_aload_n C (oX9_waitsFor.at 6 rfl) rfl ?_
  refine v_dup C (oX9_waitsFor.at 7 rfl) rfl ?_
  refine v_getf C (oX9_waitsFor.at 8 rfl) fX9_158 ((hu_n _ _ (by decide)).trans a0) (congrArg (fun z => some (Value.int z)) (a4)) ?_
  refine v_iconst C (oX9_waitsFor.at 9 rfl) (v := nI 1) rfl ?_
  refine v_iaddN C (oX9_waitsFor.at 10 rfl) ?_
  refine v_put9 C (oX9_waitsFor.at 11 rfl) fX9_158 p9_20 ((hu_n _ _ (by decide)).trans a0) ⟨rfl, rfl, rfl⟩ ?_
  exact v_vret C (oX9_waitsFor.at 12 rfl) rfl rfl ⟨Nat.le_refl _, Nat.le_refl _⟩ ⟨rfl, _, hu_s _ _ _, a1, a2, a3, by rw [List.length_cons]; rfl, a5, a6, ⟨fc, (hu_n _ _ (by decide)).trans ((hu_n _ _ (by decide)).trans b1), b2⟩, ⟨_, (hu_n _ _ (by decide)).trans (hu_s _ _ _), hp⟩, fun j j1 j2 => (hu_n _ _ j1).trans ((hu_n _ _ (by omega)).trans (b5 j j1 j2)), (b6.up (i := 73) (Or.inl ⟨by decide, by decide⟩) _).eq (fun j _ _ => hu_n _ _ (by omega))⟩
theorem k9_top {w : Wt} {h h1 : Hp} {th : Nat} {S Z : Sc} {sv : Bool} {F : Sf} {c t : List Nat} {i : Nat} {op : Bool} (hI : PI h th S sv Z F c t i op h1) (hl : t.length ≤ 41) : ConN mX9_top 0 (0, 0) w [.ref 62] h1 (.inl (some (.int (nI ((t.map wm).headD 0))))) (fun h' => h' = h1) := by
  obtain ⟨u, a0, a1, a2, a3, a4, a5, a6, -, ⟨fw, b3, b4⟩, -⟩ := hI
  refine conI (by decide +kernel) ⟨fun _ => rfl, rfl, by simp⟩ (fun X C => ?_)
  change V X (0, 0) w h1 0 [some (.ref 62)] []
  cases t with
  | nil =>
    rw [show (([] : List Nat).map wm).headD 0 = 0 from rfl] at C
    rw [List.length_nil] at a4
    refine v_aload_n C (oX9_top.at 0 rfl) rfl ?_
    refine v_getf C (oX9_top.at 1 rfl) fX9_158 a0 (congrArg (fun z => some (Value.int z)) (a4)) ?_
    refine v_if_neN C (oX9_top.at 2 rfl) (tgt := 11) (by decide) (by omega) (fun hc => absurd hc (by omega)) (fun hc => ?_)
    refine v_iconst C (oX9_top.at 3 rfl) (v := nI 0) rfl ?_
    refine v_goto C (oX9_top.at 4 rfl) (tgt := 22) (by decide) ?_
    exact v_iret C (oX9_top.at 12 rfl) rfl rfl ⟨Nat.le_refl _, Nat.le_refl _⟩ ⟨rfl, rfl⟩
  | cons x t =>
    rw [show ((x :: t).map wm).headD 0 = wm x from rfl] at C
    rw [List.length_cons] at a4 hl
    have hv : fw (t.length + 1 - 1) = nI (wm x) := by
      have := b4 t.length (by rw [List.length_map, List.length_cons]; omega)
      rw [List.length_map, List.length_cons, show t.length + 1 - 1 - t.length = 0 by omega] at this
      exact this
    refine v_aload_n C (oX9_top.at 0 rfl) rfl ?_
    refine v_getf C (oX9_top.at 1 rfl) fX9_158 a0 (congrArg (fun z => some (Value.int z)) (a4)) ?_
    refine v_if_neN C (oX9_top.at 2 rfl) (tgt := 11) (by decide) (by omega) (fun hc => ?_) (fun hc => absurd hc (by omega))
    refine v_aload_n C (oX9_top.at 5 rfl) rfl ?_
    refine v_getf C (oX9_top.at 6 rfl) fX9_50 a0 rfl ?_
    refine v_aload_n C (oX9_top.at 7 rfl) rfl ?_
    refine v_getf C (oX9_top.at 8 rfl) fX9_158 a0 (congrArg (fun z => some (Value.int z)) (a4)) ?_
    refine v_iconst C (oX9_top.at 9 rfl) (v := nI 1) rfl ?_
    refine v_isubN C (oX9_top.at 10 rfl) (by omega) ?_
    refine v_iald C (oX9_top.at 11 rfl) b3 (by decide) rfl (by omega) hv ?_
    exact v_iret C (oX9_top.at 12 rfl) rfl rfl ⟨Nat.le_refl _, Nat.le_refl _⟩ ⟨rfl, rfl⟩
theorem k9_lets {w : Wt} {h : Hp} {th : Nat} {S Z : Sc} {sv : Bool} {F : Sf} {i r : Nat} {op : Bool} (hr1 : 1 ≤ r) (hr4 : r ≤ 4) : ∀ (t0 c0 : List Nat) (h0 : Hp), PI h th S sv Z F c0 t0 i op h0 → c0.length + t0.length ≤ 40 → TW t0 → ConN mX9_lets 1 (0, 0) w [.ref 62, .int (nI r)] h0 (.inl none) (PI h th S sv Z F (mv9 r c0 t0).1 (mv9 r c0 t0).2 i op) := by
  intro t0 c0 h0 hI0 hl0 hw0
  refine conI (by decide +kernel) ⟨fun _ => rfl, rfl, by simp⟩ (fun X C => ?_)
  change V X (0, 0) w h0 0 [some (.ref 62), some (.int (nI r))] []
  change V X (0, 0) w h0 0 [some (.ref 62), some (.int (nI r))] []
  suffices H : ∀ (t c : List Nat) (h1 : Hp), PI h th S sv Z F c t i op h1 → c.length + t.length ≤ 40 → TW t → mv9 r c t = mv9 r c0 t0 → V X (0, 0) w h1 0 [some (.ref 62), some (.int (nI r))] [] from H t0 c0 h0 hI0 hl0 hw0 rfl
  intro t
  induction t with
  | nil =>
    intro c h1 hI hl hw he
    have hI9 := hI
    obtain ⟨u, a0, a1, a2, a3, a4, a5, a6, -⟩ := hI9
    rw [List.length_nil] at a4
    rw [← he] at C
    refine v_aload_n C (oX9_lets.at 0 rfl) rfl ?_
    refine v_getf C (oX9_lets.at 1 rfl) fX9_158 a0 (congrArg (fun z => some (Value.int z)) (a4)) ?_
    refine v_if_leN C (oX9_lets.at 2 rfl) (tgt := 44) (by decide) (by omega) (fun hc => ?_) (fun hc => absurd hc (by omega))
    exact v_vret C (oX9_lets.at 22 rfl) rfl rfl ⟨Nat.le_refl _, Nat.le_refl _⟩ ⟨rfl, hI⟩
  | cons x t ih =>
    intro c h1 hI hl hw he
    rw [List.length_cons] at hl
    have hI9 := hI
    obtain ⟨u, a0, a1, a2, a3, a4, a5, a6, ⟨fc, b1, b2⟩, ⟨fw, b3, b4⟩, b5, b6⟩ := hI9
    rw [List.length_cons] at a4
    have kt := k9_top (w := w) hI (by rw [List.length_cons]; omega)
    rw [show ((x :: t).map wm).headD 0 = wm x from rfl] at kt
    have hx := hw.hd.lt
    have hwx := wm_lt hx
    have hr9 := rk9_le x
    have kr := k_rank (w := w) (h := h1) (x := wm x) (by omega)
    rw [rk9_wm] at kr
    rw [mv9] at he
    refine v_aload_n C (oX9_lets.at 0 rfl) rfl ?_
    refine v_getf C (oX9_lets.at 1 rfl) fX9_158 a0 (congrArg (fun z => some (Value.int z)) (a4)) ?_
    refine v_if_leN C (oX9_lets.at 2 rfl) (tgt := 44) (by decide) (by omega) (fun hc => absurd hc (by omega)) (fun hc => ?_)
    refine v_aload_n C (oX9_lets.at 3 rfl) rfl ?_
    refine v_callV C (oX9_lets.at 4 rfl) cX9_161 a0 (kt) rfl rfl rfl ⟨rfl, rfl⟩ rfl rfl (fun _ => rfl) (fun h' hp => ?_)
    rw [show h' = _ from hp]
    dsimp only [Option.toList, List.cons_append, List.nil_append]
    refine v_callS C (oX9_lets.at 5 rfl) cX9_164 (kr) rfl rfl rfl ⟨rfl, rfl⟩ rfl rfl (fun _ => rfl) (fun h' hp => ?_)
    rw [show h' = _ from hp]
    dsimp only [Option.toList, List.cons_append, List.nil_append]
    refine v_iload_n C (oX9_lets.at 6 rfl) rfl ?_
    refine v_icmp_ltN C (oX9_lets.at 7 rfl) (tgt := 44) (by decide) (by omega) (by omega) (fun hc => ?_) (fun hc => ?_)
    · rw [if_neg (by omega)] at he
      rw [← he] at C
      exact v_vret C (oX9_lets.at 22 rfl) rfl rfl ⟨Nat.le_refl _, Nat.le_refl _⟩ ⟨rfl, hI⟩
    · rw [if_pos (by omega)] at he
      have hop := wm_op (x := x) (by omega)
      have hv : fw (t.length + 1 - 1) = nI (cm x) := by
        have := b4 t.length (by rw [List.length_map, List.length_cons]; omega)
        rw [List.length_map, List.length_cons, show t.length + 1 - 1 - t.length = 0 by omega] at this
        rw [hop.2, ← hop.1]
        exact this
      have hI2 : PI h th S sv Z F c t i op (hu h1 62 (MO (upd u 20 (nI (t.length + 1 - 1))))) := by
        refine ⟨_, hu_s _ _ _, a1, a2, a3, rfl, a5, a6, ⟨fc, (hu_n _ _ (by decide)).trans b1, b2⟩, ⟨fw, (hu_n _ _ (by decide)).trans b3, ?_⟩, fun j j1 j2 => (hu_n _ _ j1).trans (b5 j j1 j2), b6.eq (fun j _ _ => hu_n _ _ (by omega))⟩
        intro j hj
        rw [List.length_map] at hj
        have := b4 j (by rw [List.length_map, List.length_cons]; omega)
        rw [List.length_map, List.length_cons, show t.length + 1 - 1 - j = t.length - 1 - j + 1 by omega] at this
        rw [this, List.length_map]
        rfl
      refine v_aload_n C (oX9_lets.at 8 rfl) rfl ?_
      refine v_dup C (oX9_lets.at 9 rfl) rfl ?_
      refine v_getf C (oX9_lets.at 10 rfl) fX9_158 a0 (congrArg (fun z => some (Value.int z)) (a4)) ?_
      refine v_iconst C (oX9_lets.at 11 rfl) (v := nI 1) rfl ?_
      refine v_isubN C (oX9_lets.at 12 rfl) (by omega) ?_
      refine v_put9 C (oX9_lets.at 13 rfl) fX9_158 p9_20 a0 ⟨rfl, rfl, rfl⟩ ?_
      refine v_aload_n C (oX9_lets.at 14 rfl) rfl ?_
      refine v_aload_n C (oX9_lets.at 15 rfl) rfl ?_
      refine v_getf C (oX9_lets.at 16 rfl) fX9_50 (hu_s _ _ _) rfl ?_
      refine v_aload_n C (oX9_lets.at 17 rfl) rfl ?_
      refine v_getf C (oX9_lets.at 18 rfl) fX9_158 (hu_s _ _ _) (congrArg (fun z => some (Value.int z)) (rfl)) ?_
      refine v_iald C (oX9_lets.at 19 rfl) ((hu_n _ _ (by decide)).trans b3) (by decide) rfl (by omega) hv ?_
      refine v_callV C (oX9_lets.at 20 rfl) cX9_167 (hu_s _ _ _) (k9_emits (y := x) hI2 (by omega)) rfl rfl rfl ⟨rfl, rfl⟩ rfl rfl (fun _ => rfl) (fun h' hp => ?_)
      dsimp only [Option.toList, List.cons_append, List.nil_append]
      refine v_goto C (oX9_lets.at 21 rfl) (tgt := 0) (by decide) ?_
      exact ih (x :: c) h' hp (by rw [List.length_cons]; omega) hw.tl he
theorem k9_fails {w : Wt} {h h1 : Hp} {th q : Nat} {S Z : Sc} {sv : Bool} {F : Sf} {c t : List Nat} {i : Nat} {op : Bool} (hI : PI h th S sv Z F c t i op h1) : ConN mX9_fails 0 (0, 0) w [.ref 62, .int (nI q)] h1 (.inl (some (.int (bI false)))) (PI h th S sv Z (F.1, q, nI i, F.2.2.2) c t i op) := by
  obtain ⟨u, hI⟩ := hI
  have hI9 := hI
  obtain ⟨a0, a1, a2, a3, a4, a5, a6, -⟩ := hI9
  refine conI (by decide +kernel) ⟨fun _ => rfl, rfl, by simp⟩ (fun X C => ?_)
  change V X (0, 0) w h1 0 [some (.ref 62), some (.int (nI q))] []
  refine v_aload_n C (oX9_fails.at 0 rfl) rfl ?_
  refine v_iload_n C (oX9_fails.at 1 rfl) rfl ?_
  refine v_put9 C (oX9_fails.at 2 rfl) fX9_171 p9_13 a0 ⟨rfl, rfl, rfl⟩ ?_
  refine v_aload_n C (oX9_fails.at 3 rfl) rfl ?_
  refine v_aload_n C (oX9_fails.at 4 rfl) rfl ?_
  refine v_getf C (oX9_fails.at 5 rfl) fX9_152 (hu_s _ _ _) (congrArg (fun z => some (Value.int z)) (a5)) ?_
  refine v_put9u C (oX9_fails.at 6 rfl) fX9_38 p9_14 ⟨rfl, rfl, rfl⟩ ?_
  refine v_iconst C (oX9_fails.at 7 rfl) (v := nI 0) rfl ?_
  exact v_zret0 C (oX9_fails.at 8 rfl) rfl rfl ⟨Nat.le_refl _, Nat.le_refl _⟩ ⟨rfl, _, hI.set (u' := upd (upd u 13 (nI q)) 14 (nI i)) a1 ⟨a2.1, a2.2.1, a2.2.2.1, a2.2.2.2.1, a2.2.2.2.2.1, rfl, rfl⟩ rfl rfl a5 a6⟩
theorem k9_isWrong {w : Wt} {h h1 : Hp} {th : Nat} {S Z : Sc} {sv : Bool} {F : Sf} {c t : List Nat} {i : Nat} {op : Bool} (hI : PI h th S sv Z F c t i op h1) (hi : i ≤ 40) (hF : F.1 ≤ 40) : ConN mX9_isWrong 1 (0, 0) w [.ref 62] h1 (.inl (some (.int (bI false)))) (PI h th S sv Z (F.1, (if i = F.1 then 2 else 1), nI i, F.2.2.2) c t i op) := by
  have hI9 := hI
  obtain ⟨u, a0, a1, a2, a3, a4, a5, a6, -⟩ := hI9
  refine conI (by decide +kernel) ⟨fun _ => rfl, rfl, by simp⟩ (fun X C => ?_)
  change V X (0, 0) w h1 0 [some (.ref 62)] []
  refine v_aload_n C (oX9_isWrong.at 0 rfl) rfl ?_
  refine v_aload_n C (oX9_isWrong.at 1 rfl) rfl ?_
  refine v_getf C (oX9_isWrong.at 2 rfl) fX9_152 a0 (congrArg (fun z => some (Value.int z)) (a5)) ?_
  refine v_aload_n C (oX9_isWrong.at 3 rfl) rfl ?_
  refine v_getf C (oX9_isWrong.at 4 rfl) fX9_149 a0 (congrArg (fun z => some (Value.int z)) (a2.2.2.2.2.1)) ?_
  refine v_icmp_neN C (oX9_isWrong.at 5 rfl) (tgt := 16) (by decide) (by omega) (by omega) (fun hc => ?_) (fun hc => ?_)
  · rw [if_neg hc] at C
    refine v_iconst C (oX9_isWrong.at 8 rfl) (v := nI 1) rfl ?_
    refine v_callV C (oX9_isWrong.at 9 rfl) cX9_174 a0 (k9_fails hI) rfl rfl rfl ⟨rfl, rfl⟩ rfl rfl (fun _ => rfl) (fun h' hp => ?_)
    dsimp only [Option.toList, List.cons_append, List.nil_append]
    exact v_zret C (oX9_isWrong.at 10 rfl) rfl rfl ⟨Nat.le_refl _, Nat.le_refl _⟩ ⟨rfl, hp⟩
  · rw [if_pos hc] at C
    refine v_iconst C (oX9_isWrong.at 6 rfl) (v := nI 2) rfl ?_
    refine v_goto C (oX9_isWrong.at 7 rfl) (tgt := 17) (by decide) ?_
    refine v_callV C (oX9_isWrong.at 9 rfl) cX9_174 a0 (k9_fails hI) rfl rfl rfl ⟨rfl, rfl⟩ rfl rfl (fun _ => rfl) (fun h' hp => ?_)
    dsimp only [Option.toList, List.cons_append, List.nil_append]
    exact v_zret C (oX9_isWrong.at 10 rfl) rfl rfl ⟨Nat.le_refl _, Nat.le_refl _⟩ ⟨rfl, hp⟩
