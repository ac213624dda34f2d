/-! ===== Formula: the values ===== -/
def LV (f : Nat → Int32) (l : List Int32) : Prop := ∀ i, i < l.length → f i = l.getD (l.length - 1 - i) 0
theorem LV.nil (f : Nat → Int32) : LV f [] := fun i hi => absurd hi (Nat.not_lt_zero i)
theorem LV.push {f : Nat → Int32} {l : List Int32} (h : LV f l) (x : Int32) : LV (upd f l.length x) (x :: l) := by
  intro i hi
  rw [List.length_cons] at hi ⊢
  by_cases e : i = l.length
  · rw [e, pk_us, show l.length + 1 - 1 - l.length = 0 by omega]; rfl
  · rw [pk_un e, h i (by omega), show l.length + 1 - 1 - i = l.length - 1 - i + 1 by omega]; rfl
theorem LV.pop {f : Nat → Int32} {l : List Int32} {x : Int32} (h : LV f (x :: l)) : LV f l := by
  intro i hi
  rw [h i (by rw [List.length_cons]; omega), List.length_cons, show l.length + 1 - 1 - i = l.length - 1 - i + 1 by omega]; rfl
theorem LV.top {f : Nat → Int32} {l : List Int32} {x : Int32} (h : LV f (x :: l)) : f l.length = x := by
  rw [h _ (by rw [List.length_cons]; omega), List.length_cons, show l.length + 1 - 1 - l.length = 0 by omega]; rfl
def isOp (x : Nat) : Prop := x = 43 ∨ x = 45 ∨ x = 42 ∨ x = 47 ∨ x = 37 ∨ x = 61 ∨ x = 60 ∨ x = 110 ∨ x = 120
def opd (wd x : Nat) : Bool := decide ((48 ≤ x ∧ x ≤ 57) ∨ (97 ≤ x ∧ x < 97 + wd ∧ x ≤ 100))
def cmbK (x : Nat) (b : Int32) : Nat := if b = 0 then (if x = 47 then 4 else if x = 37 then 5 else 0) else 0
def cmbV (x : Nat) (a b : Int32) : Int32 := if x = 43 then a + b else if x = 45 then a - b else if x = 42 then a * b else if x = 47 then a / b else if x = 37 then a - a / b * b else if x = 61 then (if a = b then 1 else 0) else if x = 60 then (if a < b then 1 else 0) else if x = 110 then (if b < a then b else a) else (if a < b then b else a)
theorem k_combine {w : Wt} {h : Hp} {p len x cl wc : Nat} {ep : Int32} {a b : Int32} (ho : h p = FO p len 0 ep cl wc) (hx : isOp x) : ConN mX0_combine 1 (0, 0) w [.ref p, .int (nI x), .int a, .int b] h (.inl (some (.int (if cmbK x b = 0 then cmbV x a b else 0)))) (fun h' => h' = if cmbK x b = 0 then h else hu h p (FO p len (cmbK x b) ep cl wc)) := by
  refine conI (by decide +kernel) ⟨fun _ => rfl, rfl, by simp⟩ (fun X C => ?_)
  change V X (0, 0) w h 0 [some (.ref p), some (.int (nI x)), some (.int a), some (.int b)] []
  refine v_iload_n C (oX0_combine.at 0 rfl) rfl ?_
  rcases hx with rfl | rfl | rfl | rfl | rfl | rfl | rfl | rfl | rfl
  · refine v_lookup C (oX0_combine.at 1 rfl) (by decide) (off := 75) (tgt := 76) (by decide) (by decide) ?_
    have e : cmbK 43 b = 0 := by unfold cmbK; split <;> rfl
    rw [if_pos e, if_pos e] at C
    refine v_iload_n C (oX0_combine.at 2 rfl) rfl ?_
    refine v_iload_n C (oX0_combine.at 3 rfl) rfl ?_
    refine v_iadd C (oX0_combine.at 4 rfl) ?_
    exact v_iret C (oX0_combine.at 5 rfl) rfl rfl ⟨Nat.le_refl _, Nat.le_refl _⟩ ⟨rfl, rfl⟩
  · refine v_lookup C (oX0_combine.at 1 rfl) (by decide) (off := 79) (tgt := 80) (by decide) (by decide) ?_
    have e : cmbK 45 b = 0 := by unfold cmbK; split <;> rfl
    rw [if_pos e, if_pos e] at C
    refine v_iload_n C (oX0_combine.at 6 rfl) rfl ?_
    refine v_iload_n C (oX0_combine.at 7 rfl) rfl ?_
    refine v_isub C (oX0_combine.at 8 rfl) ?_
    exact v_iret C (oX0_combine.at 9 rfl) rfl rfl ⟨Nat.le_refl _, Nat.le_refl _⟩ ⟨rfl, rfl⟩
  · refine v_lookup C (oX0_combine.at 1 rfl) (by decide) (off := 83) (tgt := 84) (by decide) (by decide) ?_
    have e : cmbK 42 b = 0 := by unfold cmbK; split <;> rfl
    rw [if_pos e, if_pos e] at C
    refine v_iload_n C (oX0_combine.at 10 rfl) rfl ?_
    refine v_iload_n C (oX0_combine.at 11 rfl) rfl ?_
    refine v_imul C (oX0_combine.at 12 rfl) ?_
    exact v_iret C (oX0_combine.at 13 rfl) rfl rfl ⟨Nat.le_refl _, Nat.le_refl _⟩ ⟨rfl, rfl⟩
  · refine v_lookup C (oX0_combine.at 1 rfl) (by decide) (off := 87) (tgt := 88) (by decide) (by decide) ?_
    refine v_iload_n C (oX0_combine.at 14 rfl) rfl ?_
    refine v_if_ne C (oX0_combine.at 15 rfl) (tgt := 99) (by decide) (fun hc => ?_) (fun hc => ?_)
    · have e : cmbK 47 b = 0 := by unfold cmbK; rw [if_neg hc]
      rw [if_pos e, if_pos e] at C
      refine v_iload_n C (oX0_combine.at 21 rfl) rfl ?_
      refine v_iload_n C (oX0_combine.at 22 rfl) rfl ?_
      refine v_idiv C (oX0_combine.at 23 rfl) hc ?_
      exact v_iret C (oX0_combine.at 24 rfl) rfl rfl ⟨Nat.le_refl _, Nat.le_refl _⟩ ⟨rfl, rfl⟩
    · have e : cmbK 47 b = 4 := by unfold cmbK; rw [if_pos hc]; rfl
      rw [e, if_neg (by decide), if_neg (by decide)] at C
      refine v_aload_n C (oX0_combine.at 16 rfl) rfl ?_
      refine v_iconst C (oX0_combine.at 17 rfl) (v := nI 4) rfl ?_
      refine v_putI C (oX0_combine.at 18 rfl) fX0_13 p0_1 ho rfl ?_
      refine v_iconst C (oX0_combine.at 19 rfl) (v := nI 0) rfl ?_
      exact v_iret C (oX0_combine.at 20 rfl) rfl rfl ⟨Nat.le_refl _, Nat.le_refl _⟩ ⟨rfl, rfl⟩
  · refine v_lookup C (oX0_combine.at 1 rfl) (by decide) (off := 102) (tgt := 103) (by decide) (by decide) ?_
    refine v_iload_n C (oX0_combine.at 25 rfl) rfl ?_
    refine v_if_ne C (oX0_combine.at 26 rfl) (tgt := 114) (by decide) (fun hc => ?_) (fun hc => ?_)
    · have e : cmbK 37 b = 0 := by unfold cmbK; rw [if_neg hc]
      rw [if_pos e, if_pos e] at C
      refine v_iload_n C (oX0_combine.at 32 rfl) rfl ?_
      refine v_iload_n C (oX0_combine.at 33 rfl) rfl ?_
      refine v_irem C (oX0_combine.at 34 rfl) hc ?_
      exact v_iret C (oX0_combine.at 35 rfl) rfl rfl ⟨Nat.le_refl _, Nat.le_refl _⟩ ⟨rfl, rfl⟩
    · have e : cmbK 37 b = 5 := by unfold cmbK; rw [if_pos hc]; rfl
      rw [e, if_neg (by decide), if_neg (by decide)] at C
      refine v_aload_n C (oX0_combine.at 27 rfl) rfl ?_
      refine v_iconst C (oX0_combine.at 28 rfl) (v := nI 5) rfl ?_
      refine v_putI C (oX0_combine.at 29 rfl) fX0_13 p0_1 ho rfl ?_
      refine v_iconst C (oX0_combine.at 30 rfl) (v := nI 0) rfl ?_
      exact v_iret C (oX0_combine.at 31 rfl) rfl rfl ⟨Nat.le_refl _, Nat.le_refl _⟩ ⟨rfl, rfl⟩
  · refine v_lookup C (oX0_combine.at 1 rfl) (by decide) (off := 117) (tgt := 118) (by decide) (by decide) ?_
    have e : cmbK 61 b = 0 := by unfold cmbK; split <;> rfl
    rw [if_pos e, if_pos e, show cmbV 61 a b = if a = b then 1 else 0 from rfl] at C
    refine v_iload_n C (oX0_combine.at 36 rfl) rfl ?_
    refine v_iload_n C (oX0_combine.at 37 rfl) rfl ?_
    refine v_icmp_ne C (oX0_combine.at 38 rfl) (tgt := 127) (by decide) (fun hc => ?_) (fun hc => ?_)
    · rw [if_neg hc] at C
      refine v_iconst C (oX0_combine.at 41 rfl) (v := nI 0) rfl ?_
      exact v_iret C (oX0_combine.at 42 rfl) rfl rfl ⟨Nat.le_refl _, Nat.le_refl _⟩ ⟨rfl, rfl⟩
    · rw [if_pos hc] at C
      refine v_iconst C (oX0_combine.at 39 rfl) (v := nI 1) rfl ?_
      refine v_goto C (oX0_combine.at 40 rfl) (tgt := 128) (by decide) ?_
      exact v_iret C (oX0_combine.at 42 rfl) rfl rfl ⟨Nat.le_refl _, Nat.le_refl _⟩ ⟨rfl, rfl⟩
  · refine v_lookup C (oX0_combine.at 1 rfl) (by decide) (off := 128) (tgt := 129) (by decide) (by decide) ?_
    have e : cmbK 60 b = 0 := by unfold cmbK; split <;> rfl
    rw [if_pos e, if_pos e, show cmbV 60 a b = if a < b then 1 else 0 from rfl] at C
    refine v_iload_n C (oX0_combine.at 43 rfl) rfl ?_
    refine v_iload_n C (oX0_combine.at 44 rfl) rfl ?_
    refine v_icmp_ge C (oX0_combine.at 45 rfl) (tgt := 138) (by decide) (fun hc => ?_) (fun hc => ?_)
    · rw [if_neg (fun q => absurd hc (Int32.not_le.mpr q))] at C
      refine v_iconst C (oX0_combine.at 48 rfl) (v := nI 0) rfl ?_
      exact v_iret C (oX0_combine.at 49 rfl) rfl rfl ⟨Nat.le_refl _, Nat.le_refl _⟩ ⟨rfl, rfl⟩
    · rw [if_pos (Int32.not_le.mp hc)] at C
      refine v_iconst C (oX0_combine.at 46 rfl) (v := nI 1) rfl ?_
      refine v_goto C (oX0_combine.at 47 rfl) (tgt := 139) (by decide) ?_
      exact v_iret C (oX0_combine.at 49 rfl) rfl rfl ⟨Nat.le_refl _, Nat.le_refl _⟩ ⟨rfl, rfl⟩
  · refine v_lookup C (oX0_combine.at 1 rfl) (by decide) (off := 139) (tgt := 140) (by decide) (by decide) ?_
    have e : cmbK 110 b = 0 := by unfold cmbK; split <;> rfl
    rw [if_pos e, if_pos e] at C
    refine v_iload_n C (oX0_combine.at 50 rfl) rfl ?_
    refine v_iload_n C (oX0_combine.at 51 rfl) rfl ?_
    refine v_callS C (oX0_combine.at 52 rfl) cX0_105 (k_minR) rfl rfl rfl ⟨rfl, rfl⟩ rfl rfl (fun _ => rfl) (fun h' hp => ?_)
    rw [show h' = _ from hp]
    dsimp only [Option.toList, List.cons_append, List.nil_append]
    exact v_iret C (oX0_combine.at 53 rfl) rfl rfl ⟨Nat.le_refl _, Nat.le_refl _⟩ ⟨rfl, rfl⟩
  · refine v_lookup C (oX0_combine.at 1 rfl) (by decide) (off := 145) (tgt := 146) (by decide) (by decide) ?_
    have e : cmbK 120 b = 0 := by unfold cmbK; split <;> rfl
    rw [if_pos e, if_pos e] at C
    refine v_iload_n C (oX0_combine.at 54 rfl) rfl ?_
    refine v_iload_n C (oX0_combine.at 55 rfl) rfl ?_
    refine v_callS C (oX0_combine.at 56 rfl) cX0_75 (k_maxR) rfl rfl rfl ⟨rfl, rfl⟩ rfl rfl (fun _ => rfl) (fun h' hp => ?_)
    rw [show h' = _ from hp]
    dsimp only [Option.toList, List.cons_append, List.nil_append]
    exact v_iret C (oX0_combine.at 57 rfl) rfl rfl ⟨Nat.le_refl _, Nat.le_refl _⟩ ⟨rfl, rfl⟩
/-- one step of the code on the values (the top first), and the code carried out: the last instruction is the list's head -/
def vst (cl : Nat → Nat) (x : Nat) (st : List Int32) : Nat × List Int32 := if 48 ≤ x ∧ x ≤ 57 then (0, nI (x - 48) :: st) else if 97 ≤ x ∧ x ≤ 100 then (0, nI (cl (x - 97)) :: st) else if x = 33 then (0, (if st.headD 0 = 0 then 1 else 0) :: st.tail) else if cmbK x (st.headD 0) = 0 then (0, cmbV x (st.tail.headD 0) (st.headD 0) :: st.tail.tail) else (cmbK x (st.headD 0), [])
def evR (cl : Nat → Nat) : List Nat → Nat × List Int32
  | [] => (0, [])
  | x :: l => if (evR cl l).1 = 0 then vst cl x (evR cl l).2 else evR cl l
def hgt (wd : Nat) : List Nat → Nat
  | [] => 0
  | x :: l => if opd wd x = true then hgt wd l + 1 else if x = 33 then hgt wd l else hgt wd l - 1
def okc (wd : Nat) : List Nat → Prop
  | [] => True
  | x :: l => okc wd l ∧ (opd wd x = true ∨ (x = 33 ∧ 1 ≤ hgt wd l) ∨ (isOp x ∧ 2 ≤ hgt wd l))
theorem opd_iff {wd x : Nat} : opd wd x = true ↔ (48 ≤ x ∧ x ≤ 57) ∨ (97 ≤ x ∧ x < 97 + wd ∧ x ≤ 100) := by unfold opd; rw [decide_eq_true_eq]
theorem isOp_n {wd x : Nat} (h : isOp x) : opd wd x = false ∧ x ≠ 33 := by
  refine ⟨?_, by unfold isOp at h; omega⟩
  unfold opd isOp at *
  apply decide_eq_false
  omega
theorem hgt_le (wd : Nat) : ∀ l, hgt wd l ≤ l.length
  | [] => Nat.le_refl _
  | x :: l => by
    have := hgt_le wd l
    rw [hgt, List.length_cons]
    split
    · omega
    · split <;> omega
theorem okc_drop {wd : Nat} : ∀ (d : Nat) (l : List Nat), okc wd l → okc wd (l.drop d)
  | 0, l, h => h
  | d + 1, [], h => h
  | d + 1, x :: l, h => okc_drop d l h.1
theorem vst_dig {cl : Nat → Nat} {x : Nat} {st : List Int32} (h : 48 ≤ x ∧ x ≤ 57) : vst cl x st = (0, nI (x - 48) :: st) := if_pos h
theorem vst_cel {cl : Nat → Nat} {x : Nat} {st : List Int32} (h : 97 ≤ x ∧ x ≤ 100) : vst cl x st = (0, nI (cl (x - 97)) :: st) := by
  unfold vst
  rw [if_neg (by omega), if_pos h]
theorem vst_not {cl : Nat → Nat} {st : List Int32} : vst cl 33 st = (0, (if st.headD 0 = 0 then 1 else 0) :: st.tail) := by
  unfold vst
  rw [if_neg (by decide), if_neg (by decide), if_pos rfl]
theorem vst_op {cl : Nat → Nat} {x : Nat} {st : List Int32} (h : isOp x) : vst cl x st = if cmbK x (st.headD 0) = 0 then (0, cmbV x (st.tail.headD 0) (st.headD 0) :: st.tail.tail) else (cmbK x (st.headD 0), []) := by
  have hn := isOp_n (wd := 4) h
  have hn3 : ¬ ((48 ≤ x ∧ x ≤ 57) ∨ (97 ≤ x ∧ x < 97 + 4 ∧ x ≤ 100)) := fun q => by rw [← opd_iff, hn.1] at q; cases q
  unfold vst
  rw [if_neg (by omega), if_neg (by omega), if_neg hn.2]
theorem hgt_opd {wd x : Nat} {l : List Nat} (h : opd wd x = true) : hgt wd (x :: l) = hgt wd l + 1 := by rw [hgt, if_pos h]
theorem hgt_not {wd : Nat} {l : List Nat} : hgt wd (33 :: l) = hgt wd l := by
  have e : opd wd 33 = false := by unfold opd; apply decide_eq_false; omega
  rw [hgt, if_neg (by rw [e]; decide), if_pos rfl]
theorem hgt_op {wd x : Nat} {l : List Nat} (h : isOp x) : hgt wd (x :: l) = hgt wd l - 1 := by
  have hn := isOp_n (wd := wd) h
  rw [hgt, if_neg (by rw [hn.1]; decide), if_neg hn.2]
/-- no underflow: the values' number is the height -/
theorem evR_len {wd : Nat} {cl : Nat → Nat} : ∀ l, okc wd l → (evR cl l).1 = 0 → (evR cl l).2.length = hgt wd l
  | [], _, _ => rfl
  | x :: l, ho, he => by
    rw [evR] at he ⊢
    by_cases h0 : (evR cl l).1 = 0
    · rw [if_pos h0] at he ⊢
      have ih := evR_len (cl := cl) l ho.1 h0
      generalize (evR cl l).2 = st at *
      rcases ho.2 with a | ⟨a, b⟩ | ⟨a, b⟩
      · rw [hgt_opd a, ← ih]
        rw [opd_iff] at a
        by_cases e : 48 ≤ x ∧ x ≤ 57
        · rw [vst_dig e]; rfl
        · rw [vst_cel (by omega)]; rfl
      · subst a
        rw [hgt_not, vst_not]
        show (_ :: st.tail).length = _
        rw [List.length_cons, List.length_tail]
        omega
      · rw [vst_op a] at he ⊢
        rw [hgt_op a]
        by_cases e : cmbK x (st.headD 0) = 0
        · rw [if_pos e]
          show (_ :: st.tail.tail).length = _
          rw [List.length_cons, List.length_tail, List.length_tail]
          omega
        · rw [if_neg e] at he; exact absurd he e
    · rw [if_neg h0] at he; exact absurd he h0
theorem FmOK.v {h : Hp} {p len ek : Nat} {ep : Int32} {c t : List Nat} {tx : Nat → Nat} {g : Nat → Int32} (H : FmOK h p len ek ep c t tx) : FmOK (hu h (p + 4) (io 40 g)) p len ek ep c t tx := by
  obtain ⟨f1, f2, f3, f4, f5, a0, a1, a2, a3, a4, a5, a6, a7, a8, a9, a10⟩ := H
  exact ⟨f1, f2, f3, g, f5, (hu_n _ _ (by omega)).trans a0, (hu_n _ _ (by omega)).trans a1, a2, (hu_n _ _ (by omega)).trans a3, a4, a5, (hu_n _ _ (by omega)).trans a6, a7, a8, hu_s _ _ _, (hu_n _ _ (by omega)).trans a10⟩
