/-! ===== Formula: the lists behind its arrays, the small methods ===== -/
def LA (f : Nat → Int32) (l : List Nat) : Prop := ∀ i, i < l.length → f i = nI (l.getD (l.length - 1 - i) 0)
theorem LA.nil (f : Nat → Int32) : LA f [] := fun i hi => absurd hi (Nat.not_lt_zero i)
theorem LA.push {f : Nat → Int32} {l : List Nat} (h : LA f l) (x : Nat) : LA (upd f l.length (nI x)) (x :: l) := by
  intro i hi
  rw [List.length_cons] at hi ⊢
  by_cases e : i = l.length
  · rw [e, pk_us, show l.length + 1 - 1 - l.length = 0 by omega]; rfl
  · rw [pk_un e, h i (by omega), show l.length + 1 - 1 - i = l.length - 1 - i + 1 by omega]; rfl
theorem LA.pop {f : Nat → Int32} {l : List Nat} {x : Nat} (h : LA f (x :: l)) : LA f l := by
  intro i hi
  rw [h i (by rw [List.length_cons]; omega), List.length_cons, show l.length + 1 - 1 - i = l.length - 1 - i + 1 by omega]; rfl
theorem LA.top {f : Nat → Int32} {l : List Nat} {x : Nat} (h : LA f (x :: l)) : f l.length = nI x := by
  rw [h _ (by rw [List.length_cons]; omega), List.length_cons, show l.length + 1 - 1 - l.length = 0 by omega]; rfl
theorem LA.push' {f : Nat → Int32} {l : List Nat} (h : LA f l) (x n : Nat) (hn : n = l.length) : LA (upd f n (nI x)) (x :: l) := by rw [hn]; exact h.push x
abbrev FO (p len ek : Nat) (ep : Int32) (cl wc : Nat) : PE := ob 0 [.int (nI len), .int (nI ek), .int ep, .ref (p + 1), .ref (p + 2), .int (nI cl), .ref (p + 3), .int (nI wc), .ref (p + 4), .ref (p + 5)]
def Bd (l : List Nat) : Prop := ∀ x, x ∈ l → x < 128
theorem Bd.push {l : List Nat} {x : Nat} (h : Bd l) (hx : x < 128) : Bd (x :: l) := fun y hy => by
  rcases List.mem_cons.mp hy with e | e
  · rw [e]; exact hx
  · exact h y e
theorem Bd.pop {l : List Nat} {x : Nat} (h : Bd (x :: l)) : Bd l := fun y hy => h y (List.mem_cons_of_mem _ hy)
theorem Bd.top {l : List Nat} {x : Nat} (h : Bd (x :: l)) : x < 128 := h x List.mem_cons_self
theorem Bd.hd {l : List Nat} (h : Bd l) : l.headD 0 < 128 := by
  cases l with
  | nil => decide
  | cons x l => exact h.top
def FmOK (h : Hp) (p len ek : Nat) (ep : Int32) (c t : List Nat) (tx : Nat → Nat) : Prop := ∃ f1 f2 f3 f4 f5, h p = FO p len ek ep c.length t.length ∧ h (p + 1) = io 40 f1 ∧ (∀ i, i < len → f1 i = nI (tx i)) ∧ h (p + 2) = io 40 f2 ∧ LA f2 c ∧ Bd c ∧ h (p + 3) = io 40 f3 ∧ LA f3 t ∧ Bd t ∧ h (p + 4) = io 40 f4 ∧ h (p + 5) = io 4 f5
def FmC (h : Hp) (p : Nat) (h' : Hp) : Prop := ∀ j, (j < p ∨ p + 5 < j) → h' j = h j
theorem FmC.rf (h : Hp) (p : Nat) : FmC h p h := fun _ _ => rfl
theorem FmC.tr {h h1 h2 : Hp} {p : Nat} (a : FmC h p h1) (b : FmC h1 p h2) : FmC h p h2 := fun j hj => (b j hj).trans (a j hj)
theorem FmC.u {h : Hp} {p q : Nat} (c : PE) (h1 : p ≤ q) (h2 : q ≤ p + 5) : FmC h p (hu h q c) := fun j hj => hu_n _ _ (by omega)
theorem FmOK.bt {h : Hp} {p len ek : Nat} {ep : Int32} {c t : List Nat} {tx : Nat → Nat} (H : FmOK h p len ek ep c t tx) : Bd t := by
  obtain ⟨f1, f2, f3, f4, f5, -, -, -, -, -, -, -, -, a, -⟩ := H
  exact a
theorem FmOK.o {h : Hp} {p len ek : Nat} {ep : Int32} {c t : List Nat} {tx : Nat → Nat} (H : FmOK h p len ek ep c t tx) : h p = FO p len ek ep c.length t.length := by
  obtain ⟨f1, f2, f3, f4, f5, a, -⟩ := H
  exact a
/-- the fields set anew, the arrays as they are -/
theorem FmOK.fld {h : Hp} {p len ek ek' : Nat} {ep ep' : Int32} {c t : List Nat} {tx : Nat → Nat} (H : FmOK h p len ek ep c t tx) : FmOK (hu h p (FO p len ek' ep' c.length t.length)) p len ek' ep' c t tx := by
  obtain ⟨f1, f2, f3, f4, f5, a0, a1, a2, a3, a4, a5, a6, a7, a8, a9, a10⟩ := H
  exact ⟨f1, f2, f3, f4, f5, hu_s _ _ _, (hu_n _ _ (by omega)).trans a1, a2, (hu_n _ _ (by omega)).trans a3, a4, a5, (hu_n _ _ (by omega)).trans a6, a7, a8, (hu_n _ _ (by omega)).trans a9, (hu_n _ _ (by omega)).trans a10⟩
theorem k_refuse {w : Wt} {h : Hp} {p len ek : Nat} {ep : Int32} {c t : List Nat} {tx : Nat → Nat} (H : FmOK h p len ek ep c t tx) : ConN mX0_refuse 0 (0, 0) w [.ref p] h (.inl (some (.int (nI 0)))) (fun h' => FmOK h' p len 1 ep c t tx ∧ FmC h p h') := by
  refine conI (by decide +kernel) ⟨fun _ => rfl, rfl, by simp⟩ (fun X C => ?_)
  change V X (0, 0) w h 0 [some (.ref p)] []
  refine v_aload_n C (oX0_refuse.at 0 rfl) rfl ?_
  refine v_iconst C (oX0_refuse.at 1 rfl) (v := nI 1) rfl ?_
  refine v_putI C (oX0_refuse.at 2 rfl) fX0_13 p0_1 H.o rfl ?_
  refine v_iconst C (oX0_refuse.at 3 rfl) (v := nI 0) rfl ?_
  exact v_iret C (oX0_refuse.at 4 rfl) rfl rfl ⟨Nat.le_refl _, Nat.le_refl _⟩ ⟨rfl, H.fld, FmC.u _ (by omega) (by omega)⟩
theorem k_hold {w : Wt} {h : Hp} {p len ek x due : Nat} {ep : Int32} {c t : List Nat} {tx : Nat → Nat} (H : FmOK h p len ek ep c t tx) (ht : t.length < 40) (hx : x < 128) : ConN mX0_hold 0 (0, 0) w [.ref p, .int (nI x), .int (nI due)] h (.inl (some (.int (nI due)))) (fun h' => FmOK h' p len ek ep c (x :: t) tx ∧ FmC h p h') := by
  obtain ⟨f1, f2, f3, f4, f5, a0, a1, a2, a3, a4, a5, a6, a7, a8, a9, a10⟩ := H
  refine conI (by decide +kernel) ⟨fun _ => rfl, rfl, by simp⟩ (fun X C => ?_)
  change V X (0, 0) w h 0 [some (.ref p), some (.int (nI x)), some (.int (nI due))] []
  refine v_aload_n C (oX0_hold.at 0 rfl) rfl ?_
  refine v_getf C (oX0_hold.at 1 rfl) fX0_26 a0 rfl ?_
  refine v_aload_n C (oX0_hold.at 2 rfl) rfl ?_
  refine v_getf C (oX0_hold.at 3 rfl) fX0_40 a0 rfl ?_
  refine v_iload_n C (oX0_hold.at 4 rfl) rfl ?_
  refine v_iast C (oX0_hold.at 5 rfl) a6 (by decide) rfl (by omega) ?_
  have b0 : hu h (p + 3) (io 40 (upd f3 t.length (nI x))) p = FO p len ek ep c.length t.length := (hu_n _ _ (by omega)).trans a0
  refine v_aload_n C (oX0_hold.at 6 rfl) rfl ?_
  refine v_dup C (oX0_hold.at 7 rfl) rfl ?_
  refine v_getf C (oX0_hold.at 8 rfl) fX0_40 b0 rfl ?_
  refine v_iconst C (oX0_hold.at 9 rfl) (v := nI 1) rfl ?_
  refine v_iaddN C (oX0_hold.at 10 rfl) ?_
  refine v_putI C (oX0_hold.at 11 rfl) fX0_40 p0_7 b0 rfl ?_
  refine v_iload_n C (oX0_hold.at 12 rfl) rfl ?_
  refine v_iret C (oX0_hold.at 13 rfl) rfl rfl ⟨Nat.le_refl _, Nat.le_refl _⟩ ⟨rfl, ⟨f1, f2, _, f4, f5, hu_s _ _ _, ?_, a2, ?_, a4, a5, (hu_n _ _ (by omega)).trans (hu_s _ _ _), a7.push x, a8.push hx, ?_, ?_⟩, fun j hj => by rw [hu_n _ _ (by omega), hu_n _ _ (by omega)]⟩
  · rw [hu_n _ _ (by omega), hu_n _ _ (by omega)]; exact a1
  · rw [hu_n _ _ (by omega), hu_n _ _ (by omega)]; exact a3
  · rw [hu_n _ _ (by omega), hu_n _ _ (by omega)]; exact a9
  · rw [hu_n _ _ (by omega), hu_n _ _ (by omega)]; exact a10
theorem k_emit {w : Wt} {h : Hp} {p len ek x : Nat} {ep : Int32} {c t : List Nat} {tx : Nat → Nat} (H : FmOK h p len ek ep c t tx) (ht : c.length < 40) (hx : x < 128) : ConN mX0_emit 0 (0, 0) w [.ref p, .int (nI x)] h (.inl none) (fun h' => FmOK h' p len ek ep (x :: c) t tx ∧ FmC h p h') := by
  obtain ⟨f1, f2, f3, f4, f5, a0, a1, a2, a3, a4, a5, a6, a7, a8, a9, a10⟩ := H
  refine conI (by decide +kernel) ⟨fun _ => rfl, rfl, by simp⟩ (fun X C => ?_)
  change V X (0, 0) w h 0 [some (.ref p), some (.int (nI x))] []
  refine v_aload_n C (oX0_emit.at 0 rfl) rfl ?_
  refine v_getf C (oX0_emit.at 1 rfl) fX0_23 a0 rfl ?_
  refine v_aload_n C (oX0_emit.at 2 rfl) rfl ?_
  refine v_getf C (oX0_emit.at 3 rfl) fX0_37 a0 rfl ?_
  refine v_iload_n C (oX0_emit.at 4 rfl) rfl ?_
  refine v_iast C (oX0_emit.at 5 rfl) a3 (by decide) rfl (by omega) ?_
  have b0 : hu h (p + 2) (io 40 (upd f2 c.length (nI x))) p = FO p len ek ep c.length t.length := (hu_n _ _ (by omega)).trans a0
  refine v_aload_n C (oX0_emit.at 6 rfl) rfl ?_
  refine v_dup C (oX0_emit.at 7 rfl) rfl ?_
  refine v_getf C (oX0_emit.at 8 rfl) fX0_37 b0 rfl ?_
  refine v_iconst C (oX0_emit.at 9 rfl) (v := nI 1) rfl ?_
  refine v_iaddN C (oX0_emit.at 10 rfl) ?_
  refine v_putI C (oX0_emit.at 11 rfl) fX0_37 p0_5 b0 rfl ?_
  refine v_vret C (oX0_emit.at 12 rfl) rfl rfl ⟨Nat.le_refl _, Nat.le_refl _⟩ ⟨rfl, ⟨f1, _, f3, f4, f5, hu_s _ _ _, ?_, a2, (hu_n _ _ (by omega)).trans (hu_s _ _ _), a4.push x, a5.push hx, ?_, a7, a8, ?_, ?_⟩, fun j hj => by rw [hu_n _ _ (by omega), hu_n _ _ (by omega)]⟩
  · rw [hu_n _ _ (by omega), hu_n _ _ (by omega)]; exact a1
  · rw [hu_n _ _ (by omega), hu_n _ _ (by omega)]; exact a6
  · rw [hu_n _ _ (by omega), hu_n _ _ (by omega)]; exact a9
  · rw [hu_n _ _ (by omega), hu_n _ _ (by omega)]; exact a10
theorem FmOK.tl {h : Hp} {p len ek : Nat} {ep : Int32} {c t : List Nat} {tx : Nat → Nat} (H : FmOK h p len ek ep c t tx) (ht : 0 < t.length) : FmOK (hu h p (FO p len ek ep c.length (t.length - 1))) p len ek ep c t.tail tx := by
  obtain ⟨f1, f2, f3, f4, f5, a0, a1, a2, a3, a4, a5, a6, a7, a8, a9, a10⟩ := H
  refine ⟨f1, f2, f3, f4, f5, ?_, (hu_n _ _ (by omega)).trans a1, a2, (hu_n _ _ (by omega)).trans a3, a4, a5, (hu_n _ _ (by omega)).trans a6, ?_, ?_, (hu_n _ _ (by omega)).trans a9, (hu_n _ _ (by omega)).trans a10⟩
  · rw [hu_s, List.length_tail]
  · cases t with
    | nil => exact a7
    | cons x t => exact a7.pop
  · cases t with
    | nil => exact a8
    | cons x t => exact a8.pop
theorem k_lastWaiting {w : Wt} {h : Hp} {p len ek : Nat} {ep : Int32} {c t : List Nat} {tx : Nat → Nat} (H : FmOK h p len ek ep c t tx) (ht : t.length ≤ 40) : ConN mX0_lastWaiting 0 (0, 0) w [.ref p] h (.inl (some (.int (nI (t.headD 0))))) (fun h' => h' = h) := by
  obtain ⟨f1, f2, f3, f4, f5, a0, a1, a2, a3, a4, a5, a6, a7, a8, a9, a10⟩ := H
  refine conI (by decide +kernel) ⟨fun _ => rfl, rfl, by simp⟩ (fun X C => ?_)
  change V X (0, 0) w h 0 [some (.ref p)] []
  refine v_aload_n C (oX0_lastWaiting.at 0 rfl) rfl ?_
  refine v_getf C (oX0_lastWaiting.at 1 rfl) fX0_40 a0 rfl ?_
  refine v_if_leN C (oX0_lastWaiting.at 2 rfl) (tgt := 21) (by decide) (by omega) (fun hc => ?_) (fun hc => ?_)
  · have e : t = [] := List.eq_nil_of_length_eq_zero (by omega)
    subst e
    refine v_iconst C (oX0_lastWaiting.at 11 rfl) (v := nI 0) rfl ?_
    exact v_iret C (oX0_lastWaiting.at 12 rfl) rfl rfl ⟨Nat.le_refl _, Nat.le_refl _⟩ ⟨rfl, rfl⟩
  · cases t with
    | nil => exact absurd hc (by decide)
    | cons x t =>
      have e : f3 ((x :: t).length - 1) = nI x := a7.top
      rw [List.length_cons] at ht
      refine v_aload_n C (oX0_lastWaiting.at 3 rfl) rfl ?_
      refine v_getf C (oX0_lastWaiting.at 4 rfl) fX0_26 a0 rfl ?_
      refine v_aload_n C (oX0_lastWaiting.at 5 rfl) rfl ?_
      refine v_getf C (oX0_lastWaiting.at 6 rfl) fX0_40 a0 rfl ?_
      refine v_iconst C (oX0_lastWaiting.at 7 rfl) (v := nI 1) rfl ?_
      refine v_isubN C (oX0_lastWaiting.at 8 rfl) (by rw [List.length_cons]; omega) ?_
      refine v_iald C (oX0_lastWaiting.at 9 rfl) a6 (by decide) rfl (by rw [List.length_cons]; omega) e ?_
      refine v_goto C (oX0_lastWaiting.at 10 rfl) (tgt := 22) (by decide) ?_
      exact v_iret C (oX0_lastWaiting.at 12 rfl) rfl rfl ⟨Nat.le_refl _, Nat.le_refl _⟩ ⟨rfl, rfl⟩
def rk (x : Nat) : Nat := if x = 61 ∨ x = 60 then 1 else if x = 43 ∨ x = 45 then 2 else if x = 42 ∨ x = 47 ∨ x = 37 then 3 else 0
theorem rk_le (x : Nat) : rk x ≤ 3 := by unfold rk; split <;> (try split) <;> (try split) <;> omega
def rkO : Array Int := #[119, 121, 121, 121, 121, 119, 117, 121, 117, 121, 119, 121, 121, 121, 121, 121, 121, 121, 121, 121, 121, 121, 121, 115, 115]
theorem rkO_at : ∀ x, x < 62 → 37 ≤ x → rkO[x - 37]? = some (if rk x = 1 then 115 else if rk x = 2 then 117 else if rk x = 3 then 119 else 121) := by decide +kernel
theorem k_rankOf {w : Wt} {h : Hp} {x : Nat} (hx : x < 128) : ConN mX0_rankOf 0 (0, 0) w [.int (nI x)] h (.inl (some (.int (nI (rk x))))) (fun h' => h' = h) := by
  have hi := nI_toInt (n := x) (by omega)
  refine conI (by decide +kernel) ⟨fun _ => rfl, rfl, by simp⟩ (fun X C => ?_)
  change V X (0, 0) w h 0 [some (.int (nI x))] []
  refine v_iload_n C (oX0_rankOf.at 0 rfl) rfl ?_
  by_cases h1 : 37 ≤ x ∧ x ≤ 61
  · have ho := rkO_at x (by omega) h1.1
    have ei : (x : Int) - 37 = ((x - 37 : Nat) : Int) := by omega
    have h2 := rk_le x
    have h3 : rk x = 0 ∨ rk x = 1 ∨ rk x = 2 ∨ rk x = 3 := by omega
    rcases h3 with e | e | e | e
    · rw [e] at ho C
      refine v_tableIn C (oX0_rankOf.at 1 rfl) (by rw [hi]; omega) (by rw [hi]; omega) (off := 121) (tgt := 122) (by rw [hi, ei]; exact ho) (by decide) ?_
      refine v_iconst C (oX0_rankOf.at 8 rfl) (v := nI 0) rfl ?_
      exact v_iret C (oX0_rankOf.at 9 rfl) rfl rfl ⟨Nat.le_refl _, Nat.le_refl _⟩ ⟨rfl, rfl⟩
    · rw [e] at ho C
      refine v_tableIn C (oX0_rankOf.at 1 rfl) (by rw [hi]; omega) (by rw [hi]; omega) (off := 115) (tgt := 116) (by rw [hi, ei]; exact ho) (by decide) ?_
      refine v_iconst C (oX0_rankOf.at 2 rfl) (v := nI 1) rfl ?_
      exact v_iret C (oX0_rankOf.at 3 rfl) rfl rfl ⟨Nat.le_refl _, Nat.le_refl _⟩ ⟨rfl, rfl⟩
    · rw [e] at ho C
      refine v_tableIn C (oX0_rankOf.at 1 rfl) (by rw [hi]; omega) (by rw [hi]; omega) (off := 117) (tgt := 118) (by rw [hi, ei]; exact ho) (by decide) ?_
      refine v_iconst C (oX0_rankOf.at 4 rfl) (v := nI 2) rfl ?_
      exact v_iret C (oX0_rankOf.at 5 rfl) rfl rfl ⟨Nat.le_refl _, Nat.le_refl _⟩ ⟨rfl, rfl⟩
    · rw [e] at ho C
      refine v_tableIn C (oX0_rankOf.at 1 rfl) (by rw [hi]; omega) (by rw [hi]; omega) (off := 119) (tgt := 120) (by rw [hi, ei]; exact ho) (by decide) ?_
      refine v_iconst C (oX0_rankOf.at 6 rfl) (v := nI 3) rfl ?_
      exact v_iret C (oX0_rankOf.at 7 rfl) rfl rfl ⟨Nat.le_refl _, Nat.le_refl _⟩ ⟨rfl, rfl⟩
  · have e : rk x = 0 := by unfold rk; rw [if_neg (by omega), if_neg (by omega), if_neg (by omega)]
    rw [e] at C
    refine v_tableOut C (oX0_rankOf.at 1 rfl) (by rw [hi]; omega) (tgt := 122) (by decide) ?_
    refine v_iconst C (oX0_rankOf.at 8 rfl) (v := nI 0) rfl ?_
    exact v_iret C (oX0_rankOf.at 9 rfl) rfl rfl ⟨Nat.le_refl _, Nat.le_refl _⟩ ⟨rfl, rfl⟩
