/-! ===== what is read without error can be carried out ===== -/
def pend : List Nat → Nat
  | [] => 0
  | x :: t => pend t + (if 0 < rk x ∨ x = 110 ∨ x = 120 then 1 else 0)
theorem rk_op {x : Nat} (h : 0 < rk x) : isOp x := by
  unfold rk at h
  unfold isOp
  split at h
  · omega
  · split at h
    · omega
    · split at h <;> omega
theorem endF_ok {wd : Nat} : ∀ (t c : List Nat), okc wd c → 1 ≤ hgt wd c → okc wd (endF c t).1 ∧ hgt wd (endF c t).1 = hgt wd c ∧ pend (endF c t).2 = pend t
  | [], c, h, _ => ⟨h, rfl, rfl⟩
  | x :: t, c, h, h1 => by
    rw [endF]
    by_cases e : x = 33
    · rw [if_pos e]
      obtain ⟨a, b, d⟩ := endF_ok (wd := wd) t (33 :: c) ⟨h, Or.inr (Or.inl ⟨rfl, h1⟩)⟩ (by rw [hgt_not]; exact h1)
      refine ⟨a, b.trans hgt_not, d.trans ?_⟩
      rw [pend, e, if_neg (by decide)]
      rfl
    · rw [if_neg e]; exact ⟨h, rfl, rfl⟩
theorem mvO_ok {wd r : Nat} (hr : 1 ≤ r) : ∀ (t c : List Nat), okc wd c → hgt wd c = pend t + 1 → okc wd (mvO r c t).1 ∧ hgt wd (mvO r c t).1 = pend (mvO r c t).2 + 1
  | [], c, h, h1 => ⟨h, h1⟩
  | x :: t, c, h, h1 => by
    rw [mvO]
    by_cases e : r ≤ rk x
    · rw [if_pos e]
      rw [pend, if_pos (Or.inl (by omega))] at h1
      have ho := rk_op (x := x) (by omega)
      exact mvO_ok hr t (x :: c) ⟨h, Or.inr (Or.inr ⟨ho, by omega⟩)⟩ (by rw [hgt_op ho]; omega)
    · rw [if_neg e]; exact ⟨h, h1⟩
def WI (wd due : Nat) (c t : List Nat) : Prop := okc wd c ∧ hgt wd c = pend t + (if due = 1 then 1 else 0)
theorem hd_cons {l : List Nat} (h : 0 < l.headD 0) : ∃ x r, l = x :: r ∧ l.headD 0 = x ∧ l.tail = r := by
  cases l with
  | nil => exact absurd h (by decide)
  | cons x r => exact ⟨x, r, rfl, rfl, rfl⟩
theorem opnd_ok {s wd : Nat} {c t : List Nat} (hW : WI wd 0 c t) (h0 : (opnd s wd c t).1 = 0) : WI wd (opnd s wd c t).2.1 (opnd s wd c t).2.2.1 (opnd s wd c t).2.2.2 := by
  unfold opnd at *
  obtain ⟨ho, hh⟩ := hW
  rw [if_neg (by decide), Nat.add_zero] at hh
  split
  · next h => rw [if_pos h] at h0; cases h0
  · split
    · next h1 h2 =>
      have hd : opd wd s = true := opd_iff.mpr (by omega)
      obtain ⟨a, b, d⟩ := endF_ok (wd := wd) t (s :: c) ⟨ho, Or.inl hd⟩ (by rw [hgt_opd hd]; omega)
      refine ⟨a, ?_⟩
      show hgt wd (endF (s :: c) t).1 = pend (endF (s :: c) t).2 + 1
      rw [b, d, hgt_opd hd, hh]
    · split
      · next h1 h2 h3 =>
        refine ⟨ho, ?_⟩
        show hgt wd c = pend (s :: t) + 0
        rw [pend, hh]
        rcases h3 with rfl | rfl
        · rw [if_neg (by decide)]; rfl
        · rw [if_neg (by decide)]; rfl
      · split
        · exact ⟨ho, by rw [hh]; rfl⟩
        · exact ⟨ho, by rw [hh]; rfl⟩
theorem oprt_ok {s wd : Nat} {c t : List Nat} (hW : WI wd 1 c t) (h0 : (oprt s c t).1 = 0) : WI wd (oprt s c t).2.1 (oprt s c t).2.2.1 (oprt s c t).2.2.2 := by
  unfold oprt at *
  obtain ⟨ho, hh⟩ := hW
  rw [if_pos rfl] at hh
  split
  · next h =>
    obtain ⟨a, b⟩ := mvO_ok (wd := wd) (r := max (rk s) 2) (by omega) t c ho hh
    rw [if_pos h] at h0
    split
    · next h2 => rw [if_pos h2] at h0; cases h0
    · refine ⟨a, ?_⟩
      show _ = pend (s :: _) + 0
      rw [pend, if_pos (Or.inl h), b]
  · next h =>
    rw [if_neg h] at h0
    obtain ⟨a, b⟩ := mvO_ok (wd := wd) (r := 1) (by omega) t c ho hh
    generalize (mvO 1 c t).1 = c1 at *
    generalize (mvO 1 c t).2 = t1 at *
    split
    · next h2 =>
      obtain ⟨x, r, e1, e2, e3⟩ := hd_cons (l := t1) (by omega)
      refine ⟨a, ?_⟩
      show hgt wd c1 = pend (_ :: t1.tail) + 0
      rw [b, pend, e3, e2, e1, pend]
      rw [e2] at h2
      rcases h2.2 with rfl | rfl
      · rw [if_pos rfl]; rfl
      · rw [if_neg (by decide)]; rfl
    · next h2 =>
      split
      · next h3 =>
        obtain ⟨x, r, e1, e2, e3⟩ := hd_cons (l := t1) (by omega)
        rw [e1, pend] at b
        rw [e2] at h3
        rw [e2, e3]
        by_cases e4 : x = 40
        · rw [if_pos e4]
          rw [e4, if_neg (by decide)] at b
          obtain ⟨a2, b2, d2⟩ := endF_ok (wd := wd) r c1 a (by omega)
          refine ⟨a2, ?_⟩
          show _ = _ + 1
          rw [b2, d2, b]
        · rw [if_neg e4]
          have hio : isOp x := by unfold isOp; omega
          rw [if_pos (by omega)] at b
          obtain ⟨a2, b2, d2⟩ := endF_ok (wd := wd) r (x :: c1) ⟨a, Or.inr (Or.inr ⟨hio, by omega⟩)⟩ (by rw [hgt_op hio]; omega)
          refine ⟨a2, ?_⟩
          show _ = _ + 1
          rw [b2, d2, hgt_op hio]
          omega
      · next h3 =>
        rw [if_neg h2, if_neg h3] at h0
        cases h0
theorem WI.due {wd due due' : Nat} {c t : List Nat} (h : WI wd due c t) (h1 : due ≠ 1) (h2 : due' ≠ 1) : WI wd due' c t := ⟨h.1, by rw [h.2, if_neg h1, if_neg h2]⟩
theorem WI.call {wd due due' x : Nat} {c t : List Nat} (h : WI wd due c t) (h1 : due ≠ 1) (h2 : due' ≠ 1) (hx : x = 78 ∨ x = 88) : WI wd due' c (x :: t) := ⟨h.1, by
  rw [h.2, if_neg h1, if_neg h2, pend]
  rcases hx with rfl | rfl
  · rw [if_neg (by decide)]
  · rw [if_neg (by decide)]⟩
theorem sgn_ok {due s wd : Nat} {c t : List Nat} (hW : WI wd due c t) (h0 : (sgn due s wd c t).1 = 0) : WI wd (sgn due s wd c t).2.1 (sgn due s wd c t).2.2.1 (sgn due s wd c t).2.2.2 := by
  unfold sgn at *
  by_cases d0 : due = 0
  · rw [if_pos d0] at h0 ⊢
    subst d0
    exact opnd_ok hW h0
  · rw [if_neg d0] at h0 ⊢
    by_cases d1 : due = 1
    · rw [if_pos d1] at h0 ⊢
      subst d1
      exact oprt_ok hW h0
    · rw [if_neg d1] at h0 ⊢
      by_cases d2 : due = 2
      · rw [if_pos d2] at h0 ⊢
        split
        · exact hW.due d1 (fun q => absurd q (by dsimp only; omega))
        · split
          · exact hW.due d1 (fun q => absurd q (by dsimp only; omega))
          · exact hW.due d1 (fun q => absurd q (by dsimp only; omega))
      · rw [if_neg d2] at h0 ⊢
        by_cases d3 : due = 3
        · rw [if_pos d3] at h0 ⊢
          split
          · exact hW.call d1 (fun q => absurd q (by dsimp only; omega)) (Or.inl rfl)
          · exact hW.due d1 (fun q => absurd q (by dsimp only; omega))
        · rw [if_neg d3] at h0 ⊢
          by_cases d4 : due = 4
          · rw [if_pos d4] at h0 ⊢
            split
            · exact hW.call d1 (fun q => absurd q (by dsimp only; omega)) (Or.inr rfl)
            · exact hW.due d1 (fun q => absurd q (by dsimp only; omega))
          · rw [if_neg d4] at h0 ⊢
            split
            · exact hW.due d1 (fun q => absurd q (by dsimp only; omega))
            · exact hW.due d1 (fun q => absurd q (by dsimp only; omega))
theorem rdG_ok {tx : Nat → Nat} {wd len : Nat} : ∀ d i due c t, WI wd due c t → (rdG tx wd len d i due c t).1 = 0 → okc wd (rdG tx wd len d i due c t).2.2.1 ∧ hgt wd (rdG tx wd len d i due c t).2.2.1 = 1
  | 0, i, due, c, t, hW, h0 => by
    rw [rdG] at h0 ⊢
    unfold rdE at h0 ⊢
    split
    · next h => rw [if_pos h] at h0; cases h0
    · next h =>
      have hd : due = 1 := Decidable.of_not_not (fun q => h (Or.inl q))
      have hm : (mvO 1 c t).2 = [] := Decidable.of_not_not (fun q => h (Or.inr q))
      have hW2 := hW.2
      rw [if_pos hd] at hW2
      obtain ⟨a, b⟩ := mvO_ok (wd := wd) (r := 1) (by omega) t c hW.1 hW2
      rw [hm] at b
      exact ⟨a, b⟩
  | d + 1, i, due, c, t, hW, h0 => by
    rw [rdG] at h0 ⊢
    by_cases e : (sgn due (tx i) wd c t).1 = 0
    · rw [if_neg (fun q => q e)] at h0 ⊢
      exact rdG_ok d (i + 1) _ _ _ (sgn_ok hW e) h0
    · rw [if_pos e] at h0
      exact absurd h0 e
theorem rdG_len {tx : Nat → Nat} {wd len : Nat} : ∀ d i due c t, (rdG tx wd len d i due c t).2.2.1.length + (rdG tx wd len d i due c t).2.2.2.length ≤ c.length + t.length + d
  | 0, i, due, c, t => by
    have h := mvO_len 1 t c
    rw [rdG]
    unfold rdE
    split
    · dsimp only; omega
    · dsimp only; omega
  | d + 1, i, due, c, t => by
    have h := sgn_len (due := due) (s := tx i) (wd := wd) (c := c) (t := t)
    rw [rdG]
    split
    · dsimp only; omega
    · have := rdG_len (tx := tx) (wd := wd) (len := len) d (i + 1) (sgn due (tx i) wd c t).2.1 (sgn due (tx i) wd c t).2.2.1 (sgn due (tx i) wd c t).2.2.2
      omega
theorem rdG_err {tx : Nat → Nat} {wd len : Nat} : ∀ d i due c t, (rdG tx wd len d i due c t).1 ≤ 3
  | 0, i, due, c, t => by
    rw [rdG]
    unfold rdE
    split
    · dsimp only; omega
    · dsimp only; omega
  | d + 1, i, due, c, t => by
    have h := sgn_err (due := due) (s := tx i) (wd := wd) (c := c) (t := t)
    rw [rdG]
    split
    · exact h
    · exact rdG_err d _ _ _ _
