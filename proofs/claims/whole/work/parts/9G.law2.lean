/-! ===== the law: its script, its switch, the two states side by side ===== -/
theorem PA.top {G h h' : Hp} {S Z : Sc} {sv : Bool} {F : Sf} (hP : PA G h S sv Z F) (he : ∀ j, j ≤ 61 → h' j = h j) : PA h' h' S sv Z F := by
  obtain ⟨p0, p1, p2, p3, p4, p5, p6, p7, p8, p9, p10, p11, p12, z1, z2, z3, z4⟩ := hP
  exact ⟨(he 0 (by omega)).trans p0, p1.eq (fun j _ _ => he j (by omega)), p2.eq (fun j _ _ => he j (by omega)), p3.eq (fun j _ _ => he j (by omega)), p4.eq (fun j _ _ => he j (by omega)), p5.imp (fun _ => Exists.imp (fun _ q => q.eq (fun j _ _ => he j (by omega)))), p6.eq (fun j _ _ => he j (by omega)), p7.imp (fun _ => Exists.imp (fun _ => Exists.imp (fun _ => Exists.imp (fun _ => Exists.imp (fun _ q => q.eq (fun j _ _ => he j (by omega))))))), p8.imp (fun _ => Exists.imp (fun _ q => q.eq (fun j _ _ => he j (by omega)))), p9.eq (fun j _ _ => he j (by omega)), p10.imp (fun _ => Exists.imp (fun _ => Exists.imp (fun _ => Exists.imp (fun _ q => q.eq (fun j _ _ => he j (by omega)))))), p11.imp (fun _ q => (he 60 (by omega)).trans q), p12.imp (fun _ q => (he 61 (by omega)).trans q), z1, z2, z3, fun _ _ => rfl⟩
theorem RF.low {G h h' : Hp} {th : Nat} {S Z : Sc} {sv : Bool} {F : Sf} (hR : RF G h th S sv Z F) (he : ∀ j, 62 ≤ j → j ≤ 87 → h' j = h j) : RF h' h' th S sv Z F := by
  obtain ⟨⟨u, a0, b0⟩, ⟨f1, a1, b1⟩, ⟨f2, a2, b2⟩, ⟨f3, a3, b3⟩, ⟨f4, a4, b4⟩, ⟨f5, a5, b5⟩, ⟨f6, a6, b6⟩, ⟨f7, a7, b7⟩, p8, z1, z2, z3, z4⟩ := hR
  exact ⟨⟨u, (he _ (by decide) (by decide)).trans a0, b0⟩, ⟨f1, (he _ (by decide) (by decide)).trans a1, b1⟩, ⟨f2, (he _ (by decide) (by decide)).trans a2, b2⟩, ⟨f3, (he _ (by decide) (by decide)).trans a3, b3⟩, ⟨f4, (he _ (by decide) (by decide)).trans a4, b4⟩, ⟨f5, (he _ (by decide) (by decide)).trans a5, b5⟩, ⟨f6, (he _ (by decide) (by decide)).trans a6, b6⟩, ⟨f7, (he _ (by decide) (by decide)).trans a7, b7⟩, p8.eq (fun j h1 h2 => he j (by omega) (by omega)), z1, z2, z3, fun _ _ => rfl⟩
theorem RF.fr {G h : Hp} {th : Nat} {S Z : Sc} {sv : Bool} {F : Sf} (hR : RF G h th S sv Z F) : ∀ j, (j < 62 ∨ 87 < j) → h j = G j := hR.2.2.2.2.2.2.2.2.2.2.2.2
/-- the program's state and the reference's are the same; out is there -/
def JI2 (h : Hp) (S : Sc) (sv : Bool) (Z : Sc) (F : Sf) : Prop := PA h h S sv Z F ∧ (∃ th, RF h h th S sv Z F) ∧ ∃ f, h 88 = jo 1 f
theorem JI2.oks {h : Hp} {S Z : Sc} {sv : Bool} {F : Sf} (hJ : JI2 h S sv Z F) : OKS S Z F := ⟨hJ.1.so, hJ.1.zo, hJ.1.fo, hJ.1.ru.T⟩
/-- behind the wrapper -/
def RW (h : Hp) (S' : Sc) (sv' : Bool) (Z' : Sc) (F' : Sf) (r : Nat) (y : Int64) (h1 : Hp) : Prop := PA h1 h1 S' sv' Z' F' ∧ (∀ j, 61 < j → j ≠ 88 → h1 j = h j) ∧ ∃ f1, h1 88 = jo 1 f1 ∧ (r = 0 → f1 0 = y)
theorem rw_ok {h hm : Hp} {S Z : Sc} {sv : Bool} {F : Sf} {f : Nat → Int64} {y : Int64} (hP : PA h hm S sv Z F) : RW h S sv Z F 0 y (hu hm 88 (jo 1 (vp_updL f 0 y))) := ⟨hP.top (fun j hj => hu_n _ _ (by omega)), fun j h1 h2 => (hu_n _ _ h2).trans (hP.gf j h1), _, hu_s _ _ _, fun _ => by simp [vp_updL]⟩
theorem rw_thr {h hm : Hp} {S Z : Sc} {sv : Bool} {F : Sf} {f : Nat → Int64} {r : Nat} {y : Int64} (hP : PA h hm S sv Z F) (hf : h 88 = jo 1 f) (hr : r ≠ 0) : RW h S sv Z F r y hm := ⟨hP.top (fun j _ => rfl), fun j h1 _ => hP.gf j h1, f, (hP.gf 88 (by decide)).trans hf, fun e => absurd e hr⟩
/-- the law's room -/
abbrev zL : Nat × Nat := (603072, 7157866)
/-- the script, where it lies -/
def SC (X : CT) (w : Wt) (N : Nat) (xs : Nat → Int32) : Prop := match X with
  | (_, _, _, _, s, _, _, _, _, _, _, B, _) => va_X (w.1 1000) N xs s s.heap ∧ w.1 1000 < s.heap.size ∧ ¬ AB B (w.1 1000)
section VL
variable {X : CT} {μ : Mi} {tab : List ExceptionTableEntry} {d : Nat} {zR : Nat × Nat} {o : Oc} {P : Wt → Hp → Prop} {z : Nat × Nat} {w : Wt} {h : Hp} {pc : Nat} {L : List (Option Value)} {st : List Value}
theorem v_sld (C : Cx X μ tab d zR o P) {N n : Nat} {xs : Nat → Int32} (hs : SC X w N xs) (hN : N ≤ 2560) (hn : n < N) (hd : decode μ.2.1 pc = .ok (.iaload, 1)) (k : V X z w h (pc + 1) L (.int (xs n) :: st)) : V X z w h pc L (.int (nI n) :: .ref 1000 :: st) := by
  rcases X with ⟨p, l, e, R, s, m, args, below, meth, c, G, B, Q⟩
  intro H locs ls hW hS hl
  refine va_sld C.1 C.2.1 hs.1 hs.2.1 hs.2.2 hS (vp_in_nI hn (by omega)) hd ?_
  rw [nI_clamp (by omega)]
  exact k H locs ls hW hS hl
theorem v_slen (C : Cx X μ tab d zR o P) {N : Nat} {xs : Nat → Int32} (hs : SC X w N xs) (hd : decode μ.2.1 pc = .ok (.arraylength, 1)) (k : V X z w h (pc + 1) L (.int (nI N) :: st)) : V X z w h pc L (.ref 1000 :: st) := by
  rcases X with ⟨p, l, e, R, s, m, args, below, meth, c, G, B, Q⟩
  intro H locs ls hW hS hl
  exact va_slen C.1 C.2.1 hs.1 hs.2.1 hs.2.2 hS hd (k H locs ls hW hS hl)
theorem v_tabO (C : Cx X μ tab d zR o P) {dflt lo hi : Int} {offs : Array Int} {len : Nat} {x : Int32} {tgt : Nat} (hd : decode μ.2.1 pc = .ok (.tableswitch dflt lo hi offs, len)) (hx : x.toInt < lo ∨ hi < x.toInt) (ht : (pc : Int) + dflt = (tgt : Int)) (k : V X z w h tgt L st) : V X z w h pc L (.int x :: st) := by
  rcases X with ⟨p, l, e, R, s, m, args, below, meth, c, G, B, Q⟩
  intro H locs ls hW hS hl
  exact lv_tableOut C.1 C.2.1 hd hx ht (k H locs ls hW hS hl)
theorem v_tabI (C : Cx X μ tab d zR o P) {dflt lo hi off : Int} {offs : Array Int} {len n : Nat} {x : Int32} {tgt : Nat} (hd : decode μ.2.1 pc = .ok (.tableswitch dflt lo hi offs, len)) (hx : x.toInt = n) (h1 : lo = 0) (h2 : ¬ hi < (n : Int)) (ho : offs[n]? = some off) (ht : (pc : Int) + off = (tgt : Int)) (k : V X z w h tgt L st) : V X z w h pc L (.int x :: st) := by
  rcases X with ⟨p, l, e, R, s, m, args, below, meth, c, G, B, Q⟩
  intro H locs ls hW hS hl
  refine lv_tableIn (off := off) C.1 C.2.1 hd (by rw [hx, h1]; omega) (by rw [hx]; exact h2) ?_ ht (k H locs ls hW hS hl)
  rw [hx, h1]
  simpa using ho
/-- locals may be forgotten -/
theorem v_weak {L' : List (Option Value)} (hn : L'.length = L.length) (hi : ∀ (i : Nat) (v : Value), L[i]? = some (some v) → L'[i]? = some (some v)) (k : V X z w h pc L st) : V X z w h pc L' st := by
  rcases X with ⟨p, l, e, R, s, m, args, below, meth, c, G, B, Q⟩
  intro H locs ls hW hS hl
  exact k H locs ls hW hS ⟨hl.1.trans hn, hl.2.1, fun i v h => hl.2.2 i v (hi i v h)⟩
theorem v_forget (a b c d' e f g j : Option Value) (k : V X z w h pc [a, b, c, d', e, none, none, none] st) : V X z w h pc [a, b, c, d', e, f, g, j] st := v_weak (L := [a, b, c, d', e, none, none, none]) rfl (fun i v hi => by
  match i, hi with
  | 0, h => exact h
  | 1, h => exact h
  | 2, h => exact h
  | 3, h => exact h
  | 4, h => exact h
  | 5, h => simp at h
  | 6, h => simp at h
  | 7, h => simp at h
  | i + 8, h => simp at h) k
end VL
theorem blt10 {d : Nat} (h : Nat.blt d 8 = true) : Nat.blt d 10 = true := Nat.ble_eq_true_of_le (Nat.le_trans (Nat.le_of_ble_eq_true h) (by decide))
theorem cmp_self (a : Int64) : lg_cmp a a = 0 := by simp [lg_cmp]
theorem v_bool {X : CT} {μ : Mi} {tab : List ExceptionTableEntry} {d : Nat} {zR : Nat × Nat} {o : Oc} {P : Wt → Hp → Prop} {z : Nat × Nat} {w : Wt} {h : Hp} {pc : Nat} {L : List (Option Value)} {st : List Value} (C : Cx X μ tab d zR o P) {x : Int32} (h1 : decode μ.2.1 pc = .ok (.ifCond .eq 7, 3)) (h2 : decode μ.2.1 (pc + 3) = .ok (.iconst 1, 1)) (h3 : decode μ.2.1 (pc + 3 + 1) = .ok (.goto 4, 3)) (h4 : decode μ.2.1 (pc + 7) = .ok (.iconst 0, 1)) (k : V X z w h (pc + 8) L (.int (bI (decide (x ≠ 0))) :: st)) : V X z w h pc L (.int x :: st) := by
  refine v_if_eq C h1 (tgt := pc + 7) (by omega) (fun hx => ?_) (fun hx => ?_)
  · refine v_iconst C h4 (v := bI false) rfl ?_
    have e : decide (x ≠ 0) = false := by simp [hx]
    rw [e] at k
    exact k
  · refine v_iconst C h2 (v := bI true) rfl ?_
    refine v_goto C h3 (tgt := pc + 8) (by omega) ?_
    have e : decide (x ≠ 0) = true := by simp [hx]
    rw [e] at k
    exact k
