/-! ===== constructors 3: rows of rows, the rule ===== -/
/-- an array of fifteen arrays of nine -/
def hrows (h : Hp) (N : Nat) : Hp := fun j => if j = N then ao 15 (fun i => if i < 15 then some (N + 1 + i) else none) else if N < j ∧ j < N + 16 then io 9 (fun _ => 0) else h j
def wrows (w : Wt) (q : Nat) (r : Nat → Nat) : Wt := (fun i => if i = w.2 then q else if w.2 < i ∧ i < w.2 + 16 then r (i - w.2 - 1) else w.1 i, w.2 + 16)
theorem wrows_WX (w : Wt) (q : Nat) (r : Nat → Nat) : WX w (wrows w q r) 16 := ⟨rfl, fun i hi => by
  show (if i = w.2 then q else if w.2 < i ∧ i < w.2 + 16 then r (i - w.2 - 1) else w.1 i) = _
  rw [if_neg (by omega), if_neg (by omega)]⟩
theorem wl_rows {G : GG} {w : Wt} {h : Hp} {q : Nat} {r : Nat → Nat} (hcl : ∀ q, q < w.2 → clo w.2 (h q)) (hr : ∀ i j : Nat, i < 15 → j < 15 → r i = r j → i = j) {f : Nat → va_E} : (wl G w h ++ [(q, .inl (G.2 3, 15, .inr (.inr (.inr (.inr (fun i => if i < 15 then some (r i) else none))))))]) ++ va_pl ([] ++ (List.range 15).map r) (vr_up f ((List.range 15).map r) (.inl (G.2 0, (9, .inl (fun _ => 0))))) = wl G (wrows w q r) (hrows h w.2) := by
  have e1 : wl G ((wrows w q r).1, w.2) h = wl G w h := wl_ext G h rfl (fun i hi => by
    show (if i = w.2 then q else if w.2 < i ∧ i < w.2 + 16 then r (i - w.2 - 1) else w.1 i) = _
    rw [if_neg (by omega), if_neg (by omega)]) hcl
  rw [← e1]
  show _ = (List.range (w.2 + 1 + 15)).map _
  rw [List.range_add, List.map_append, List.range_succ (n := w.2), List.map_append]
  congr 1
  · congr 1
    · refine List.map_congr_left fun i hi => ?_
      have hi : i < w.2 := List.mem_range.mp hi
      have e2 : hrows h w.2 i = h i := by
        show (if i = w.2 then _ else if w.2 < i ∧ i < w.2 + 16 then _ else h i) = _
        rw [if_neg (by omega), if_neg (by omega)]
      show (_, cz G.2 (wrows w q r).1 (h i)) = _
      rw [e2]
    · rw [List.map_singleton]
      have e2 : hrows h w.2 w.2 = ao 15 (fun i => if i < 15 then some (w.2 + 1 + i) else none) := if_pos rfl
      rw [e2, show (wrows w q r).1 w.2 = q from if_pos rfl]
      congr 2
      show (Sum.inl (G.2 3, _) : va_E) = .inl (G.2 3, (15, .inr (.inr (.inr (.inr (fun j => (if j < 15 then some (w.2 + 1 + j) else none).map (wrows w q r).1))))))
      congr 7
      funext j
      by_cases hj : j < 15
      · rw [if_pos hj, if_pos hj, Option.map_some]
        congr 1
        show r j = (if w.2 + 1 + j = w.2 then q else if w.2 < w.2 + 1 + j ∧ w.2 + 1 + j < w.2 + 16 then r (w.2 + 1 + j - w.2 - 1) else w.1 (w.2 + 1 + j))
        rw [if_neg (by omega), if_pos (by omega), show w.2 + 1 + j - w.2 - 1 = j by omega]
      · rw [if_neg hj, if_neg hj]; rfl
  · rw [List.nil_append]
    unfold va_pl
    rw [List.map_map, List.map_map]
    refine List.map_congr_left fun j hj => ?_
    have hm : r j ∈ (List.range 15).map r := List.mem_map_of_mem hj
    have hj : j < 15 := List.mem_range.mp hj
    show (r j, vr_up f _ _ (r j)) = ((wrows w q r).1 (w.2 + 1 + j), cz G.2 (wrows w q r).1 (hrows h w.2 (w.2 + 1 + j)))
    rw [vr_up_in hm]
    have e2 : hrows h w.2 (w.2 + 1 + j) = io 9 (fun _ => 0) := by
      show (if w.2 + 1 + j = w.2 then _ else if w.2 < w.2 + 1 + j ∧ w.2 + 1 + j < w.2 + 16 then io 9 (fun _ => 0) else h (w.2 + 1 + j)) = _
      rw [if_neg (by omega), if_pos (by omega)]
    have e3 : (wrows w q r).1 (w.2 + 1 + j) = r j := by
      show (if w.2 + 1 + j = w.2 then q else if w.2 < w.2 + 1 + j ∧ w.2 + 1 + j < w.2 + 16 then r (w.2 + 1 + j - w.2 - 1) else w.1 (w.2 + 1 + j)) = _
      rw [if_neg (by omega), if_pos (by omega), show w.2 + 1 + j - w.2 - 1 = j by omega]
    rw [e2, e3]
    rfl
theorem Wd.rows {G : GG} {B : Nat} {w : Wt} {h : Hp} {H H1 : Heap} {q : Nat} {r : Nat → Nat} {f : Nat → va_E} (hW : Wd G B w h H) (hr : ∀ i j : Nat, i < 15 → j < 15 → r i = r j → i = j) (hP : va_P G.1 cls10 ((wl G w h ++ [(q, .inl (G.2 3, 15, .inr (.inr (.inr (.inr (fun i => if i < 15 then some (r i) else none))))))]) ++ va_pl ([] ++ (List.range 15).map r) (vr_up f ((List.range 15).map r) (.inl (G.2 0, (9, .inl (fun _ => 0)))))) H1) (hD : va_D (AB B) ((wl G w h ++ [(q, .inl (G.2 3, 15, .inr (.inr (.inr (.inr (fun i => if i < 15 then some (r i) else none))))))]) ++ va_pl ([] ++ (List.range 15).map r) (vr_up f ((List.range 15).map r) (.inl (G.2 0, (9, .inl (fun _ => 0))))))) : Wd G B (wrows w q r) (hrows h w.2) H1 := by
  rw [wl_rows hW.2.2.2 hr] at hP hD
  refine ⟨hP, hD, fun j hj => ?_, fun j hj => ?_⟩
  · have hj : w.2 + 16 ≤ j := hj
    show (if j = w.2 then _ else if w.2 < j ∧ j < w.2 + 16 then _ else h j) = _
    rw [if_neg (by omega), if_neg (by omega)]
    exact hW.2.2.1 j (by omega)
  · have hj : j < w.2 + 16 := hj
    show clo (w.2 + 16) (if j = w.2 then _ else if w.2 < j ∧ j < w.2 + 16 then _ else h j)
    by_cases e : j = w.2
    · rw [if_pos e]
      intro i a hi
      have hi : (if i < 15 then some (w.2 + 1 + i) else none) = some a := hi
      by_cases h15 : i < 15
      · rw [if_pos h15] at hi
        cases hi
        omega
      · rw [if_neg h15] at hi
        cases hi
    · rw [if_neg e]
      by_cases e2 : w.2 < j ∧ j < w.2 + 16
      · rw [if_pos e2]; trivial
      · rw [if_neg e2]
        exact clo_le (by omega) (hW.2.2.2 j (by omega))
section VM
variable {X : CT} {μ : Mi} {tab : List ExceptionTableEntry} {d : Nat} {zR : Nat × Nat} {o : Oc} {P : Wt → Hp → Prop} {z : Nat × Nat} {w : Wt} {h : Hp} {pc : Nat} {L : List (Option Value)} {st : List Value}
theorem v_mna (C : Cx X μ tab d zR o P) {ix : Nat} (hd : decode μ.2.1 pc = .ok (.multianewarray ix 2, 4)) (hlk : Cond.classLink μ.1.cls ix "[[I" ∈ TSg) (hz : z.1 + 16 ≤ zR.1 ∧ z.2 + 150 ≤ zR.2) (hL : ∀ v, some v ∈ L → nrn w.2 16 v) (hst : ∀ v ∈ st, nrn w.2 16 v) (k : ∀ w', WX w w' 16 → V X (z.1 + 16, z.2 + 150) w' (hrows h w.2) (pc + 4) L (.ref w.2 :: st)) : V X z w h pc L (.int (nI 9) :: .int (nI 15) :: st) := by
  rcases X with ⟨p, l, e, R, s, m, args, below, meth, c, G, B, Q⟩
  intro H locs ls hW hS hl
  have hBs := C.2.2.2.2.2.2.2.2.1
  obtain ⟨r1, r2, r3, r4⟩ := C.2.2.2.2.2.2.2.2.2.2.2.1
  obtain ⟨z1, z2⟩ := hz
  have hK := C.2.2.2.2.2.2.2.1
  refine va_mna (X := wl G w h) (L := []) (f := fun _ => .inl (G.2 0, (9, .inl (fun _ => 0)))) (ty := .int) (cy := G.2 0) (N' := 15) (K' := 9) (z := (9, .inl (fun _ => 0))) C.1 C.2.1 C.2.2.2.1 (C.2.2.2.2.1 _ hlk) C.2.2.2.2.2.2.2.2.2.2.1.2.2.2 (C.2.2.2.2.1 _ (tj1 113 (by rfl) rfl)) (hK.2 0 (G.2 0, .int) rfl).2 hK (by simpa [va_pl] using hW.1) (by simpa [va_pl] using hW.2.1) hS (fun q hq => Nat.le_trans hBs hq) (by decide) (by decide) (by decide) (by decide) (by decide) (by decide) (by decide) rfl rfl (by omega) (by omega) (fun _ => rfl) hd (fun q r cA H1 hr hrn hK1 hP1 hD1 hS1 => ?_)
  have e1 := (hK1.2 4 (cA, .array .int) rfl).2
  have e0 := (hK1.2 3 (G.2 3, .array .int) rfl).2
  cases Option.some.inj (e1.symm.trans e0)
  have hx := wrows_WX w q r
  have := k _ hx H1 locs ls (hW.rows hr hP1 hD1) hS1 (hl.WX hx hL)
  rw [List.map_cons, st_WX hx hst, show cv (wrows w q r).1 (.ref w.2) = .ref q from congrArg Value.ref (if_pos rfl)] at this
  exact this
end VM
def mX4_init : Mi := (yX4_init, cX4_init, 1, none, 0)
def tX4_init : Ct := [(0, .aload_n 0, 1), (1, .invokespecial 3, 3), (4, .aload_n 0, 1), (5, .bipush 14, 2), (7, .newarray .int, 2), (9, .putfield 9, 3), (12, .aload_n 0, 1), (13, .bipush 15, 2), (15, .bipush 9, 2), (17, .multianewarray 17 2, 4), (21, .putfield 19, 3), (24, .return_, 1)]
set_option maxRecDepth 20000 in
theorem oX4_init : CtOk mX4_init.2.1 tX4_init := by unfold CtOk; decide +kernel
set_option maxRecDepth 20000 in
theorem kX4_init : MK mX4_init := ⟨tj1 194 (by rfl) rfl, tj1 6 (by rfl) rfl, by decide +kernel, by decide +kernel, by decide +kernel⟩
theorem iX4_init : mX4_init.1.name = "<init>" ∧ Cond.instanceMethod mX4_init.1 ∈ TSg ∧ mX4_init.2.2.2.1 = none ∧ mX4_init.2.2.2.2 = 0 := ⟨rfl, tj1 193 (by rfl) rfl, rfl, rfl⟩
theorem q4_3 : FPt 4 3 (.array .int) true := ⟨_, _, _, rfl, by decide +kernel, rfl⟩
theorem q4_4 : FPt 4 4 (.array (.array .int)) true := ⟨_, _, _, rfl, by decide +kernel, rfl⟩
def dv4 : List Value := [.int 0, .int 0, .int 0, .null, .null]
theorem k4_init {w : Wt} {h : Hp} {q : Nat} (hw0 : w.2 = q + 1) (hq : h q = .inr (4, dv4)) : Con mX4_init 0 (17, 164) w [.ref q] h (.inl none) (fun w' h' => WX w w' 17 ∧ h' = hu (hrows (hu h (q + 1) (io 14 (fun _ => 0))) (q + 2)) q (.inr (4, [.int 0, .int 0, .int 0, .ref (q + 1), .ref (q + 2)]))) := by
  refine conI (by decide +kernel) ⟨fun _ => rfl, rfl, by simp⟩ (fun X C => ?_)
  change V X (0, 0) w h 0 [some (.ref q)] []
  refine v_aload_n C (oX4_init.at 0 rfl) rfl ?_
  refine v_objI C (oX4_init.at 1 rfl) (tj1 195 (by rfl) rfl) rfl rfl ?_
  rw [← hu_id h hq]
  refine v_aload_n C (oX4_init.at 2 rfl) rfl ?_
  refine v_bipush C (oX4_init.at 3 rfl) (v := nI 14) rfl ?_
  refine v_mkI C (oX4_init.at 4 rfl) (oX4_init.at 5 rfl) fX4_9 q4_3 rfl (fun _ _ _ h => by cases h; rfl) hw0 (Nat.lt_add_of_pos_right (by decide)) (by decide) ⟨by decide, by decide⟩ rfl (fun w1 x1 => ?_)
  have hw1 : w1.2 = q + 2 := x1.1.trans (congrArg (· + 1) hw0)
  refine v_aload_n C (oX4_init.at 6 rfl) rfl ?_
  refine v_bipush C (oX4_init.at 7 rfl) (v := nI 15) rfl ?_
  refine v_bipush C (oX4_init.at 8 rfl) (v := nI 9) rfl ?_
  refine v_mna C (oX4_init.at 9 rfl) (tj1 196 (by rfl) rfl) ⟨by decide, by decide⟩ (fun v hv => ?_) (fun v hv => ?_) (fun w2 x2 => ?_)
  · simp at hv; subst hv; exact .inl (show q < w1.2 by omega)
  · simp at hv; subst hv; exact .inl (show q < w1.2 by omega)
  · rw [hw1]
    have hc : hrows (hu (hu h (q + 1) (io 14 (fun _ => 0))) q (.inr (4, [.int 0, .int 0, .int 0, .ref (q + 1), .null]))) (q + 2) = hu (hrows (hu h (q + 1) (io 14 (fun _ => 0))) (q + 2)) q (.inr (4, [.int 0, .int 0, .int 0, .ref (q + 1), .null])) := by
      funext j
      by_cases e : j = q
      · subst e
        rw [hu_s]
        show (if j = j + 2 then _ else if j + 2 < j ∧ j < j + 2 + 16 then _ else hu _ j _ j) = _
        rw [if_neg (by omega), if_neg (by omega), hu_s]
      · rw [hu_n _ _ e]
        show (if j = q + 2 then _ else if q + 2 < j ∧ j < q + 2 + 16 then _ else hu _ q _ j) = (if j = q + 2 then _ else if q + 2 < j ∧ j < q + 2 + 16 then _ else _)
        rw [hu_n _ _ e]
    change V X _ w2 (hrows (hu (hu h (q + 1) (io 14 (fun _ => 0))) q (.inr (4, [.int 0, .int 0, .int 0, .ref (q + 1), .null]))) (q + 2)) _ _ _
    rw [hc]
    refine v_putF C (oX4_init.at 10 rfl) fX4_19 q4_4 rfl (fun _ _ _ h => by cases h; rfl) (hu_s _ _ _) (fun _ => rfl) (fun _ => rfl) (by show q + 2 < w2.2; have := x2.1; omega) rfl ?_
    rw [hu_hu]
    exact v_vret C (oX4_init.at 11 rfl) rfl rfl ⟨by decide, by decide⟩ ⟨x1.tr x2, rfl⟩
def mX6_init : Mi := (yX6_init, cX6_init, 1, none, 0)
def tX6_init : Ct := [(0, .aload_n 0, 1), (1, .invokespecial 1, 3), (4, .aload_n 0, 1), (5, .bipush 27, 2), (7, .newarray .int, 2), (9, .putfield 9, 3), (12, .aload_n 0, 1), (13, .bipush 27, 2), (15, .newarray .int, 2), (17, .putfield 13, 3), (20, .aload_n 0, 1), (21, .bipush 27, 2), (23, .newarray .int, 2), (25, .putfield 16, 3), (28, .aload_n 0, 1), (29, .iconst 4, 1), (30, .newarray .int, 2), (32, .putfield 19, 3), (35, .aload_n 0, 1), (36, .iconst 3, 1), (37, .newarray .int, 2), (39, .putfield 22, 3), (42, .aload_n 0, 1), (43, .iconst 2, 1), (44, .iconst 3, 1), (45, .invokevirtual 25, 3), (48, .return_, 1)]
set_option maxRecDepth 20000 in
theorem oX6_init : CtOk mX6_init.2.1 tX6_init := by unfold CtOk; decide +kernel
set_option maxRecDepth 20000 in
theorem kX6_init : MK mX6_init := ⟨tj1 44 (by rfl) rfl, tj1 2 (by rfl) rfl, by decide +kernel, by decide +kernel, by decide +kernel⟩
theorem iX6_init : mX6_init.1.name = "<init>" ∧ Cond.instanceMethod mX6_init.1 ∈ TSg ∧ mX6_init.2.2.2.1 = none ∧ mX6_init.2.2.2.2 = 0 := ⟨rfl, tj1 43 (by rfl) rfl, rfl, rfl⟩
theorem q6_4 : FPt 6 4 (.array .int) true := ⟨_, _, _, rfl, by decide +kernel, rfl⟩
theorem q6_5 : FPt 6 5 (.array .int) true := ⟨_, _, _, rfl, by decide +kernel, rfl⟩
theorem q6_6 : FPt 6 6 (.array .int) true := ⟨_, _, _, rfl, by decide +kernel, rfl⟩
theorem q6_7 : FPt 6 7 (.array .int) true := ⟨_, _, _, rfl, by decide +kernel, rfl⟩
theorem q6_8 : FPt 6 8 (.array .int) true := ⟨_, _, _, rfl, by decide +kernel, rfl⟩
def dv6 : List Value := [.int 0, .int 0, .int 0, .int 0, .null, .null, .null, .null, .null]
theorem k6_init {w : Wt} {h : Hp} {q : Nat} (hw0 : w.2 = q + 1) (hq : h q = .inr (6, dv6)) : Con mX6_init 2 (5, 88) w [.ref q] h (.inl none) (fun w' h' => WX w w' 5 ∧ RuleOK h' q 2 3 (fun _ => 0) ∧ ∀ j, (j < q ∨ q + 5 < j) → h' j = h j) := by
  refine conI (by decide +kernel) ⟨fun _ => rfl, rfl, by simp⟩ (fun X C => ?_)
  change V X (0, 0) w h 0 [some (.ref q)] []
  refine v_aload_n C (oX6_init.at 0 rfl) rfl ?_
  refine v_objI C (oX6_init.at 1 rfl) (tj1 45 (by rfl) rfl) rfl rfl ?_
  rw [← hu_id h hq]
  refine v_aload_n C (oX6_init.at 2 rfl) rfl ?_
  refine v_bipush C (oX6_init.at 3 rfl) (v := nI 27) rfl ?_
  refine v_mkI C (oX6_init.at 4 rfl) (oX6_init.at 5 rfl) fX6_9 q6_4 rfl (fun _ _ _ h => by cases h; rfl) hw0 (Nat.lt_add_of_pos_right (by decide)) (by decide) ⟨by decide, by decide⟩ rfl (fun w1 x1 => ?_)
  have hw1 : w1.2 = q + 2 := x1.1.trans (congrArg (· + 1) hw0)
  refine v_aload_n C (oX6_init.at 6 rfl) rfl ?_
  refine v_bipush C (oX6_init.at 7 rfl) (v := nI 27) rfl ?_
  refine v_mkI C (oX6_init.at 8 rfl) (oX6_init.at 9 rfl) fX6_13 q6_5 rfl (fun _ _ _ h => by cases h; rfl) hw1 (Nat.lt_add_of_pos_right (by decide)) (by decide) ⟨by decide, by decide⟩ rfl (fun w2 x2 => ?_)
  have hw2 : w2.2 = q + 3 := x2.1.trans (congrArg (· + 1) hw1)
  refine v_aload_n C (oX6_init.at 10 rfl) rfl ?_
  refine v_bipush C (oX6_init.at 11 rfl) (v := nI 27) rfl ?_
  refine v_mkI C (oX6_init.at 12 rfl) (oX6_init.at 13 rfl) fX6_16 q6_6 rfl (fun _ _ _ h => by cases h; rfl) hw2 (Nat.lt_add_of_pos_right (by decide)) (by decide) ⟨by decide, by decide⟩ rfl (fun w3 x3 => ?_)
  have hw3 : w3.2 = q + 4 := x3.1.trans (congrArg (· + 1) hw2)
  refine v_aload_n C (oX6_init.at 14 rfl) rfl ?_
  refine v_iconst C (oX6_init.at 15 rfl) (v := nI 4) rfl ?_
  refine v_mkI C (oX6_init.at 16 rfl) (oX6_init.at 17 rfl) fX6_19 q6_7 rfl (fun _ _ _ h => by cases h; rfl) hw3 (Nat.lt_add_of_pos_right (by decide)) (by decide) ⟨by decide, by decide⟩ rfl (fun w4 x4 => ?_)
  have hw4 : w4.2 = q + 5 := x4.1.trans (congrArg (· + 1) hw3)
  refine v_aload_n C (oX6_init.at 18 rfl) rfl ?_
  refine v_iconst C (oX6_init.at 19 rfl) (v := nI 3) rfl ?_
  refine v_mkI C (oX6_init.at 20 rfl) (oX6_init.at 21 rfl) fX6_22 q6_8 rfl (fun _ _ _ h => by cases h; rfl) hw4 (Nat.lt_add_of_pos_right (by decide)) (by decide) ⟨by decide, by decide⟩ rfl (fun w5 x5 => ?_)
  have hw5 : w5.2 = q + 6 := x5.1.trans (congrArg (· + 1) hw4)
  refine v_aload_n C (oX6_init.at 22 rfl) rfl ?_
  refine v_iconst C (oX6_init.at 23 rfl) (v := nI 2) rfl ?_
  refine v_iconst C (oX6_init.at 24 rfl) (v := nI 3) rfl ?_
  obtain ⟨h1, e1⟩ : ∃ z, z = mkL h (q + 1) [io 27 (fun _ => 0), io 27 (fun _ => 0), io 27 (fun _ => 0), io 4 (fun _ => 0), io 3 (fun _ => 0)] := ⟨_, rfl⟩
  change V X (5, 88) w5 (hu (mkL h (q + 1) [io 27 (fun _ => 0), io 27 (fun _ => 0), io 27 (fun _ => 0), io 4 (fun _ => 0), io 3 (fun _ => 0)]) q (.inr (6, [.int 0, .int 0, .int 0, .int 0, .ref (q + 1), .ref (q + 2), .ref (q + 3), .ref (q + 4), .ref (q + 5)]))) _ _ _
  rw [← e1]
  have a1 : h1 (q + 1) = io 27 (fun _ => 0) := by rw [e1]; exact mkL_at _ h (q + 1) 0 _ rfl
  have a2 : h1 (q + 2) = io 27 (fun _ => 0) := by rw [e1]; exact mkL_at _ h (q + 1) 1 _ rfl
  have a3 : h1 (q + 3) = io 27 (fun _ => 0) := by rw [e1]; exact mkL_at _ h (q + 1) 2 _ rfl
  have a4 : h1 (q + 4) = io 4 (fun _ => 0) := by rw [e1]; exact mkL_at _ h (q + 1) 3 _ rfl
  have a5 : h1 (q + 5) = io 3 (fun _ => 0) := by rw [e1]; exact mkL_at _ h (q + 1) 4 _ rfl
  have a6 : ∀ j, (j < q ∨ q + 5 < j) → h1 j = h j := fun j hj => by
    rw [e1]; exact mkL_lo _ h (q + 1) j (by simp; omega)
  refine v_callV C (oX6_init.at 25 rfl) cX6_25 (hu_s _ _ _) (k_resize (k := 2) (wd := 3) (k0 := 0) (w0 := 0) (n0 := 0) (m0 := 0) (f := fun _ => 0) (g := fun _ => 0) (e := fun _ => 0) (hu_s _ _ _) (.inl rfl) (by decide) (by decide) (by decide) (by rw [hu_n _ _ (by omega)]; exact a1) (by rw [hu_n _ _ (by omega)]; exact a2) (by rw [hu_n _ _ (by omega)]; exact a3)) rfl rfl rfl ⟨rfl, rfl⟩ rfl rfl (fun _ => rfl) (fun h' hp => ?_)
  dsimp only [Option.toList, List.cons_append, List.nil_append]
  refine v_vret C (oX6_init.at 26 rfl) rfl rfl ⟨by decide, by decide⟩ ⟨((((x1.tr x2).tr x3).tr x4).tr x5), ?_, fun j hj => ?_⟩
  · rw [hp]
    refine ⟨mix (fun _ => 0) (fun _ => nI 0) (2 ^ 3), mix (fun _ => 0) (fun i => nI (i % 2 ^ (3 - 1))) (2 ^ 3), mix (fun _ => 0) (fun i => nI (i / 2 ^ (3 - 1))) (2 ^ 3), fun _ => 0, fun _ => 0, ?_, ?_, ?_, ?_, ?_, hu_s _ _ _, ?_, ?_, ?_⟩
    · rw [hu_n _ _ (by omega), hu_n _ _ (by omega), hu_n _ _ (by omega), hu_s]
    · rw [hu_n _ _ (by omega), hu_n _ _ (by omega), hu_s]
    · intro i hi
      exact ⟨mix_lt hi, Nat.zero_lt_succ 1⟩
    · rw [hu_n _ _ (by omega), hu_s]
    · intro i hi
      exact mix_lt hi
    · intro i hi
      exact mix_lt hi
    · rw [hu_n _ _ (by omega), hu_n _ _ (by omega), hu_n _ _ (by omega), hu_n _ _ (by omega), hu_n _ _ (by omega)]
      exact a4
    · rw [hu_n _ _ (by omega), hu_n _ _ (by omega), hu_n _ _ (by omega), hu_n _ _ (by omega), hu_n _ _ (by omega)]
      exact a5
  · rw [hp, hu_n _ _ (by omega), hu_n _ _ (by omega), hu_n _ _ (by omega), hu_n _ _ (by omega), hu_n _ _ (by omega)]
    exact a6 j hj
