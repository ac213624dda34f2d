/-! ===== the rules of V: fields and arrays ===== -/
def tyC : Nat → Nat → FieldType
  | 0 => tyX0
  | 1 => tyX1
  | 2 => tyX2
  | 3 => tyX3
  | 4 => tyX4
  | 5 => tyX5
  | 6 => tyX6
  | 7 => tyX7
  | 8 => tyX8
  | _ => tyX9
theorem inX0 : ∀ w ∈ u_ws RX0 TX0 10, w ∈ TSg := by decide +kernel
theorem inX1 : ∀ w ∈ u_ws RX1 TX1 4, w ∈ TSg := by decide +kernel
theorem inX2 : ∀ w ∈ u_ws RX2 TX2 4, w ∈ TSg := by decide +kernel
theorem inX3 : ∀ w ∈ u_ws RX3 TX3 1, w ∈ TSg := by decide +kernel
theorem inX4 : ∀ w ∈ u_ws RX4 TX4 5, w ∈ TSg := by decide +kernel
theorem inX5 : ∀ w ∈ u_ws RX5 TX5 2, w ∈ TSg := by decide +kernel
theorem inX6 : ∀ w ∈ u_ws RX6 TX6 9, w ∈ TSg := by decide +kernel
theorem inX7 : ∀ w ∈ u_ws RX7 TX7 9, w ∈ TSg := by decide +kernel
theorem inX8 : ∀ w ∈ u_ws RX8 TX8 13, w ∈ TSg := by decide +kernel
theorem inX9 : ∀ w ∈ u_ws RX9 TX9 42, w ∈ TSg := by decide +kernel
theorem inC : ∀ (ci : Nat) (C : String) (T : u_T) (N : Nat), cls10[ci]? = some (C, T, N) → (∀ w ∈ u_ws C T N, w ∈ TSg) ∧ (∀ k, k < N → parseFieldDescriptor (T k).2.2.1 = some (tyC ci k)) ∧ (∀ a, a < N → ∀ b, b < N → a ≠ b → (T a).2.1 ≠ (T b).2.1)
  | 0, _, _, _, h => by cases h; exact ⟨inX0, tyX0_ok, nmX0⟩
  | 1, _, _, _, h => by cases h; exact ⟨inX1, tyX1_ok, nmX1⟩
  | 2, _, _, _, h => by cases h; exact ⟨inX2, tyX2_ok, nmX2⟩
  | 3, _, _, _, h => by cases h; exact ⟨inX3, tyX3_ok, nmX3⟩
  | 4, _, _, _, h => by cases h; exact ⟨inX4, tyX4_ok, nmX4⟩
  | 5, _, _, _, h => by cases h; exact ⟨inX5, tyX5_ok, nmX5⟩
  | 6, _, _, _, h => by cases h; exact ⟨inX6, tyX6_ok, nmX6⟩
  | 7, _, _, _, h => by cases h; exact ⟨inX7, tyX7_ok, nmX7⟩
  | 8, _, _, _, h => by cases h; exact ⟨inX8, tyX8_ok, nmX8⟩
  | 9, _, _, _, h => by cases h; exact ⟨inX9, tyX9_ok, nmX9⟩
  | n + 10, _, _, _, h => by simp at h
/-- the constant ix of the class own names the field k of the class ci -/
def FLk (own : String) (ix ci k : Nat) : Prop := ∃ C T N, cls10[ci]? = some (C, T, N) ∧ k < N ∧ Cond.fieldLink own ix (T k).1 (T k).2.1 (T k).2.2.1 ∈ TSg
/-- .. and it is an int's, not final -/
def FPt (ci k : Nat) (ty : FieldType) (fin : Bool) : Prop := ∃ C T N, cls10[ci]? = some (C, T, N) ∧ parseFieldDescriptor (T k).2.2.1 = some ty ∧ (T k).2.2.2 = fin
theorem ob_nj {ci : Nat} {fs : List Value} {C : vw_C} (hc : cls10[ci]? = some C) : (ob ci fs) ≠ junk := by
  intro e
  have e2 : (Sum.inr (ci, fs) : PE) = Sum.inr (1000, []) := e
  cases e2
  simp at hc
theorem ar_nj {x : Nat × vp_A} : (Sum.inl x : PE) ≠ junk := fun e => by
  have e2 : (Sum.inl x : PE) = Sum.inr (1000, []) := e
  cases e2
section VH
variable {X : CT} {μ : Mi} {tab : List ExceptionTableEntry} {d : Nat} {zR : Nat × Nat} {o : Oc} {P : Wt → Hp → Prop} {z : Nat × Nat} {w : Wt} {h : Hp} {pc : Nat} {L : List (Option Value)} {st : List Value}
theorem v_getf (C : Cx X μ tab d zR o P) {ix ci kf q : Nat} {fs : List Value} {v : Value} (hd : decode μ.2.1 pc = .ok (.getfield ix, 3)) (hF : FLk μ.1.cls ix ci kf) (hh : h q = .inr (ci, fs)) (hv : fs[kf]? = some v) (k : V X z w h (pc + 3) L (v :: st)) : V X z w h pc L (.ref q :: st) := by
  rcases X with ⟨p, l, e, R, s, m, args, below, meth, c, G, B, Q⟩
  intro H locs ls hW hS hl
  obtain ⟨C1, T, N, hc, hk, hm⟩ := hF
  have hq : q < w.2 := hW.lt (by rw [hh]; exact ob_nj hc)
  have he : (wl G w h)[q]? = some (w.1 q, .inr (ci, fs.map (cv w.1))) := by rw [wl_get G w h hq, hh]; rfl
  exact va_get (ref := (T kf).1) C.1 C.2.1 C.2.2.2.2.1 (inC ci C1 T N hc).1 C.2.2.2.1 C.2.2.2.2.2.2.2.1 hW.1 q he hc kf hk (C.2.2.2.2.1 _ hm) (fun x hx => hx) (by rw [List.getElem?_map, hv]; rfl) hd (k H locs ls hW hS hl)
theorem v_putf (C : Cx X μ tab d zR o P) {ix ci kf q : Nat} {fs : List Value} {v : Value} {ty : FieldType} (hd : decode μ.2.1 pc = .ok (.putfield ix, 3)) (hF : FLk μ.1.cls ix ci kf) (hT : FPt ci kf ty false) (hh : h q = .inr (ci, fs)) (hn : ∀ ad, narrow ty (cv ad v) = cv ad v) (hf : ∀ ad, fits ty (cv ad v) = true) (hok : ∀ N, okv N v) (hl : kf < fs.length) (k : V X z w (hu h q (.inr (ci, fs.set kf v))) (pc + 3) L st) : V X z w h pc L (v :: .ref q :: st) := by
  rcases X with ⟨p, l, e, R, s, m, args, below, meth, c, G, B, Q⟩
  intro H locs ls hW hS hL
  obtain ⟨C1, T, N, hc, hk, hm⟩ := hF
  obtain ⟨C2, T2, N2, hc2, hp, hfin⟩ := hT
  cases hc.symm.trans hc2
  have hq : q < w.2 := hW.lt (by rw [hh]; exact ob_nj hc)
  have he : (wl G w h)[q]? = some (w.1 q, .inr (ci, fs.map (cv w.1))) := by rw [wl_get G w h hq, hh]; rfl
  refine va_put (ref := (T kf).1) C.1 C.2.1 C.2.2.2.2.1 (inC ci C1 T N hc).1 (tyC ci) (inC ci C1 T N hc).2.1 (inC ci C1 T N hc).2.2 C.2.2.2.1 C.2.2.2.2.2.2.2.1 hW.1 hW.2.1 hS q he hc kf hk (C.2.2.2.2.1 _ hm) (fun x hx => hx) hfin hp (hn _) (hf _) (by rw [List.length_map]; exact hl) hd (fun H1 locs1 hP1 hD1 hS1 => k H1 locs1 ls (hW.set hq (c := .inr (ci, fs.set kf v)) ?_ ?_ hP1 hD1) hS1 hL)
  · show (Sum.inr (ci, (fs.set kf v).map (cv w.1)) : va_E) = _
    rw [List.map_set]
  · intro v' hv'
    have hcl := hW.2.2.2 q hq
    rw [hh] at hcl
    rcases List.mem_or_eq_of_mem_set hv' with h1 | h1
    · exact hcl v' h1
    · rw [h1]; exact hok _
theorem v_putI (C : Cx X μ tab d zR o P) {ix ci kf q : Nat} {fs : List Value} {x : Int32} (hd : decode μ.2.1 pc = .ok (.putfield ix, 3)) (hF : FLk μ.1.cls ix ci kf) (hT : FPt ci kf .int false) (hh : h q = .inr (ci, fs)) (hl : Nat.blt kf fs.length = true) (k : V X z w (hu h q (.inr (ci, fs.set kf (.int x)))) (pc + 3) L st) : V X z w h pc L (.int x :: .ref q :: st) :=
  v_putf C hd hF hT hh (fun _ => rfl) (fun _ => rfl) (fun _ => trivial) (by simpa using hl) k
def bI (b : Bool) : Int32 := if b then 1 else 0
theorem v_putZ (C : Cx X μ tab d zR o P) {ix ci kf q : Nat} {fs : List Value} {b : Bool} (hd : decode μ.2.1 pc = .ok (.putfield ix, 3)) (hF : FLk μ.1.cls ix ci kf) (hT : FPt ci kf .boolean false) (hh : h q = .inr (ci, fs)) (hl : Nat.blt kf fs.length = true) (k : V X z w (hu h q (.inr (ci, fs.set kf (.int (bI b))))) (pc + 3) L st) : V X z w h pc L (.int (bI b) :: .ref q :: st) :=
  v_putf C hd hF hT hh (fun _ => by cases b <;> rfl) (fun _ => by cases b <;> rfl) (fun _ => trivial) (by simpa using hl) k
theorem v_iald (C : Cx X μ tab d zR o P) {q n j : Nat} {f : Nat → Int32} {i v : Int32} (hd : decode μ.2.1 pc = .ok (.iaload, 1)) (hh : h q = io n f) (hn : n < 2 ^ 31) (hi : i = nI j) (hj : j < n) (hv : f j = v) (k : V X z w h (pc + 1) L (.int v :: st)) : V X z w h pc L (.int i :: .ref q :: st) := by
  rcases X with ⟨p, l, e, R, s, m, args, below, meth, c, G, B, Q⟩
  intro H locs ls hW hS hl
  have hq : q < w.2 := hW.lt (by rw [hh]; exact ar_nj)
  have he : (wl G w h)[q]? = some (w.1 q, .inl (G.2 0, n, .inl f)) := by rw [wl_get G w h hq, hh]; rfl
  subst hi
  refine va_iald C.1 C.2.1 C.2.2.2.2.2.2.2.1 hW.1 q 0 he rfl (vp_in_nI hj hn) hd ?_
  rw [nI_clamp (by omega), hv]
  exact k H locs ls hW hS hl
theorem v_iast (C : Cx X μ tab d zR o P) {q n j : Nat} {f : Nat → Int32} {i x : Int32} (hd : decode μ.2.1 pc = .ok (.iastore, 1)) (hh : h q = io n f) (hn : n < 2 ^ 31) (hi : i = nI j) (hj : j < n) (k : V X z w (hu h q (io n (upd f j x))) (pc + 1) L st) : V X z w h pc L (.int x :: .int i :: .ref q :: st) := by
  rcases X with ⟨p, l, e, R, s, m, args, below, meth, c, G, B, Q⟩
  intro H locs ls hW hS hl
  have hq : q < w.2 := hW.lt (by rw [hh]; exact ar_nj)
  have he : (wl G w h)[q]? = some (w.1 q, .inl (G.2 0, n, .inl f)) := by rw [wl_get G w h hq, hh]; rfl
  subst hi
  refine va_iast C.1 C.2.1 C.2.2.2.2.2.2.2.1 hW.1 hW.2.1 hS q 0 he rfl (vp_in_nI hj hn) hd (fun H1 locs1 hP1 hD1 hS1 => ?_)
  rw [nI_clamp (by omega)] at hP1 hD1
  exact k H1 locs1 ls (hW.set hq (c := io n (upd f j x)) rfl trivial hP1 hD1) hS1 hl
theorem v_lald (C : Cx X μ tab d zR o P) {q n j : Nat} {f : Nat → Int64} {i : Int32} {v : Int64} (hd : decode μ.2.1 pc = .ok (.laload, 1)) (hh : h q = jo n f) (hn : n < 2 ^ 31) (hi : i = nI j) (hj : j < n) (hv : f j = v) (k : V X z w h (pc + 1) L (.long v :: st)) : V X z w h pc L (.int i :: .ref q :: st) := by
  rcases X with ⟨p, l, e, R, s, m, args, below, meth, c, G, B, Q⟩
  intro H locs ls hW hS hl
  have hq : q < w.2 := hW.lt (by rw [hh]; exact ar_nj)
  have he : (wl G w h)[q]? = some (w.1 q, .inl (G.2 2, n, .inr (.inl f))) := by rw [wl_get G w h hq, hh]; rfl
  subst hi
  refine va_lald C.1 C.2.1 C.2.2.2.2.2.2.2.1 hW.1 q 2 he rfl (vp_in_nI hj hn) hd ?_
  rw [nI_clamp (by omega), hv]
  exact k H locs ls hW hS hl
theorem v_last (C : Cx X μ tab d zR o P) {q n j : Nat} {f : Nat → Int64} {i : Int32} {x : Int64} (hd : decode μ.2.1 pc = .ok (.lastore, 1)) (hh : h q = jo n f) (hn : n < 2 ^ 31) (hi : i = nI j) (hj : j < n) (k : V X z w (hu h q (jo n (vp_updL f j x))) (pc + 1) L st) : V X z w h pc L (.long x :: .int i :: .ref q :: st) := by
  rcases X with ⟨p, l, e, R, s, m, args, below, meth, c, G, B, Q⟩
  intro H locs ls hW hS hl
  have hq : q < w.2 := hW.lt (by rw [hh]; exact ar_nj)
  have he : (wl G w h)[q]? = some (w.1 q, .inl (G.2 2, n, .inr (.inl f))) := by rw [wl_get G w h hq, hh]; rfl
  subst hi
  refine va_last C.1 C.2.1 C.2.2.2.2.2.2.2.1 hW.1 hW.2.1 hS q 2 he rfl (vp_in_nI hj hn) hd (fun H1 locs1 hP1 hD1 hS1 => ?_)
  rw [nI_clamp (by omega)] at hP1 hD1
  exact k H1 locs1 ls (hW.set hq (c := jo n (vp_updL f j x)) rfl trivial hP1 hD1) hS1 hl
theorem v_zald (C : Cx X μ tab d zR o P) {q n j : Nat} {f : Nat → Int32} {i v : Int32} (hd : decode μ.2.1 pc = .ok (.baload, 1)) (hh : h q = zo n f) (hn : n < 2 ^ 31) (hi : i = nI j) (hj : j < n) (hv : f j = v) (k : V X z w h (pc + 1) L (.int v :: st)) : V X z w h pc L (.int i :: .ref q :: st) := by
  rcases X with ⟨p, l, e, R, s, m, args, below, meth, c, G, B, Q⟩
  intro H locs ls hW hS hl
  have hq : q < w.2 := hW.lt (by rw [hh]; exact ar_nj)
  have he : (wl G w h)[q]? = some (w.1 q, .inl (G.2 1, n, .inl f)) := by rw [wl_get G w h hq, hh]; rfl
  subst hi
  refine va_zald C.1 C.2.1 C.2.2.2.2.2.2.2.1 hW.1 q 1 he rfl (vp_in_nI hj hn) hd ?_
  rw [nI_clamp (by omega), hv]
  exact k H locs ls hW hS hl
theorem nar_bI (b : Bool) : vp_nar .boolean (bI b) = bI b := by cases b <;> rfl
theorem v_zast (C : Cx X μ tab d zR o P) {q n j : Nat} {f : Nat → Int32} {i : Int32} {b : Bool} (hd : decode μ.2.1 pc = .ok (.bastore, 1)) (hh : h q = zo n f) (hn : n < 2 ^ 31) (hi : i = nI j) (hj : j < n) (k : V X z w (hu h q (zo n (upd f j (bI b)))) (pc + 1) L st) : V X z w h pc L (.int (bI b) :: .int i :: .ref q :: st) := by
  rcases X with ⟨p, l, e, R, s, m, args, below, meth, c, G, B, Q⟩
  intro H locs ls hW hS hl
  have hq : q < w.2 := hW.lt (by rw [hh]; exact ar_nj)
  have he : (wl G w h)[q]? = some (w.1 q, .inl (G.2 1, n, .inl f)) := by rw [wl_get G w h hq, hh]; rfl
  subst hi
  refine va_zast C.1 C.2.1 C.2.2.2.2.2.2.2.1 hW.1 hW.2.1 hS q 1 he rfl (vp_in_nI hj hn) hd (fun H1 locs1 hP1 hD1 hS1 => ?_)
  rw [nI_clamp (by omega), nar_bI] at hP1 hD1
  exact k H1 locs1 ls (hW.set hq (c := zo n (upd f j (bI b))) rfl trivial hP1 hD1) hS1 hl
theorem v_alen (C : Cx X μ tab d zR o P) {q t : Nat} {a : vp_A} (hd : decode μ.2.1 pc = .ok (.arraylength, 1)) (hh : h q = .inl (t, a)) (ht : Nat.blt t 4 = true) (k : V X z w h (pc + 1) L (.int (nI a.1) :: st)) : V X z w h pc L (.ref q :: st) := by
  rcases X with ⟨p, l, e, R, s, m, args, below, meth, c, G, B, Q⟩
  intro H locs ls hW hS hl
  have hq : q < w.2 := hW.lt (by rw [hh]; exact ar_nj)
  have he : (wl G w h)[q]? = some (w.1 q, .inl (G.2 t, cx w.1 a)) := by rw [wl_get G w h hq, hh]; rfl
  have ha : (cx w.1 a).1 = a.1 := by
    obtain ⟨n, f | f | f | f | f⟩ := a <;> rfl
  have ht' : ∃ ty, (tysD G)[t]? = some (G.2 t, ty) := by
    have : t < 4 := by simpa using ht
    rcases (by omega : t = 0 ∨ t = 1 ∨ t = 2 ∨ t = 3) with rfl | rfl | rfl | rfl <;> exact ⟨_, rfl⟩
  obtain ⟨ty, ht'⟩ := ht'
  exact va_alen C.1 C.2.1 C.2.2.2.2.2.2.2.1 hW.1 q t he ht' (by rw [ha]; rfl) hd (k H locs ls hW hS hl)
theorem v_aald (C : Cx X μ tab d zR o P) {q n j r : Nat} {f : Nat → Option Nat} {i : Int32} (hd : decode μ.2.1 pc = .ok (.aaload, 1)) (hh : h q = ao n f) (hn : n < 2 ^ 31) (hi : i = nI j) (hj : j < n) (hv : f j = some r) (k : V X z w h (pc + 1) L (.ref r :: st)) : V X z w h pc L (.int i :: .ref q :: st) := by
  rcases X with ⟨p, l, e, R, s, m, args, below, meth, c, G, B, Q⟩
  intro H locs ls hW hS hl
  have hq : q < w.2 := hW.lt (by rw [hh]; exact ar_nj)
  have he : (wl G w h)[q]? = some (w.1 q, .inl (G.2 3, n, .inr (.inr (.inr (.inr (fun j => (f j).map w.1)))))) := by rw [wl_get G w h hq, hh]; rfl
  subst hi
  have hlt : (nI j).toNatClampNeg < n := by rw [nI_clamp (by omega)]; exact hj
  exact W.aald (v := .ref (w.1 r)) (ty := .array .int) C.1 C.2.1 (hW.1 q _ he) ((C.2.2.2.2.2.2.2.1.2 3 _ rfl).1 n (fun j => va_rf ((f j).map w.1))) rfl (fun q => by cases q) (by show ¬ (nI j < 0 ∨ (arrV _ _ _).slots.size ≤ _); rw [arrV_size]; exact vp_in_nI hj hn) (by show (arrV _ _ _).slots[_]? = _; rw [arrV_read _ _ hlt, nI_clamp (by omega)]; dsimp only; rw [hv]; rfl) rfl rfl hd (k H locs ls hW hS hl)
end VH
