/-! ===== making cells: the world grows ===== -/
def wx (w : Wt) (a : Nat) : Wt := (fun i => if i = w.2 then a else w.1 i, w.2 + 1)
def nrv (N : Nat) : Value → Prop
  | .ref a => a ≠ N
  | _ => True
theorem cv_wx {w : Wt} {a : Nat} {v : Value} (h : nrv w.2 v) : cv (wx w a).1 v = cv w.1 v := by
  cases v <;> first | rfl | (show Value.ref _ = Value.ref _; exact congrArg Value.ref (if_neg h))
theorem Lc.wx {w : Wt} {a : Nat} {L : List (Option Value)} {ls : Array Slot} (h : Lc w.1 L ls) (hL : ∀ v, some v ∈ L → nrv w.2 v) : Lc (wx w a).1 L ls := ⟨h.1, h.2.1, fun i v hi => by rw [cv_wx (hL v (List.mem_of_getElem? hi))]; exact h.2.2 i v hi⟩
theorem st_wx {w : Wt} {a : Nat} {st : List Value} (h : ∀ v ∈ st, nrv w.2 v) : st.map (cv (wx w a).1) = st.map (cv w.1) := List.map_congr_left (fun v hv => cv_wx (h v hv))
theorem okv_le {N M : Nat} (hle : N ≤ M) {v : Value} (h : okv N v) : okv M v := by
  cases v <;> first | trivial | exact Nat.lt_of_lt_of_le h hle
theorem clo_le {N M : Nat} (hle : N ≤ M) {c : PE} (h : clo N c) : clo M c := by
  match c, h with
  | .inl (t, n, .inl f), _ => trivial
  | .inl (t, n, .inr (.inl f)), _ => trivial
  | .inl (t, n, .inr (.inr (.inl f))), _ => trivial
  | .inl (t, n, .inr (.inr (.inr (.inl f)))), _ => trivial
  | .inl (t, n, .inr (.inr (.inr (.inr f)))), h => exact fun j a hj => Nat.lt_of_lt_of_le (h j a hj) hle
  | .inr (ci, fs), h => exact fun v hv => okv_le hle (h v hv)
theorem Wd.push {G : GG} {B : Nat} {w : Wt} {h : Hp} {H H1 : Heap} {a : Nat} {c : PE} {e : va_E} (hW : Wd G B w h H) (hc : cz G.2 (wx w a).1 c = e) (ho : clo (w.2 + 1) c) (hP : va_P G.1 cls10 (wl G w h ++ [(a, e)]) H1) (hD : va_D (AB B) (wl G w h ++ [(a, e)])) : Wd G B (wx w a) (hu h w.2 c) H1 := by
  have hl : wl G (wx w a) (hu h w.2 c) = wl G w h ++ [(a, e)] := by
    have e1 : wl G ((wx w a).1, w.2) h = wl G w h := wl_ext G h rfl (fun i hi => if_neg (Nat.ne_of_lt hi)) hW.2.2.2
    rw [← e1]
    show (List.range (w.2 + 1)).map _ = (List.range w.2).map _ ++ _
    rw [List.range_succ, List.map_append, List.map_singleton, hu_s, hc, show (wx w a).1 w.2 = a from if_pos rfl]
    congr 1
    refine List.map_congr_left fun i hi => ?_
    rw [hu_n _ _ (Nat.ne_of_lt (List.mem_range.mp hi))]
  refine ⟨by rw [hl]; exact hP, by rw [hl]; exact hD, fun q hq => ?_, fun q hq => ?_⟩
  · have hq : w.2 + 1 ≤ q := hq
    rw [hu_n _ _ (by omega)]
    exact hW.2.2.1 q (by omega)
  · have hq : q < w.2 + 1 := hq
    by_cases z : q = w.2
    · rw [z, hu_s]; exact ho
    · rw [hu_n _ _ z]
      exact clo_le (Nat.le_succ _) (hW.2.2.2 q (by omega))
section VA
variable {X : CT} {μ : Mi} {tab : List ExceptionTableEntry} {d : Nat} {zR : Nat × Nat} {o : Oc} {P : Wt → Hp → Prop} {z : Nat × Nat} {w : Wt} {h : Hp} {pc : Nat} {L : List (Option Value)} {st : List Value}
theorem v_newaI (C : Cx X μ tab d zR o P) {n : Nat} (hd : decode μ.2.1 pc = .ok (.newarray .int, 2)) (hn : n ≤ 7000) (hz : z.1 + 1 ≤ zR.1 ∧ z.2 + n ≤ zR.2) (hL : ∀ v, some v ∈ L → nrv w.2 v) (hst : ∀ v ∈ st, nrv w.2 v) (k : ∀ a, V X (z.1 + 1, z.2 + n) (wx w a) (hu h w.2 (io n (fun _ => 0))) (pc + 2) L (.ref w.2 :: st)) : V X z w h pc L (.int (nI n) :: st) := by
  rcases X with ⟨p, l, e, R, s, m, args, below, meth, c, G, B, Q⟩
  intro H locs ls hW hS hl
  have hBs := C.2.2.2.2.2.2.2.2.1
  obtain ⟨r1, r2, r3, r4⟩ := C.2.2.2.2.2.2.2.2.2.2.2.1
  obtain ⟨z1, z2⟩ := hz
  refine va_newa (atype := .int) (ty := .int) (N' := n) (a0 := (io n (fun _ => 0)).elim (fun x => x.2) (fun _ => (0, .inl (fun _ => 0)))) C.1 C.2.1 (C.2.2.2.2.1 _ (tj1 113 (by rfl) rfl)) rfl C.2.2.2.2.2.2.2.1 hW.1 hW.2.1 hS (fun q hq => Nat.le_trans hBs hq) (fun _ => rfl) (fun q => nlt_of_n (Nat.zero_le _) (by omega) q) (nI_clamp (by omega)) (by show n * 4 ≤ _; omega) (by omega) (by omega) hd (fun a cA H1 hK1 hP1 hD1 hS1 => ?_)
  have e1 := (hK1.2 4 (cA, .int) rfl).2
  have e0 := (hK1.2 0 (G.2 0, .int) rfl).2
  cases Option.some.inj (e1.symm.trans e0)
  have := k a H1 locs ls (hW.push (c := io n (fun _ => 0)) rfl trivial hP1 hD1) hS1 (hl.wx hL)
  rw [List.map_cons, st_wx hst, show cv (wx w a).1 (.ref w.2) = .ref a from congrArg Value.ref (if_pos rfl)] at this
  exact this
theorem v_newaZ (C : Cx X μ tab d zR o P) {n : Nat} (hd : decode μ.2.1 pc = .ok (.newarray .boolean, 2)) (hn : n ≤ 7000) (hz : z.1 + 1 ≤ zR.1 ∧ z.2 + n ≤ zR.2) (hL : ∀ v, some v ∈ L → nrv w.2 v) (hst : ∀ v ∈ st, nrv w.2 v) (k : ∀ a, V X (z.1 + 1, z.2 + n) (wx w a) (hu h w.2 (zo n (fun _ => 0))) (pc + 2) L (.ref w.2 :: st)) : V X z w h pc L (.int (nI n) :: st) := by
  rcases X with ⟨p, l, e, R, s, m, args, below, meth, c, G, B, Q⟩
  intro H locs ls hW hS hl
  have hBs := C.2.2.2.2.2.2.2.2.1
  obtain ⟨r1, r2, r3, r4⟩ := C.2.2.2.2.2.2.2.2.2.2.2.1
  obtain ⟨z1, z2⟩ := hz
  refine va_newa (atype := .boolean) (ty := .boolean) (N' := n) (a0 := (zo n (fun _ => 0)).elim (fun x => x.2) (fun _ => (0, .inl (fun _ => 0)))) C.1 C.2.1 (C.2.2.2.2.1 _ (tj7 36 (by rfl) rfl)) rfl C.2.2.2.2.2.2.2.1 hW.1 hW.2.1 hS (fun q hq => Nat.le_trans hBs hq) (fun _ => rfl) (fun q => nlt_of_n (Nat.zero_le _) (by omega) q) (nI_clamp (by omega)) (by show n * 1 ≤ _; omega) (by omega) (by omega) hd (fun a cA H1 hK1 hP1 hD1 hS1 => ?_)
  have e1 := (hK1.2 4 (cA, .boolean) rfl).2
  have e0 := (hK1.2 1 (G.2 1, .boolean) rfl).2
  cases Option.some.inj (e1.symm.trans e0)
  have := k a H1 locs ls (hW.push (c := zo n (fun _ => 0)) rfl trivial hP1 hD1) hS1 (hl.wx hL)
  rw [List.map_cons, st_wx hst, show cv (wx w a).1 (.ref w.2) = .ref a from congrArg Value.ref (if_pos rfl)] at this
  exact this
theorem v_newaJ (C : Cx X μ tab d zR o P) {n : Nat} (hd : decode μ.2.1 pc = .ok (.newarray .long, 2)) (hn : n ≤ 7000) (hz : z.1 + 1 ≤ zR.1 ∧ z.2 + n ≤ zR.2) (hL : ∀ v, some v ∈ L → nrv w.2 v) (hst : ∀ v ∈ st, nrv w.2 v) (k : ∀ a, V X (z.1 + 1, z.2 + n) (wx w a) (hu h w.2 (jo n (fun _ => 0))) (pc + 2) L (.ref w.2 :: st)) : V X z w h pc L (.int (nI n) :: st) := by
  rcases X with ⟨p, l, e, R, s, m, args, below, meth, c, G, B, Q⟩
  intro H locs ls hW hS hl
  have hBs := C.2.2.2.2.2.2.2.2.1
  obtain ⟨r1, r2, r3, r4⟩ := C.2.2.2.2.2.2.2.2.2.2.2.1
  obtain ⟨z1, z2⟩ := hz
  refine va_newa (atype := .long) (ty := .long) (N' := n) (a0 := (jo n (fun _ => 0)).elim (fun x => x.2) (fun _ => (0, .inl (fun _ => 0)))) C.1 C.2.1 (C.2.2.2.2.1 _ (tj2 21 (by rfl) rfl)) rfl C.2.2.2.2.2.2.2.1 hW.1 hW.2.1 hS (fun q hq => Nat.le_trans hBs hq) (fun _ => rfl) (fun q => nlt_of_n (Nat.zero_le _) (by omega) q) (nI_clamp (by omega)) (by show n * 8 ≤ _; omega) (by omega) (by omega) hd (fun a cA H1 hK1 hP1 hD1 hS1 => ?_)
  have e1 := (hK1.2 4 (cA, .long) rfl).2
  have e0 := (hK1.2 2 (G.2 2, .long) rfl).2
  cases Option.some.inj (e1.symm.trans e0)
  have := k a H1 locs ls (hW.push (c := jo n (fun _ => 0)) rfl trivial hP1 hD1) hS1 (hl.wx hL)
  rw [List.map_cons, st_wx hst, show cv (wx w a).1 (.ref w.2) = .ref a from congrArg Value.ref (if_pos rfl)] at this
  exact this
/-- a final field, in a constructor -/
theorem v_putF (C : Cx X μ tab d zR o P) {ix ci kf q : Nat} {fs : List Value} {v : Value} {ty : FieldType} (hd : decode μ.2.1 pc = .ok (.putfield ix, 3)) (hF : FLk μ.1.cls ix ci kf) (hT : FPt ci kf ty true) (hin : μ.1.name = "<init>") (hdecl : ∀ C1 T N, cls10[ci]? = some (C1, T, N) → (T kf).1 = μ.1.cls) (hh : h q = .inr (ci, fs)) (hn : ∀ ad, narrow ty (cv ad v) = cv ad v) (hf : ∀ ad, fits ty (cv ad v) = true) (hok : okv w.2 v) (hl : Nat.blt kf fs.length = true) (k : V X z w (hu h q (.inr (ci, fs.set kf v))) (pc + 3) L st) : V X z w h pc L (v :: .ref q :: st) := by
  have hl : kf < fs.length := by simpa using hl
  rcases X with ⟨p, l, e, R, s, m, args, below, meth, c, G, B, Q⟩
  intro H locs ls hW hS hL
  obtain ⟨C1, T, N, hc, hk, hm⟩ := hF
  obtain ⟨C2, T2, N2, hc2, hp, hfin⟩ := hT
  cases hc.symm.trans hc2
  have hq : q < w.2 := hW.lt (by rw [hh]; exact ob_nj hc)
  have he : (wl G w h)[q]? = some (w.1 q, .inr (ci, fs.map (cv w.1))) := by rw [wl_get G w h hq, hh]; rfl
  refine va_putF (ref := (T kf).1) C.1 C.2.1 C.2.2.2.2.1 (inC ci C1 T N hc).1 (tyC ci) (inC ci C1 T N hc).2.1 (inC ci C1 T N hc).2.2 C.2.2.2.1 C.2.2.2.2.2.2.2.1 hW.1 hW.2.1 hS q he hc kf hk (C.2.2.2.2.1 _ hm) (fun x hx => hx) hfin (C.2.2.2.2.2.2.2.2.2.2.2.2.2.2.1.trans hin) (hdecl C1 T N hc) hp (hn _) (hf _) (by rw [List.length_map]; exact hl) hd (fun H1 locs1 hP1 hD1 hS1 => k H1 locs1 ls (hW.set hq (c := .inr (ci, fs.set kf v)) ?_ ?_ hP1 hD1) hS1 hL)
  · show (Sum.inr (ci, (fs.set kf v).map (cv w.1)) : va_E) = _
    rw [List.map_set]
  · intro v' hv'
    have hcl := hW.2.2.2 q hq
    rw [hh] at hcl
    rcases List.mem_or_eq_of_mem_set hv' with h1 | h1
    · exact hcl v' h1
    · rw [h1]; exact hok
/-- Object's constructor -/
theorem v_objI (C : Cx X μ tab d zR o P) {ix q : Nat} (hd : decode μ.2.1 pc = .ok (.invokespecial ix, 3)) (hlk : Cond.methodLink μ.1.cls ix Lib.objectInit ∈ TSg) (hLn : L.length = μ.2.2.1) (hcat : Nat.ble (st.map fun v => v.category).sum 8 = true) (k : V X z w h (pc + 3) L st) : V X z w h pc L (.ref q :: st) := by
  rcases X with ⟨p, l, e, R, s, m, args, below, meth, c, G, B, Q⟩
  intro H locs ls hW hS hl
  obtain ⟨r1, r2, r3, r4⟩ := C.2.2.2.2.2.2.2.2.2.2.2.1
  have hts := C.2.2.2.2.1
  have hro := lv_room (m := m) (pc := pc) (ls := ls) (rest := (Value.ref q :: st).map (cv w.1)) (st := st.map (cv w.1)) (by rw [cv_sum]; exact Nat.le_of_ble_eq_true hcat)
  exact W.objInit C.1 C.2.1 C.2.2.2.1 (hts _ hlk) (hts _ (tj1 38 (by rfl) rfl)) (hts _ (tj1 39 (by rfl) rfl)) rfl (hl.1.trans (hLn.trans C.2.2.1.symm)) rfl hd (by omega) (by omega) (k H locs ls hW hS hl)
/-- a new object, its fields as they are born -/
theorem v_newO (C : Cx X μ tab d zR o P) {ix ci N : Nat} {C1 : String} {T : u_T} {fs : List Value} (hd : decode μ.2.1 pc = .ok (.new ix, 3)) (hc : cls10[ci]? = some (C1, T, N)) (h1 : Cond.classLink μ.1.cls ix C1 ∈ TSg) (h2 : Cond.instantiable C1 N ∈ TSg) (h3 : Cond.initialized C1 ∈ TSg) (hfs : ∀ j, j < N → defaultValue (tyC ci j) = vp_V fs j) (hnr : ∀ v ∈ fs, ∀ a, v ≠ .ref a) (hz : z.1 + 1 ≤ zR.1 ∧ z.2 + N ≤ zR.2) (hL : ∀ v, some v ∈ L → nrv w.2 v) (hst : ∀ v ∈ st, nrv w.2 v) (k : ∀ a, V X (z.1 + 1, z.2 + N) (wx w a) (hu h w.2 (.inr (ci, fs))) (pc + 3) L (.ref w.2 :: st)) : V X z w h pc L st := by
  rcases X with ⟨p, l, e, R, s, m, args, below, meth, c, G, B, Q⟩
  intro H locs ls hW hS hl
  have hBs := C.2.2.2.2.2.2.2.2.1
  obtain ⟨r1, r2, r3, r4⟩ := C.2.2.2.2.2.2.2.2.2.2.2.1
  obtain ⟨z1, z2⟩ := hz
  have hts := C.2.2.2.2.1
  have hid : ∀ ad : Nat → Nat, fs.map (cv ad) = fs := fun ad => by
    conv => rhs; rw [← List.map_id fs]
    refine List.map_congr_left fun v hv => ?_
    cases v <;> first | rfl | exact absurd rfl (hnr _ hv _)
  refine va_new (ci := ci) (fs := fs) (C := C1) (T := T) (N := N) C.1 C.2.1 hts (inC ci C1 T N hc).1 (tyC ci) (inC ci C1 T N hc).2.1 C.2.2.2.1 (hts _ h1) (hts _ h2) (hts _ h3) C.2.2.2.2.2.2.2.1 hW.1 hW.2.1 hS (fun q hq => Nat.le_trans hBs hq) hc hfs (by omega) (by omega) hd (fun a H1 hP1 hD1 hS1 => ?_)
  have := k a H1 locs ls (hW.push (c := .inr (ci, fs)) (by show (Sum.inr (ci, fs.map (cv (wx w a).1)) : va_E) = _; rw [hid]) (fun v hv => by cases v <;> first | trivial | exact absurd rfl (hnr _ hv _)) hP1 hD1) hS1 (hl.wx hL)
  rw [List.map_cons, st_wx hst, show cv (wx w a).1 (.ref w.2) = .ref a from congrArg Value.ref (if_pos rfl)] at this
  exact this
end VA
