/-! ===== the rules of V: ends, entries, calls, throws ===== -/
theorem entL_mem (ad : Nat → Nat) : ∀ (n : Nat) (vs : List Value) (k i : Nat) (v : Value), (entL n vs)[i]? = some (some v) → (∀ u ∈ vs, ∀ x, u ≠ .double x) → (k + i, cv ad v) ∈ lv_args k (vs.map (cv ad))
  | n, [], k, i, v, h, _ => by
    simp [entL] at h
    have := List.mem_of_getElem? h
    simp at this
  | 0, u :: vs, k, i, v, h, _ => by
    cases u <;> simp [entL] at h
  | 1, u :: vs, k, i, v, h, hd => by
    have e : entL 1 (u :: vs) = some u :: entL 0 vs := by cases u <;> rfl
    rw [e] at h
    cases i with
    | zero => simp at h; subst h; exact List.mem_cons_self
    | succ i =>
      cases vs with
      | nil => simp [entL] at h
      | cons a b => cases a <;> simp [entL] at h
  | n + 2, u :: vs, k, i, v, h, hd => by
    cases u with
    | double x => exact absurd rfl (hd _ List.mem_cons_self x)
    | long x =>
      simp only [entL] at h
      cases i with
      | zero => simp at h; subst h; exact List.mem_cons_self
      | succ i =>
        cases i with
        | zero => simp at h
        | succ i =>
          have := entL_mem ad n vs (k + 2) i v (by simpa using h) (fun u hu => hd u (List.mem_cons_of_mem _ hu))
          rw [show k + (i + 1 + 1) = k + 2 + i by omega]
          exact List.mem_cons_of_mem _ (by simpa [cv, Value.category] using this)
    | int x =>
      simp only [entL] at h
      cases i with
      | zero => simp at h; subst h; exact List.mem_cons_self
      | succ i =>
        have := entL_mem ad (n + 1) vs (k + 1) i v (by simpa using h) (fun u hu => hd u (List.mem_cons_of_mem _ hu))
        rw [show k + (i + 1) = k + 1 + i by omega]
        exact List.mem_cons_of_mem _ (by simpa [cv, Value.category] using this)
    | float x =>
      simp only [entL] at h
      cases i with
      | zero => simp at h; subst h; exact List.mem_cons_self
      | succ i =>
        have := entL_mem ad (n + 1) vs (k + 1) i v (by simpa using h) (fun u hu => hd u (List.mem_cons_of_mem _ hu))
        rw [show k + (i + 1) = k + 1 + i by omega]
        exact List.mem_cons_of_mem _ (by simpa [cv, Value.category] using this)
    | null =>
      simp only [entL] at h
      cases i with
      | zero => simp at h; subst h; exact List.mem_cons_self
      | succ i =>
        have := entL_mem ad (n + 1) vs (k + 1) i v (by simpa using h) (fun u hu => hd u (List.mem_cons_of_mem _ hu))
        rw [show k + (i + 1) = k + 1 + i by omega]
        exact List.mem_cons_of_mem _ (by simpa [cv, Value.category] using this)
    | ref x =>
      simp only [entL] at h
      cases i with
      | zero => simp at h; subst h; exact List.mem_cons_self
      | succ i =>
        have := entL_mem ad (n + 1) vs (k + 1) i v (by simpa using h) (fun u hu => hd u (List.mem_cons_of_mem _ hu))
        rw [show k + (i + 1) = k + 1 + i by omega]
        exact List.mem_cons_of_mem _ (by simpa [cv, Value.category] using this)
    | retAddr x =>
      simp only [entL] at h
      cases i with
      | zero => simp at h; subst h; exact List.mem_cons_self
      | succ i =>
        have := entL_mem ad (n + 1) vs (k + 1) i v (by simpa using h) (fun u hu => hd u (List.mem_cons_of_mem _ hu))
        rw [show k + (i + 1) = k + 1 + i by omega]
        exact List.mem_cons_of_mem _ (by simpa [cv, Value.category] using this)
/-- the arguments fit the locals -/
def ent_ok (n : Nat) (vs : List Value) : Prop := (∀ ad : Nat → Nat, Nat.ble (lg_sl (vs.map (cv ad))).length n = true) ∧ (entL n vs).length = n ∧ ∀ u ∈ vs, ∀ x, u ≠ .double x
theorem conI {μ : Mi} {d : Nat} {z : Nat × Nat} {w : Wt} {as : List Value} {h : Hp} {o : Oc} {P : Wt → Hp → Prop} (hy : plainName μ.1.cls = true) (he : ent_ok μ.2.2.1 as) (body : ∀ X, Cx X μ [] d z o P → V X (0, 0) w h 0 (entL μ.2.2.1 as) []) : Con μ d z w as h o P := by
  intro l G B hl0
  refine vx_ofW hy rfl ?_
  intro p e s m args below meth c s₁ B' hml htab hv
  obtain ⟨rfl, hWd, hK, hB, hSt, hEx⟩ := hv
  have hts := atoms_spec (ws := .code μ.1 μ.2.1 μ.2.2.1 μ.2.2.2.1 :: TSg) B'.pre
  have ht : c.exceptionTable.toList = [] := by
    cases hc : c.exceptionTable.toList with
    | nil => rfl
    | cons a b => exact absurd (htab a (by rw [hc]; exact List.mem_cons_self)) id
  have hC : Cx (p, l, e, (headSpec (.code μ.1 μ.2.1 μ.2.2.1 μ.2.2.2.1 :: TSg) (rmD d z)).room, s, m, (as.map (cv w.1)).toArray, below, meth, c, G, B, vx_MQ below (QcD G B o P) (XcD G B o P) (as.map (cv w.1)).toArray s z.1 z.2 (AB B)) μ [] d z o P :=
    ⟨B'.exec, B'.bytes, hml, findClass_of_methodNamed B'.named, fun w hw => hts w (List.mem_cons_of_mem _ hw), B'.notSynchronized, hl0, hK, hB, hSt, hEx, ⟨Nat.le_refl _, Nat.le_refl _, Nat.le_refl _, Nat.le_refl _⟩, ht, B'.returns, (name_of_methodNamed B'.named B'.method).1, rfl⟩
  have hV := body _ hC
  have hl := lv_entry (as.map (cv w.1)) (n := μ.2.2.1) (Nat.le_of_ble_eq_true (he.1 _))
  rw [lg_entry_eq]
  refine hV s.heap [] _ hWd va_S.rf ⟨hl.1.trans he.2.1.symm, hl.2.1, fun i v hi => ?_⟩
  have := hl.2.2 (0 + i, cv w.1 v) (entL_mem w.1 μ.2.2.1 as 0 i v hi he.2.2)
  simpa using this
section VC
variable {X : CT} {μ : Mi} {tab : List ExceptionTableEntry} {d : Nat} {zR : Nat × Nat} {o : Oc} {P : Wt → Hp → Prop} {z : Nat × Nat} {w : Wt} {h : Hp} {pc : Nat} {L : List (Option Value)} {st : List Value}
theorem v_iret (C : Cx X μ tab d zR o P) {x : Int32} (hd : decode μ.2.1 pc = .ok (.ireturn, 1)) (hr : μ.2.2.2.1 = some .int) (ho : o = .inl (some (.int x))) (hz : z.1 ≤ zR.1 ∧ z.2 ≤ zR.2) (hP : P w h) : V X z w h pc L [.int x] := by
  rcases X with ⟨p, l, e, R, s, m, args, below, meth, c, G, B, Q⟩
  intro H locs ls hW hS hl
  have hQ := C.2.2.2.2.2.2.2.2.2.2.2.2.2.2.2
  subst hQ
  exact W.widen hz.1 hz.2 (vx_ret (W.widen (Nat.le_refl _) (Nat.le_refl _) (W.iret C.1 C.2.1 (C.2.2.2.2.2.2.2.2.2.2.2.2.2.1.trans hr) (fun t ht hWm => ⟨⟨some (.int x), w, h, rfl, ho, hP, by rw [ht]; exact hW⟩, hS.F ht⟩) hS.2.2 hd C.2.2.2.2.2.1)))
theorem v_zret (C : Cx X μ tab d zR o P) {b : Bool} (hd : decode μ.2.1 pc = .ok (.ireturn, 1)) (hr : μ.2.2.2.1 = some .boolean) (ho : o = .inl (some (.int (bI b)))) (hz : z.1 ≤ zR.1 ∧ z.2 ≤ zR.2) (hP : P w h) : V X z w h pc L [.int (bI b)] := by
  rcases X with ⟨p, l, e, R, s, m, args, below, meth, c, G, B, Q⟩
  intro H locs ls hW hS hl
  have hQ := C.2.2.2.2.2.2.2.2.2.2.2.2.2.2.2
  subst hQ
  exact W.widen hz.1 hz.2 (vx_ret (W.zret C.1 C.2.1 (C.2.2.2.2.2.2.2.2.2.2.2.2.2.1.trans hr) (by cases b <;> rfl) (fun t ht hWm => ⟨⟨some (.int (bI b)), w, h, rfl, ho, hP, by rw [ht]; exact hW⟩, hS.F ht⟩) hS.2.2 hd C.2.2.2.2.2.1))
theorem v_lret (C : Cx X μ tab d zR o P) {x : Int64} (hd : decode μ.2.1 pc = .ok (.lreturn, 1)) (hr : μ.2.2.2.1 = some .long) (ho : o = .inl (some (.long x))) (hz : z.1 ≤ zR.1 ∧ z.2 ≤ zR.2) (hP : P w h) : V X z w h pc L [.long x] := by
  rcases X with ⟨p, l, e, R, s, m, args, below, meth, c, G, B, Q⟩
  intro H locs ls hW hS hl
  have hQ := C.2.2.2.2.2.2.2.2.2.2.2.2.2.2.2
  subst hQ
  exact W.widen hz.1 hz.2 (vx_ret (W.lret C.1 C.2.1 (C.2.2.2.2.2.2.2.2.2.2.2.2.2.1.trans hr) (fun t ht hWm => ⟨⟨some (.long x), w, h, rfl, ho, hP, by rw [ht]; exact hW⟩, hS.F ht⟩) hS.2.2 hd C.2.2.2.2.2.1))
theorem v_vret (C : Cx X μ tab d zR o P) (hd : decode μ.2.1 pc = .ok (.return_, 1)) (hr : μ.2.2.2.1 = none) (ho : o = .inl none) (hz : z.1 ≤ zR.1 ∧ z.2 ≤ zR.2) (hP : P w h) : V X z w h pc L [] := by
  rcases X with ⟨p, l, e, R, s, m, args, below, meth, c, G, B, Q⟩
  intro H locs ls hW hS hl
  have hQ := C.2.2.2.2.2.2.2.2.2.2.2.2.2.2.2
  subst hQ
  exact W.widen hz.1 hz.2 (vx_ret (W.vret C.1 C.2.1 (C.2.2.2.2.2.2.2.2.2.2.2.2.2.1.trans hr) (fun t ht hWm => ⟨⟨none, w, h, rfl, ho, hP, by rw [ht]; exact hW⟩, hS.F ht⟩) hS.2.2 hd C.2.2.2.2.2.1))
/-- the state behind a throw in this frame -/
def VT (X : CT) (z : Nat × Nat) (w : Wt) (h : Hp) (pc : Nat) (L : List (Option Value)) (st : List Value) (E : String) : Prop := match X with
  | (p, l, e, R, s, m, args, below, meth, c, G, B, Q) => ∀ (H : Heap) (locs : List Loc) (ls : Array Slot) (q : Addr) (ce : Cell), Wd G B w h H → va_S (AB B) s.heap H locs → Lc w.1 L ls → H[q]? = some ce → ce.vm = .none → s.vm.findClass E = some ce.cls → vx_W p l e R s m args below meth c H locs z.1 z.2 Q (F0 m pc ls (st.map (cv w.1))) q
/-- what a method must have to be called -/
def MK (μ : Mi) : Prop := Cond.code μ.1 μ.2.1 μ.2.2.1 μ.2.2.2.1 ∈ TSg ∧ Cond.initialized μ.1.cls ∈ TSg ∧ (μ.1.cls ≠ "java/lang/invoke/MethodHandle" ∧ μ.1.cls ≠ "java/lang/invoke/VarHandle") ∧ (parseMethodDescriptor μ.1.desc).map (fun d => d.parameters.length) = some μ.2.2.2.2 ∧ μ.2.2.1 ≤ 60
def MKv (μ : Mi) (ci : Nat) : Prop := Cond.instanceMethod μ.1 ∈ TSg ∧ Cond.selects μ.1.cls μ.1 μ.1 ∈ TSg ∧ ∃ T N, cls10[ci]? = some (μ.1.cls, T, N)
theorem preD_of {p : Program} {l : Launch} {e : Env} {R : Room} {s : State} {m : MethodId} {args : Array Value} {below : List Frame} {meth : Method} {c : Code} {G : GG} {B : Nat} {Q : State → Prop} (C : Cx (p, l, e, R, s, m, args, below, meth, c, G, B, Q) μ tab d zR o P) {H : Heap} {locs : List Loc} (hW : Wd G B w h H) (hS : va_S (AB B) s.heap H locs) {U : State} (hU : U.heap = H) (hWm : s.WarmedH U.vm) : PreD G B w h U := by
  obtain ⟨-, -, -, -, -, -, -, hK, hB, hSt, hEx, -⟩ := C
  refine ⟨by rw [hU]; exact hW, hK.moved hWm.alike, by rw [hU]; exact Nat.le_trans hB hS.1, ?_, hEx.warm hWm⟩
  rw [hU]
  exact ⟨vx_Zq.moved hWm.alike (hSt.1.kept hS.2.1), vx_Zq.moved hWm.alike (hSt.2.kept hS.2.1)⟩
theorem blindD (G : GG) (B : Nat) (as : List Value) (w : Wt) (h : Hp) : FrameBlind (va_Pc as (PreD G B w h)) := fun a U g mk q => by
  obtain ⟨q0, q1, q2, q3, q4, q5⟩ := q
  exact ⟨q0, q1, va_K.moved (u := U) (U := U.calling g mk a) (Vm.Alike.refl U.vm) q2, q3, ⟨vx_Zq.moved (u := U) (U := U.calling g mk a) (Vm.Alike.refl U.vm) q4.1, vx_Zq.moved (u := U) (U := U.calling g mk a) (Vm.Alike.refl U.vm) q4.2⟩, ExD.warm (s := U) (U := U.calling g mk a) (State.WarmedH.refl U) q5⟩
theorem tsg_code (μ' : Mi) (hM : MK μ') : GoodIn TSg (.code μ'.1 μ'.2.1 μ'.2.2.1 μ'.2.2.2.1 :: TSg) := tsg_in (fun _ h => h) (fun w hw => by
  rcases List.mem_cons.mp hw with h1 | h1
  · rw [h1]; exact hM.1
  · exact h1)
/-- behind a run of a callee -/
theorem v_after {p : Program} {l : Launch} {e : Env} {R : Room} {s : State} {m : MethodId} {args : Array Value} {below : List Frame} {meth : Method} {c : Code} {G : GG} {B : Nat} {Q : State → Prop} {H : Heap} {locs : List Loc} {ls : Array Slot} {z' : Nat × Nat} {as : Array Value} {o' : Oc} {P' : Hp → Prop} {g0 : List Value} (hS : va_S (AB B) s.heap H locs) (hl : Lc w.1 L ls)
    (hr : vx_Run p l e R s m args below meth c H locs z.1 z.2 z'.1 z'.2 (F0 m pc ls g0) (st.map (cv w.1)) (QcD G B o' (fun w' h' => w' = w ∧ P' h') as) (XcD G B o' (fun w' h' => w' = w ∧ P' h')) (AB B))
    (kr : ∀ v h', o' = .inl v → P' h' → (∀ ad : Nat → Nat, v.toList.map (cv ad) = v.toList) ∧ V (p, l, e, R, s, m, args, below, meth, c, G, B, Q) (z.1 + z'.1, z.2 + z'.2) w h' (pc + 3) L (v.toList ++ st)) (kt : ∀ E h', o' = .inr E → P' h' → VT (p, l, e, R, s, m, args, below, meth, c, G, B, Q) (z.1 + z'.1, z.2 + z'.2) w h' pc L st E) : W p l e R s m args below meth c H locs z.1 z.2 Q (F0 m pc ls g0) := by
  intro T hT Xs
  rcases hr T hT Xs with ⟨v, st₀, t, T', L1, h0, X', hL, e1, e2, ⟨⟨v', w', h', hv, ho, ⟨rfl, hP⟩, hWd⟩, hF⟩, stp⟩ | ⟨q, st₀, t, T', L1, E, ce, h0, X', hL, e1, e2, ⟨⟨w', h', ho, ⟨rfl, hP⟩, hWd⟩, hF⟩, hce, hcv, hcl, stp⟩
  · cases hv
    obtain ⟨k1, k2, k3⟩ := vx_keep h0 e1 hS (fun q _ h => h) (fun q h => h) hL hF
    obtain ⟨hn, hV⟩ := kr v h' ho hP
    have hV2 := hV T'.heap (locs ++ L1) ls (by rw [e1]; exact hWd) k3 hl
    rw [List.map_append, hn] at hV2
    obtain ⟨t2, a1, b1⟩ := hV2 T' rfl X'
    exact ⟨t2, stp t2 a1, b1⟩
  · obtain ⟨k1, k2, k3⟩ := vx_keep h0 e1 hS (fun q _ h => h) (fun q h => h) hL hF
    obtain ⟨t2, a1, b1⟩ := kt E h' ho hP T'.heap (locs ++ L1) ls q ce (by rw [e1]; exact hWd) k3 hl (by rw [e1]; exact hce) hcv hcl T' rfl X'
    exact ⟨t2, stp.trans a1, b1⟩
theorem cv_sum (ad : Nat → Nat) (st : List Value) : ((st.map (cv ad)).map fun v => v.category).sum = (st.map fun v => v.category).sum := by
  rw [List.map_map]
  congr 1
  refine List.map_congr_left fun v _ => cv_cat ad v
/-- a normal contract: the addresses stay -/
abbrev ConN (μ : Mi) (d : Nat) (z : Nat × Nat) (w : Wt) (as : List Value) (h : Hp) (o : Oc) (P : Hp → Prop) : Prop := Con μ d z w as h o (fun w' h' => w' = w ∧ P h')
theorem v_callV0 (C : Cx X μ tab d zR o P) {ix ci q d' : Nat} {μ' : Mi} {z' : Nat × Nat} {as : List Value} {fs : List Value} {o' : Oc} {P' : Hp → Prop} {stk : List Value} (hd : decode μ.2.1 pc = .ok (.invokevirtual ix, 3)) (hM : MK μ') (hMv : MKv μ' ci) (hml : Cond.methodLink μ.1.cls ix μ'.1 ∈ TSg) (hh : h q = .inr (ci, fs)) (hc : ConN μ' d' z' w (.ref q :: as) h o' P') (hs : stk = as.reverse ++ .ref q :: st) (hdd : Nat.blt d' d = true) (hn : as.length = μ'.2.2.2.2) (hz : Nat.ble (z.1 + z'.1) zR.1 = true ∧ Nat.ble (z.2 + z'.2) zR.2 = true) (hcat : Nat.ble (st.map fun v => v.category).sum 8 = true) (hLn : L.length = μ.2.2.1)
    (kr : ∀ v h', o' = .inl v → P' h' → (∀ ad : Nat → Nat, v.toList.map (cv ad) = v.toList) ∧ V X (z.1 + z'.1, z.2 + z'.2) w h' (pc + 3) L (v.toList ++ st)) (kt : ∀ E h', o' = .inr E → P' h' → VT X (z.1 + z'.1, z.2 + z'.2) w h' pc L st E) : V X z w h pc L stk := by
  rcases X with ⟨p, l, e, R, s, m, args, below, meth, c, G, B, Q⟩
  intro H locs ls hW hS hl
  obtain ⟨hin, hsel, T, N, hci⟩ := hMv
  have hdd : d' < d := by simpa using hdd
  have hq : q < w.2 := hW.lt (by rw [hh]; exact ob_nj hci)
  have he : (wl G w h)[q]? = some (w.1 q, .inr (ci, fs.map (cv w.1))) := by rw [wl_get G w h hq, hh]; rfl
  have hrec := va_recv C.2.2.2.2.2.2.2.1 hW.1 hci he
  obtain ⟨r1, r2, r3, r4⟩ := C.2.2.2.2.2.2.2.2.2.2.2.1
  obtain ⟨z1, z2⟩ := hz
  have hts := C.2.2.2.2.1
  refine v_after (st := st) hS hl (vx_runV (As := as.map (cv w.1)) (rest := st.map (cv w.1)) (C := μ'.1.cls) (bytes := μ'.2.1) (maxL := μ'.2.2.1) (ret := μ'.2.2.2.1) (n := μ'.2.2.2.2) ⟨C.1, C.2.1, C.2.2.1, C.2.2.2.1, hts⟩ (hc l G B C.2.2.2.2.2.2.1) ⟨callB_of _ hts (tsg_code μ' hM) rfl rfl rfl (hts _ hM.2.1) (hts _ hml) ⟨hM.2.2.1.1, hM.2.2.1.2, hM.2.2.2.1⟩ ⟨?_, ?_⟩, hts _ hin, hts _ hsel⟩ ⟨blindD G B _ w h, hrec, fun U hU hWm => ⟨rfl, preD_of C hW hS hU hWm⟩⟩ rfl (by rw [List.length_map]; exact hn) (hl.1.trans hLn) ?_ (lv_room (by rw [cv_sum]; exact Nat.le_of_ble_eq_true hcat)) hd ⟨?_, ?_⟩) kr kt
  · show 20 + d' + 1 ≤ R.frames
    omega
  · show 8 + (μ'.2.2.1 + 11) + (200 + 80 * d') ≤ R.locals
    have := hM.2.2.2.2
    omega
  · show stk.map (cv w.1) = _
    rw [hs]
    simp [cv]
  · exact Nat.le_trans (Nat.le_of_ble_eq_true z1) r3
  · exact Nat.le_trans (Nat.le_of_ble_eq_true z2) r4
theorem v_callS0 (C : Cx X μ tab d zR o P) {ix d' : Nat} {μ' : Mi} {z' : Nat × Nat} {as : List Value} {o' : Oc} {P' : Hp → Prop} {stk : List Value} (hd : decode μ.2.1 pc = .ok (.invokestatic ix, 3)) (hM : MK μ') (hMs : Cond.static μ'.1 ∈ TSg) (hml : Cond.methodLink μ.1.cls ix μ'.1 ∈ TSg) (hc : ConN μ' d' z' w as h o' P') (hs : stk = as.reverse ++ st) (hdd : Nat.blt d' d = true) (hn : as.length = μ'.2.2.2.2) (hz : Nat.ble (z.1 + z'.1) zR.1 = true ∧ Nat.ble (z.2 + z'.2) zR.2 = true) (hcat : Nat.ble (st.map fun v => v.category).sum 8 = true) (hLn : L.length = μ.2.2.1)
    (kr : ∀ v h', o' = .inl v → P' h' → (∀ ad : Nat → Nat, v.toList.map (cv ad) = v.toList) ∧ V X (z.1 + z'.1, z.2 + z'.2) w h' (pc + 3) L (v.toList ++ st)) (kt : ∀ E h', o' = .inr E → P' h' → VT X (z.1 + z'.1, z.2 + z'.2) w h' pc L st E) : V X z w h pc L stk := by
  rcases X with ⟨p, l, e, R, s, m, args, below, meth, c, G, B, Q⟩
  intro H locs ls hW hS hl
  have hdd : d' < d := by simpa using hdd
  obtain ⟨r1, r2, r3, r4⟩ := C.2.2.2.2.2.2.2.2.2.2.2.1
  obtain ⟨z1, z2⟩ := hz
  have hts := C.2.2.2.2.1
  refine v_after (st := st) hS hl (vx_runS (As := as.map (cv w.1)) (rest := st.map (cv w.1)) (bytes := μ'.2.1) (maxL := μ'.2.2.1) (ret := μ'.2.2.2.1) (n := μ'.2.2.2.2) ⟨C.1, C.2.1, C.2.2.1, C.2.2.2.1, hts⟩ (hc l G B C.2.2.2.2.2.2.1) ⟨callB_of _ hts (tsg_code μ' hM) rfl rfl rfl (hts _ hM.2.1) (hts _ hml) ⟨hM.2.2.1.1, hM.2.2.1.2, hM.2.2.2.1⟩ ⟨?_, ?_⟩, hts _ hMs⟩ ⟨blindD G B _ w h, fun U hU hWm => ⟨rfl, preD_of C hW hS hU hWm⟩⟩ rfl (by rw [List.length_map]; exact hn) (hl.1.trans hLn) ?_ (lv_room (by rw [cv_sum]; exact Nat.le_of_ble_eq_true hcat)) hd ⟨?_, ?_⟩) kr kt
  · show 20 + d' + 1 ≤ R.frames
    omega
  · show 8 + (μ'.2.2.1 + 11) + (200 + 80 * d') ≤ R.locals
    have := hM.2.2.2.2
    omega
  · show stk.map (cv w.1) = _
    rw [hs]
    simp
  · exact Nat.le_trans (Nat.le_of_ble_eq_true z1) r3
  · exact Nat.le_trans (Nat.le_of_ble_eq_true z2) r4
/-- a throw that no handler of this method takes -/
theorem vt_out (C : Cx X μ [] d zR o P) {E : String} (ho : o = .inr E) (hz : z.1 ≤ zR.1 ∧ z.2 ≤ zR.2) (hP : P w h) : VT X z w h pc L st E := by
  rcases X with ⟨p, l, e, R, s, m, args, below, meth, c, G, B, Q⟩
  intro H locs ls q ce hW hS hl hce hcv hcl
  have hQ := C.2.2.2.2.2.2.2.2.2.2.2.2.2.2.2
  subst hQ
  have ht := C.2.2.2.2.2.2.2.2.2.2.2.2.1
  exact vx_out (E := E) (by rw [ht]; exact fun x hx => by cases hx) C.2.2.2.2.2.1 hce hcv hcl (fun t ht hv => ⟨⟨w, h, ho, hP, by rw [ht]; exact hW⟩, hS.F ht⟩) hS.2.2 hz.1 hz.2
end VC
