/-! ===== constructors: calls, rows of rows ===== -/
section VXIA
variable {p : Program} {l : Launch} {e : Env} {R : Room} {s : State} {m : MethodId} {args : Array Value} {below : List Frame} {meth : Method} {c : Code} {T : State} {locs : List Loc} {cells slots : Nat}
theorem vx_callI (X : Stand p l e R s m args below meth c T locs cells slots) (hexec : p.tables.exec = Jvm.exec) {own : String} {index : Nat} {y : MethodName} {bytes : ByteArray} {maxL : Nat}
    (hown : s.vm.findClass own = some m.cls) (hy1 : y.name = "<init>") (hlink : (Cond.methodLink own index y).before args s = true) (hinst : (Cond.instanceMethod y).before args s = true)
    (hcode : (Cond.code y bytes maxL none).before args s = true) (hy : y.cls ≠ "java/lang/invoke/MethodHandle" ∧ y.cls ≠ "java/lang/invoke/VarHandle")
    {W9 : Nat} {Pre : Pt → Array Value → Prop} {Post : Pt → Array Value → Option Value → Pt → Prop} {PostX : Pt → Array Value → Addr → Pt → Prop} (hK : vx_Back l R p e below s args y 3 W9 Pre Post PostX)
    {g : JFrame} (hg : g.method = m) (hsize : g.locals.size = c.maxLocals) {a : Addr} {argsL rest : List Value} (hlen : ∀ sig, parseMethodDescriptor y.desc = some sig → argsL.length = sig.parameters.length)
    (hstack : g.stack = argsL.reverse ++ .ref a :: rest) (hW : 2 * g.monitorRoom + (rest.map fun v => v.category).sum ≤ W9) (hdg : decode c.code g.pc = .ok (.invokespecial index, 3))
    (hpre : ∀ vm₁, s.WarmedH vm₁ → Pre ⟨T.setVm vm₁, locs, cells, slots⟩ (Value.ref a :: argsL).toArray) :
    (∃ (v : Option Value) (vm₁ : Vm) (B : Pt), s.WarmedH vm₁ ∧ Stand p l e R s m args below meth c B.U B.locs B.cells B.slots ∧ Post ⟨T.setVm vm₁, locs, cells, slots⟩ (Value.ref a :: argsL).toArray v B ∧
      ∀ target, Steps p.tables e below (B.U.setTop { g with pc := g.pc + 3, stack := v.toList ++ rest }) target → Steps p.tables e below (T.setTop g) target) ∨
    (∃ (q : Addr) (vm₁ : Vm) (B : Pt), s.WarmedH vm₁ ∧ Stand p l e R s m args below meth c B.U B.locs B.cells B.slots ∧ PostX ⟨T.setVm vm₁, locs, cells, slots⟩ (Value.ref a :: argsL).toArray q B ∧
      Steps p.tables e below (T.setTop g) ((B.U.setTop { g with stack := rest }).pushFrame (.throwing q))) := by
  subst hg
  have hpl : e.platform.magicAccessors = ({} : Platform).magicAccessors := by rw [X.admits.platform]
  obtain ⟨mk, methM, cM, kP, vm₁, hnamed, hmethM, hcodeM, -, hlocalsM, -, hkP, -, hW₁, hstep₁⟩ := Steps.initColdArgs (e := e) X.here hexec X.warmed hpl hown hy1 hy hlink hinst hcode (f := g) rfl hlen hstack hdg
  have X₁ := X.noted hW₁
  rcases hK g.method meth c ⟨T.setVm vm₁, locs, cells, slots⟩ { g with stack := rest } (.invokespecial index) mk (Value.ref a :: argsL).toArray X₁ rfl hsize hdg hW (X₁.named hnamed) (hpre vm₁ X₁.warmed) with ⟨v, B, X', hpost, hsteps⟩ | ⟨q, B, X', hpost, hsteps⟩
  · exact Or.inl ⟨v, vm₁, B, X₁.warmed, X', hpost, fun target h => hstep₁ _ fun acts => by rw [doInvoke_state]; exact hsteps.trans h⟩
  · exact Or.inr ⟨q, vm₁, B, X₁.warmed, X', hpost, hstep₁ _ fun acts => by rw [doInvoke_state]; exact hsteps⟩
end VXIA
section VXIB
variable {p : Program} {l : Launch} {e : Env} {R : Room} {s : State} {m : MethodId} {args : Array Value} {below : List Frame} {meth : Method} {c : Code} {H : Heap} {locs : List Loc} {cells slots : Nat}
variable {y : MethodName} {bytes cc : ByteArray} {maxL nL mc ms n index : Nat} {ret : Option FieldType} {ws : List Cond} {rm : Room} {Pc : Array Value → State → Prop} {Qc : Array Value → State → Outcome → State → Prop} {XC : String → State → State → Prop} {free : Addr → Prop} {Ts : List Cond} {own C : String} {b : Addr} {As rest : List Value} {g : JFrame}
theorem vx_runI (S : CallFix p m c cc nL s args Ts own) (hM : vx_Met l y ws rm Pc Qc XC mc ms free) (cw : CallB R s args own index y bytes maxL none ws rm mc ms n ∧ y.name = "<init>" ∧ (Cond.instanceMethod y).before args s = true) (hp : PreS s H Pc (.ref b :: As))
    (hg : g.method = m) (hn : As.length = n) (hsize : g.locals.size = nL) (hstack : g.stack = As.reverse ++ .ref b :: rest) (hW : 2 * g.monitorRoom + (rest.map fun v => v.category).sum ≤ 8) (hdg : decode cc g.pc = .ok (.invokespecial index, 3)) (hf : cells + mc ≤ R.cells ∧ slots + ms ≤ R.slots) :
    vx_Run p l e R s m args below meth c H locs cells slots mc ms g rest (Qc (Value.ref b :: As).toArray) XC free := by
  have hK : vx_Back l R p e below s args y 3 8 (PreOf R mc ms Pc) (PostOf Qc mc ms free) (vx_Post XC mc ms free) := vx_callBack cw.1 hM hp.1
  obtain ⟨⟨-, -, -, -, -, -, hcode, -, hy, hlen, hl⟩, hy1, hin⟩ := cw
  obtain ⟨hx, hb, hml, ho, -⟩ := S
  have hPc := hp.2
  intro T hT X
  rcases vx_callI X hx (bytes := bytes) (maxL := maxL) ho hy1 hl hin hcode hy hK hg (hsize.trans hml.symm) (a := b) (argsL := As) (rest := rest) (fun sig h => hn.trans (hlen sig h)) hstack hW (by rw [hb]; exact hdg)
    (fun vm₁ hW₁ => ⟨hf.1, hf.2, hPc (T.setVm vm₁) hT hW₁⟩) with ⟨v, vm₁, ⟨U', l2, c2, s2⟩, hW₁, X', ⟨g', mk, t, L, e1, e2, hq, h1, hL, h2, h3⟩, st⟩ | ⟨q, vm₁, ⟨U', l2, c2, s2⟩, hW₁, X', ⟨g', mk, t, L, E, ce, e1, e2, hq, hce, hcv, hcl, h1, hL, h2, h3⟩, st⟩
  · dsimp only [Pt.U, Pt.locs, Pt.cells, Pt.slots] at X' e1 e2 h1 h2 h3 st
    subst h1; subst h2; subst h3
    exact Or.inl ⟨v, (T.setVm vm₁).calling g' mk (Value.ref b :: As).toArray, t, U', L, hT, X', hL, e1, e2, hq, st⟩
  · dsimp only [Pt.U, Pt.locs, Pt.cells, Pt.slots] at X' e1 e2 h1 h2 h3 st hcl
    subst h1; subst h2; subst h3
    exact Or.inr ⟨q, (T.setVm vm₁).calling g' mk (Value.ref b :: As).toArray, t, U', L, E, ce, hT, X', hL, e1, e2, hq, hce, hcv, vx_cls hW₁ hcl, st⟩
end VXIB
/-! ===== END ===== -/
/-- the world has grown by n cells -/
def WX (w w' : Wt) (n : Nat) : Prop := w'.2 = w.2 + n ∧ ∀ i, (i < w.2 ∨ w.2 + n ≤ i) → w'.1 i = w.1 i
theorem WX.z (w : Wt) : WX w w 0 := ⟨rfl, fun _ _ => rfl⟩
theorem WX.tr {w w1 w2 : Wt} {n m : Nat} (h1 : WX w w1 n) (h2 : WX w1 w2 m) : WX w w2 (n + m) := ⟨by rw [h2.1, h1.1, Nat.add_assoc], fun i hi => by
  have := h1.1
  rw [h2.2 i (by omega), h1.2 i (by omega)]⟩
theorem wx_WX (w : Wt) (a : Nat) : WX w (wx w a) 1 := ⟨rfl, fun i hi => if_neg (by omega)⟩
def nrn (N n : Nat) : Value → Prop
  | .ref a => a < N ∨ N + n ≤ a
  | _ => True
theorem cv_WX {w w' : Wt} {n : Nat} (hw : WX w w' n) {v : Value} (h : nrn w.2 n v) : cv w'.1 v = cv w.1 v := by
  cases v <;> first | rfl | (show Value.ref _ = Value.ref _; exact congrArg Value.ref (hw.2 _ h))
theorem Lc.WX {w w' : Wt} {n : Nat} (hw : WX w w' n) {L : List (Option Value)} {ls : Array Slot} (h : Lc w.1 L ls) (hL : ∀ v, some v ∈ L → nrn w.2 n v) : Lc w'.1 L ls := ⟨h.1, h.2.1, fun i v hi => by rw [cv_WX hw (hL v (List.mem_of_getElem? hi))]; exact h.2.2 i v hi⟩
theorem st_WX {w w' : Wt} {n : Nat} (hw : WX w w' n) {st : List Value} (h : ∀ v ∈ st, nrn w.2 n v) : st.map (cv w'.1) = st.map (cv w.1) := List.map_congr_left (fun v hv => cv_WX hw (h v hv))
section VI
variable {X : CT} {μ : Mi} {tab : List ExceptionTableEntry} {d : Nat} {zR : Nat × Nat} {o : Oc} {P : Wt → Hp → Prop} {z : Nat × Nat} {w : Wt} {h : Hp} {pc : Nat} {L : List (Option Value)} {st : List Value}
theorem v_callI (C : Cx X μ tab d zR o P) {ix q d' n : Nat} {μ' : Mi} {z' : Nat × Nat} {P' : Hp → Prop} (hd : decode μ.2.1 pc = .ok (.invokespecial ix, 3)) (hM : MK μ') (hMi : μ'.1.name = "<init>" ∧ Cond.instanceMethod μ'.1 ∈ TSg ∧ μ'.2.2.2.1 = none ∧ μ'.2.2.2.2 = 0) (hml : Cond.methodLink μ.1.cls ix μ'.1 ∈ TSg) (hc : Con μ' d' z' w [.ref q] h (.inl none) (fun w' h' => WX w w' n ∧ P' h')) (hdd : Nat.blt d' d = true) (hz : z.1 + z'.1 ≤ zR.1 ∧ z.2 + z'.2 ≤ zR.2) (hcat : Nat.ble (st.map fun v => v.category).sum 8 = true) (hLn : L.length = μ.2.2.1) (hL : ∀ v, some v ∈ L → nrn w.2 n v) (hst : ∀ v ∈ st, nrn w.2 n v)
    (k : ∀ w' h', WX w w' n → P' h' → V X (z.1 + z'.1, z.2 + z'.2) w' h' (pc + 3) L st) : V X z w h pc L (.ref q :: st) := by
  rcases X with ⟨p, l, e, R, s, m, args, below, meth, c, G, B, Q⟩
  intro H locs ls hW hS hl
  have hdd : d' < d := by simpa using hdd
  obtain ⟨r1, r2, r3, r4⟩ := C.2.2.2.2.2.2.2.2.2.2.2.1
  obtain ⟨z1, z2⟩ := hz
  obtain ⟨i1, i2, i3, i4⟩ := hMi
  have hts := C.2.2.2.2.1
  have hM1 := hM.2.2.2.2
  have hcc := hc l G B C.2.2.2.2.2.2.1
  have tc := tsg_code μ' hM
  rw [i3] at hcc tc
  have hpar := hM.2.2.2.1
  have hr := vx_runI (p := p) (e := e) (R := R) (m := m) (below := below) (meth := meth) (c := c) (H := H) (locs := locs) (cells := z.1) (slots := z.2) (As := []) (rest := st.map (cv w.1)) (b := w.1 q) (g := F0 m pc ls ((Value.ref q :: st).map (cv w.1))) (bytes := μ'.2.1) (maxL := μ'.2.2.1) (n := 0) (index := ix) (own := μ.1.cls) (Ts := TSg) (cc := μ.2.1) (nL := μ.2.2.1) (ws := .code μ'.1 μ'.2.1 μ'.2.2.1 none :: TSg) (rm := rmD d' z') (mc := z'.1) (ms := z'.2) ⟨C.1, C.2.1, C.2.2.1, C.2.2.2.1, hts⟩ hcc ⟨callB_of _ hts tc rfl rfl rfl (hts _ hM.2.1) (hts _ hml) ⟨hM.2.2.1.1, hM.2.2.1.2, by rw [hpar, i4]⟩ ⟨by show 20 + d' + 1 ≤ R.frames; omega, by show 8 + (μ'.2.2.1 + 11) + (200 + 80 * d') ≤ R.locals; omega⟩, i1, hts _ i2⟩ ⟨blindD G B _ w h, fun U hU hWm => ⟨rfl, preD_of C hW hS hU hWm⟩⟩ rfl rfl (hl.1.trans hLn) rfl (lv_room (by rw [cv_sum]; exact Nat.le_of_ble_eq_true hcat)) hd ⟨by omega, by omega⟩
  intro T hT Xs
  rcases hr T hT Xs with ⟨v, st₀, t, T', L1, h0, X', hL', e1, e2, ⟨⟨v', w', h', hv, ho, ⟨hwx, hP⟩, hWd⟩, hF⟩, stp⟩ | ⟨q', st₀, t, T', L1, E, ce, h0, X', hL', e1, e2, ⟨⟨w', h', ho, -, -⟩, -⟩, -⟩
  · cases hv
    cases ho
    obtain ⟨k1, k2, k3⟩ := vx_keep h0 e1 hS (fun q _ h => h) (fun q h => h) hL' hF
    have hV2 := k w' h' hwx hP T'.heap (locs ++ L1) ls (by rw [e1]; exact hWd) k3 (hl.WX hwx hL)
    rw [st_WX hwx hst] at hV2
    obtain ⟨t2, a1, b1⟩ := hV2 T' rfl X'
    exact ⟨t2, stp t2 a1, b1⟩
  · cases ho
theorem v_mkI {H0 : Hp} {q N n ix ci kf : Nat} {fs : List Value} (C : Cx X μ tab d zR o P) (hd1 : decode μ.2.1 pc = .ok (.newarray .int, 2)) (hd2 : decode μ.2.1 (pc + 2) = .ok (.putfield ix, 3)) (hF : FLk μ.1.cls ix ci kf) (hT : FPt ci kf (.array .int) true) (hin : μ.1.name = "<init>") (hdecl : ∀ C1 T N, cls10[ci]? = some (C1, T, N) → (T kf).1 = μ.1.cls) (hN : w.2 = N) (hq : q < N) (hn : n ≤ 7000) (hz : z.1 + 1 ≤ zR.1 ∧ z.2 + n ≤ zR.2) (hl : Nat.blt kf fs.length = true) (k : ∀ w', WX w w' 1 → V X (z.1 + 1, z.2 + n) w' (hu (hu H0 N (io n (fun _ => 0))) q (.inr (ci, fs.set kf (.ref N)))) (pc + 2 + 3) [some (.ref q)] []) : V X z w (hu H0 q (.inr (ci, fs))) pc [some (.ref q)] [.int (nI n), .ref q] := by
  subst hN
  refine v_newaI C hd1 hn hz (fun v hv => ?_) (fun v hv => ?_) (fun a => ?_)
  · simp at hv; subst hv; exact Nat.ne_of_lt hq
  · simp at hv; subst hv; exact Nat.ne_of_lt hq
  · rw [hu_c _ _ _ (Nat.ne_of_lt hq)]
    refine v_putF C hd2 hF hT hin hdecl (hu_s _ _ _) (fun _ => rfl) (fun _ => rfl) (Nat.lt_succ_self _) hl ?_
    rw [hu_hu]
    exact k _ (wx_WX w a)
theorem v_mkZ {H0 : Hp} {q N n ix ci kf : Nat} {fs : List Value} (C : Cx X μ tab d zR o P) (hd1 : decode μ.2.1 pc = .ok (.newarray .boolean, 2)) (hd2 : decode μ.2.1 (pc + 2) = .ok (.putfield ix, 3)) (hF : FLk μ.1.cls ix ci kf) (hT : FPt ci kf (.array .boolean) true) (hin : μ.1.name = "<init>") (hdecl : ∀ C1 T N, cls10[ci]? = some (C1, T, N) → (T kf).1 = μ.1.cls) (hN : w.2 = N) (hq : q < N) (hn : n ≤ 7000) (hz : z.1 + 1 ≤ zR.1 ∧ z.2 + n ≤ zR.2) (hl : Nat.blt kf fs.length = true) (k : ∀ w', WX w w' 1 → V X (z.1 + 1, z.2 + n) w' (hu (hu H0 N (zo n (fun _ => 0))) q (.inr (ci, fs.set kf (.ref N)))) (pc + 2 + 3) [some (.ref q)] []) : V X z w (hu H0 q (.inr (ci, fs))) pc [some (.ref q)] [.int (nI n), .ref q] := by
  subst hN
  refine v_newaZ C hd1 hn hz (fun v hv => ?_) (fun v hv => ?_) (fun a => ?_)
  · simp at hv; subst hv; exact Nat.ne_of_lt hq
  · simp at hv; subst hv; exact Nat.ne_of_lt hq
  · rw [hu_c _ _ _ (Nat.ne_of_lt hq)]
    refine v_putF C hd2 hF hT hin hdecl (hu_s _ _ _) (fun _ => rfl) (fun _ => rfl) (Nat.lt_succ_self _) hl ?_
    rw [hu_hu]
    exact k _ (wx_WX w a)
theorem v_mkJ {H0 : Hp} {q N n ix ci kf : Nat} {fs : List Value} (C : Cx X μ tab d zR o P) (hd1 : decode μ.2.1 pc = .ok (.newarray .long, 2)) (hd2 : decode μ.2.1 (pc + 2) = .ok (.putfield ix, 3)) (hF : FLk μ.1.cls ix ci kf) (hT : FPt ci kf (.array .long) true) (hin : μ.1.name = "<init>") (hdecl : ∀ C1 T N, cls10[ci]? = some (C1, T, N) → (T kf).1 = μ.1.cls) (hN : w.2 = N) (hq : q < N) (hn : n ≤ 7000) (hz : z.1 + 1 ≤ zR.1 ∧ z.2 + n ≤ zR.2) (hl : Nat.blt kf fs.length = true) (k : ∀ w', WX w w' 1 → V X (z.1 + 1, z.2 + n) w' (hu (hu H0 N (jo n (fun _ => 0))) q (.inr (ci, fs.set kf (.ref N)))) (pc + 2 + 3) [some (.ref q)] []) : V X z w (hu H0 q (.inr (ci, fs))) pc [some (.ref q)] [.int (nI n), .ref q] := by
  subst hN
  refine v_newaJ C hd1 hn hz (fun v hv => ?_) (fun v hv => ?_) (fun a => ?_)
  · simp at hv; subst hv; exact Nat.ne_of_lt hq
  · simp at hv; subst hv; exact Nat.ne_of_lt hq
  · rw [hu_c _ _ _ (Nat.ne_of_lt hq)]
    refine v_putF C hd2 hF hT hin hdecl (hu_s _ _ _) (fun _ => rfl) (fun _ => rfl) (Nat.lt_succ_self _) hl ?_
    rw [hu_hu]
    exact k _ (wx_WX w a)
end VI
/-- cells laid one behind another -/
def mkL (H : Hp) (N : Nat) : List PE → Hp
  | [] => H
  | c :: cs => mkL (hu H N c) (N + 1) cs
theorem mkL_lo : ∀ (cs : List PE) (H : Hp) (N j : Nat), (j < N ∨ N + cs.length ≤ j) → mkL H N cs j = H j
  | [], H, N, j, _ => rfl
  | c :: cs, H, N, j, h => by
    rw [List.length_cons] at h
    rw [mkL, mkL_lo cs _ _ _ (by omega), hu_n _ _ (by omega)]
theorem mkL_at : ∀ (cs : List PE) (H : Hp) (N i : Nat) (c : PE), cs[i]? = some c → mkL H N cs (N + i) = c
  | [], H, N, i, c, h => by simp at h
  | c0 :: cs, H, N, 0, c, h => by
    rw [mkL, mkL_lo cs _ _ _ (by omega)]
    simp at h
    rw [Nat.add_zero, hu_s, h]
  | c0 :: cs, H, N, i + 1, c, h => by
    rw [mkL, show N + (i + 1) = N + 1 + i by omega]
    exact mkL_at cs _ _ i c (by simpa using h)
