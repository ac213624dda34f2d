/-! ===== the walk of 'new NoSuchElementException(text)' and its throw ===== -/
section NSE
variable {p : Program} {l : Launch} {e : Env} {R : Room} {s : State} {m : MethodId} {args : Array Value} {below : List Frame} {meth : Method} {c : Code} {U0 : State} {locs : List Loc} {cells slots : Nat}
set_option maxHeartbeats 1000000 in
theorem nse_walk (X : Stand p l e R s m args below meth c U0 locs cells slots) (hexec : p.tables.exec = Jvm.exec) (htr : e.platform.stackTraces = false) {own E : String} {ic : Nat}
    (hown : s.vm.findClass own = some m.cls) (hE : Bundle.fit E = true) (h : ∀ w ∈ nseA own ic E, w.before args s = true)
    (hlocs : ∀ x ∈ locs, ∀ y, s.heap[x.base]? = some y → y.vm.isStatics = false)
    {a : Addr} {cX : ClassId} {kX : Class} (hfX : s.vm.findClass E = some cX) (hkX : s.vm.classes[cX]? = some kX) (hcell : U0.heap[a]? = some (freshCell cX kX)) (hnew : s.heap.size ≤ a)
    {msg : Value} (hmsg : msg.isRef = true) {g : JFrame} (hg : g.method = m) (hsz : g.locals.size = c.maxLocals) (hlk : g.locked = none) (hen : g.entered = []) {rest : List Value} (hst : g.stack = msg :: .ref a :: .ref a :: rest)
    (d1 : decode c.code g.pc = .ok (.invokespecial ic, 3)) (d2 : decode c.code (g.pc + 3) = .ok (.athrow, 1)) (hout : ∀ x ∈ c.exceptionTable.toList, covers x (g.pc + 3) = false)
    (hF : 5 < R.frames) (hLo : 2 * g.monitorRoom + ((Value.ref a :: rest).map fun v => v.category).sum + 81 ≤ R.locals) (hlocks : meth.locks = false) :
    ∃ U : State, Steps p.tables e below (U0.setTop g) U ∧ U.status = .running ∧ Ended U below (.threw a) ∧ s.WarmedH U.vm ∧ s.sameButNew ({ U with vm := s.vm } : State) locs cells slots ∧ ∃ ce, U.heap[a]? = some ce ∧ ce.vm = .none ∧ s.vm.findClass E = some ce.cls := by
  have hpl : e.platform.magicAccessors = ({} : Platform).magicAccessors := by rw [X.admits.platform]
  -- the words, by what they are for
  have wAll : ∀ w, w ∈ nseA own ic E → w.holds args s none s [] = true := fun w hw => h w hw
  have wT : ∀ w, w ∈ Bundle.throwableAtoms → w ∈ nseA own ic E := fun w hw => by unfold nseA Bundle.ownAtomsX; simp [hw]
  have wS : ∀ w, w ∈ Bundle.throwableSAtoms → w ∈ nseA own ic E := fun w hw => by unfold nseA Bundle.ownAtomsX; simp [hw]
  have wC : ∀ w, w ∈ Bundle.chainSAtomsX E 13 nseB xnm → w ∈ nseA own ic E := fun w hw => by unfold nseA Bundle.ownAtomsX; simp [hw]
  obtain ⟨T, Z0, L, -, Y⟩ := ThrowableC.of_atoms (args := args) (pl := e.platform) (by rw [X.admits.platform]) (by rw [X.admits.platform]) hpl (fun w hw => h w (wT w hw))
  obtain ⟨Z, M, LZ, LM, hnZ⟩ := Init0T.ofS_atoms (args := args) hpl L Y (fun w hw => h w (wS w hw))
  obtain ⟨P, Ps, hPl, LP, LPs, hPm, hP1, hP2⟩ := Bundle.chainSX (args := args) hpl hnZ nseB_0 nseB_1 nseB_2 nseB_5 xnm E hE (by decide) (fun w hw => h w (wC w hw))
  have hPl2 : Ps.length = 2 := hPl
  -- the class of the new object is the constructor's
  have hcl : s.vm.findClass E = some P.m.cls := findClass_of_methodNamed hPm
  have hcE : cX = P.m.cls := Option.some.inj (hfX.symm.trans hcl)
  subst hcE
  -- words that are read one by one
  have q : ∀ w, w ∈ nseA own ic E → w.before args s = true := h
  have mI : Cond.instantiable E 6 ∈ nseA own ic E := by unfold nseA Bundle.ownAtomsX; simp
  have mK : Cond.methodLink own ic (Bundle.initS E) ∈ nseA own ic E := by unfold nseA Bundle.ownAtomsX; simp
  have mS0 : Cond.selects E Bundle.tFill0 Bundle.tFill0 ∈ nseA own ic E := by unfold nseA Bundle.ownAtomsX; simp
  have mS1 : Cond.selects E Bundle.tFill Bundle.tFill ∈ nseA own ic E := by unfold nseA Bundle.ownAtomsX; simp
  have mU : Cond.isRef (.static Bundle.tN "UNASSIGNED_STACK" Bundle.steD) ∈ nseA own ic E := by unfold nseA Bundle.ownAtomsX; simp
  have mN : Cond.isRef (.static Bundle.tN "SUPPRESSED_SENTINEL" Bundle.listD) ∈ nseA own ic E := by unfold nseA Bundle.ownAtomsX; simp
  have mLB : Cond.fieldLink Bundle.tN 198 Bundle.tN "backtrace" "Ljava/lang/Object;" ∈ nseA own ic E := by unfold nseA Bundle.ownAtomsX; simp
  have mTB : Cond.lays Bundle.tN Bundle.tN "backtrace" "Ljava/lang/Object;" ∈ nseA own ic E := by unfold nseA Bundle.ownAtomsX; simp
  have mC : ∀ n d, (n, d) ∈ [("cause", "Ljava/lang/Throwable;"), ("stackTrace", Bundle.steD), ("suppressedExceptions", Bundle.listD), ("detailMessage", "Ljava/lang/String;"), ("backtrace", "Ljava/lang/Object;")] → Cond.lays E Bundle.tN n d ∈ nseA own ic E := by
    intro n d hnd
    unfold nseA Bundle.ownAtomsX
    simp only [List.mem_cons, List.not_mem_nil, or_false, Prod.mk.injEq] at hnd
    rcases hnd with ⟨rfl, rfl⟩ | ⟨rfl, rfl⟩ | ⟨rfl, rfl⟩ | ⟨rfl, rfl⟩ | ⟨rfl, rfl⟩ <;> simp
  have mP : ∀ w, w ∈ Bundle.passSAtoms E "java/lang/RuntimeException" 13 nseB → w ∈ nseA own ic E := fun w hw => wC w (List.mem_append_left _ hw)
  have mPi : Cond.instanceMethod (Bundle.initS E) ∈ nseA own ic E := mP _ (by unfold Bundle.passSAtoms; simp)
  have mPc : Cond.code (Bundle.initS E) nseB 2 none ∈ nseA own ic E := mP _ (by unfold Bundle.passSAtoms; simp)
  obtain ⟨i1, k1, hi1, hk1, hord, -, -, -⟩ := Cond.instantiable_spec (wAll _ mI)
  obtain rfl : i1 = P.m.cls := Option.some.inj (hi1.symm.trans hcl)
  obtain rfl : k1 = kX := Option.some.inj (hk1.symm.trans hkX)
  -- the two methods that Throwable's constructor asks for are Throwable's own
  have sel : ∀ t M0, Cond.selects E t t ∈ nseA own ic E → s.methodNamed? t = some M0 → s.methodFound? t.cls t.name t.desc = some M0 → selectMethod e.platform s.vm P.m.cls M0 = .method M0 := by
    intro t M0 hm hn hf
    obtain ⟨c2, r2, m2, z1, z2, z3, z4, -⟩ := Cond.selects_spec (wAll _ hm)
    obtain rfl : c2 = P.m.cls := Option.some.inj (z1.symm.trans hcl)
    obtain rfl : r2 = M0 := Option.some.inj (z2.symm.trans hf)
    obtain rfl : m2 = r2 := Option.some.inj (z3.symm.trans hn)
    rw [Launch.admits_selectMethod X.admits]
    exact z4
  have sel0 := sel _ _ mS0 Y.fill0 (State.methodFound?_of_named Y.fill0 (by decide))
  have sel1 := sel _ _ mS1 Y.fill (State.methodFound?_of_named Y.fill (by decide))
  -- Throwable's statics: where they were, as they were
  obtain ⟨y0, hy0, hyS⟩ := Y.statics
  obtain ⟨u0, hu0⟩ := Cond.staticRefV Y.unassigned L.unassignedStatic L.statics hy0 hyS (wAll _ mU)
  obtain ⟨sen, hsen⟩ := Cond.staticRefV Y.sentinel L.sentinelStatic L.statics hy0 hyS (wAll _ mN)
  obtain ⟨y1, hy1, hye, -, hyk⟩ := X.same.2.2.2.2.2 T.aS y0 hy0
  have hfree : ∀ i, (⟨T.aS, i⟩ : Loc) ∉ locs := fun i hi => by
    have := hlocs _ hi y0 hy0
    rw [hyS] at this
    cases this
  have hyn : y1.vm ≠ .unknown := by
    rw [hye]
    intro z
    rw [show y0.vm = .unknown from z] at hyS
    cases hyS
  have hya : T.aS ≠ a := Nat.ne_of_lt (Nat.lt_of_lt_of_le (Array.getElem?_eq_some_iff.mp hy0).1 hnew)
  -- the fields that the constructor writes, and the one that it reads: laid in E, apart
  obtain ⟨iM, hfM⟩ := Y.msg
  obtain ⟨b1, b2, fB, hB1, hB2, hB3, hB4, -, hBn, hBt, hBf⟩ := Cond.ownField (t := .object "java/lang/Object") Y.found L.cls (by decide +kernel) (wAll _ mLB) (wAll _ mTB) e.platform hpl
  obtain ⟨tC, dC, eC, nC⟩ := Cond.laysAt hcl hkX Y.cause (wAll _ (mC _ _ (by simp)))
  obtain ⟨tS, dS, eS, nS⟩ := Cond.laysAt hcl hkX Y.stack (wAll _ (mC _ _ (by simp)))
  obtain ⟨tP, dP, eP, nP⟩ := Cond.laysAt hcl hkX Y.supp (wAll _ (mC _ _ (by simp)))
  obtain ⟨tM, dM, eM, nM⟩ := Cond.laysAt hcl hkX hfM (wAll _ (mC _ _ (by simp)))
  obtain ⟨tB, dB, eB, nB⟩ := Cond.laysAt hcl hkX hBf (wAll _ (mC _ _ (by simp)))
  have xC := Cond.laysApart eB eC nB nC (by rw [hBn, Y.causeName]; decide)
  have xS := Cond.laysApart eB eS nB nS (by rw [hBn, Y.stackName]; decide)
  have xP := Cond.laysApart eB eP nB nP (by rw [hBn, Y.suppName]; decide)
  have hback : ((preparedCellV T.toThrowableT (freshCell P.m.cls k1) a u0 sen).withEntry U0.cur).slots[fB.slot]? = some .null := by
    have z := fresh_default (c := P.m.cls) tB
    rw [hBt] at z
    have z2 : (freshCell P.m.cls k1).slots[fB.slot]? = some .null := z
    simp [preparedCellV, Cell.setSlot, Cell.withEntry, Array.getElem?_setIfInBounds, xC, xS, xP, xC.symm, xS.symm, xP.symm, z2]
  have hskip : SkipFacts T e.platform s (fun u => u) u0 ((preparedCellV T.toThrowableT (freshCell P.m.cls k1) a u0 sen).withEntry U0.cur) :=
    ⟨{ ci198 := b1, i198 := b2, fBack := fB }, ⟨hB1, hB2, hB3, hB4⟩, hback, fun _ _ => rfl⟩
  -- into the constructor, through it, and the throw
  obtain ⟨tm, mt, cd, kk, vm1, hn1, -, -, -, -, -, -, -, hw1, st1⟩ := Steps.initColdS (tb := p.tables) (e := e) (below := below) (s := s) (U := U0) X.here hexec X.warmed hpl hown (t := Bundle.initS E) rfl rfl (Bundle.fit_spec hE).2 (q _ mK) (q _ mPi) (q _ mPc) (f := g) hg (a := a) (msg := msg) (rest := .ref a :: rest) hst d1
  obtain rfl : tm = P.m := Option.some.inj (hn1.symm.trans hPm)
  obtain ⟨vm2, X2, st2⟩ := (X.noted hw1).ctorMessageOffV hexec (g := { g with stack := .ref a :: rest }) hg hsz T L Z LZ M LM (P :: Ps)
    (fun R hR => (List.mem_cons.mp hR).elim (fun z => z ▸ LP) (LPs R)) ⟨hP1, hP2⟩ (u0 := u0) (sen := sen) (self := a) hmsg (cell := freshCell P.m.cls k1) (cellS := y1)
    hcell (fun _ => by simp) (by simp) rfl rfl sel0 sel1 hy1 hya hyn (by rw [hyk _ (hfree _)]; exact hu0) (by rw [hyk _ (hfree _)]; exact hsen)
    (Takes.of_laid hkX hord tC (by rw [Y.causeType]; rfl)) (Takes.of_laid hkX hord tS (by rw [Y.stackType]; exact fits_refV_array _ u0)) (Takes.of_laid hkX hord tP (by rw [Y.suppType]; exact fits_refV_object _ sen))
    (Takes.of_laid hkX hord tM (by rw [Y.msgType]; exact fits_refV_object _ ⟨msg, hmsg⟩)) Y.objLocals hskip htr [] d1
    (by rw [List.length_cons, hPl2]; omega) (by rw [List.length_cons, hPl2]; exact hLo)
  obtain ⟨w1, w2, w3, w4, w5⟩ := X2.athrowLeaves hexec (g := { g with stack := .ref a :: rest, pc := g.pc + 3 }) hg hlk hen hout (a := a) (rest := rest) rfl d2
  have hal : a < ((U0.setVm vm1).setVm vm2).heap.size := (Array.getElem?_eq_some_iff.mp hcell).1
  refine ⟨_, st1 _ (fun acts => ?_), w2, w3, w4, w5.weaken (fun y hy hlt => ?_) (Nat.le_refl _) (Nat.le_refl _), _, heapAt_setCell_self _ hal, rfl, hcl⟩
  · rw [doInvoke_state]
    exact st2 _ w1
  · rcases List.mem_append.mp hy with z | z
    · exact z
    · have hb : y.base = a := by
        simp only [List.mem_cons, List.not_mem_nil, or_false] at z
        rcases z with z | z | z | z | z <;> rw [z]
      rw [hb] at hlt
      exact absurd hlt (Nat.not_lt.mpr hnew)
end NSE
