section
/-! ===== BEGIN words of one list among another's, by their places ===== -/
theorem goodIn_r {big : List Cond} (ws : List Cond) (ps : List Nat) (hp : ws = ps.filterMap (fun i => big[i]?)) (h : ws.all goodWord = true) : GoodIn big ws := by
  intro w hw
  have h1 := List.all_eq_true.mp h w hw
  rw [hp] at hw
  obtain ⟨i, -, hi⟩ := List.mem_filterMap.mp hw
  have hm : w ∈ big := by first | exact List.mem_of_getElem? hi | exact List.getElem?_mem hi
  exact ⟨hm, good_of_word h1⟩
theorem goodIn_app {big a b : List Cond} (ha : GoodIn big a) (hb : GoodIn big b) : GoodIn big (a ++ b) := fun w h => (List.mem_append.mp h).elim (ha w) (hb w)
theorem goodIn_ca {big a b : List Cond} {c : Cond} (ha : GoodIn big (c :: a)) (hb : GoodIn big b) : GoodIn big (c :: (a ++ b)) := fun w h => (List.mem_cons.mp h).elim (fun e => ha w (List.mem_cons.mpr (Or.inl e))) (fun h => (List.mem_append.mp h).elim (fun h => ha w (List.mem_cons.mpr (Or.inr h))) (hb w))
theorem goodIn_sub {big ws : List Cond} (hm : ∀ w ∈ ws, w ∈ big) (h : ws.all goodWord = true) : GoodIn big ws := fun w hw => ⟨hm w hw, good_of_word (List.all_eq_true.mp h w hw)⟩
/-! ===== END ===== -/

/-! ===== BEGIN new T[n][m]: the outer array a place, the inner ones among the pooled ===== -/
/-- f, but v at every address of l -/
def vr_up {α : Type} (f : Nat → α) (l : List Nat) (v : α) : Nat → α := fun a => if a ∈ l then v else f a
theorem vr_up_in {α : Type} {f : Nat → α} {l : List Nat} {v : α} {a : Nat} (h : a ∈ l) : vr_up f l v a = v := if_pos h
theorem vr_up_ne {α : Type} {f : Nat → α} {l : List Nat} {v : α} {a : Nat} (h : a ∉ l) : vr_up f l v a = f a := if_neg h
theorem vr_rows {L l : List Nat} {f : Nat → va_E} {e : va_E} (h : ∀ a, a ∈ l → a ∉ L) : va_pl L f ++ l.map (fun a => (a, e)) = va_pl (L ++ l) (vr_up f l e) := by
  unfold va_pl
  rw [List.map_append]
  congr 1
  · apply List.map_congr_left
    intro a ha
    rw [vr_up_ne (fun q => h a q ha)]
  · apply List.map_congr_left
    intro a ha
    rw [vr_up_in ha]
theorem vr_lay {X rows : va_W} {x : Nat × va_E} {pl : va_W} {D : va_G} {cl : List vw_C} {H : Heap} (hP : va_P D cl (((X ++ pl) ++ [x]) ++ rows) H) : va_P D cl ((X ++ [x]) ++ (pl ++ rows)) H := by
  rw [List.append_assoc (X ++ pl)] at hP
  have h := va_P.swap hP
  rw [← List.append_assoc X] at h
  have h2 := va_P.swap h
  rw [List.append_assoc (X ++ [x])] at h2
  exact h2
theorem vr_layD {X rows : va_W} {x : Nat × va_E} {pl : va_W} {A : Nat → Prop} (hD : va_D A (((X ++ pl) ++ [x]) ++ rows)) : va_D A ((X ++ [x]) ++ (pl ++ rows)) := by
  rw [List.append_assoc (X ++ pl)] at hD
  have h := va_D.swap hD
  rw [← List.append_assoc X] at h
  have h2 := va_D.swap h
  rw [List.append_assoc (X ++ [x])] at h2
  exact h2
theorem vr_outer (c : ClassId) (N h0 : Nat) : ∀ i : Nat, Jvm.Free.Multi.outerC c N h0 i = arrV c N (fun j => va_rf (if j < i then some (h0 + 1 + j) else none))
  | 0 => by
    show ({ cls := c, slots := Array.replicate N .null, vm := .none } : Cell) = _
    rw [arrV_new]
    refine congrArg (arrV c N) (funext fun j => ?_)
    simp [va_rf]
  | i + 1 => by
    show (Jvm.Free.Multi.outerC c N h0 i).setSlot i (.ref (h0 + 1 + i)) = _
    rw [vr_outer c N h0 i, arrV_store]
    refine congrArg (arrV c N) (funext fun j => ?_)
    by_cases e : j = i
    · subst e
      simp [updV, va_rf]
    · by_cases h : j < i
      · simp [updV, e, h, Nat.lt_succ_of_lt h]
      · simp [updV, e, h, show ¬ j < i + 1 by omega]
def va_AOA (ty : FieldType) (U : State) : Prop := (Cond.arrayOver (.array ty)).before #[] U = true
theorem va_AOA.use {ty : FieldType} {A : Array Value} {U : State} (h : va_AOA ty U) : (Cond.arrayOver (.array ty)).before A U = true := h
section VGM
variable {p : Program} {l : Launch} {e : Env} {R : Room} {s : State} {m : MethodId} {args : Array Value} {below : List Frame} {meth : Method} {c : Code} {H : Heap} {locs : List Loc} {cells slots : Nat} {Q : State → Prop}
variable {cc : ByteArray} {pc : Nat} {ls : Array Slot} {rest : List Value} {D : va_G} {cl : List vw_C} {A : Nat → Prop} {a : Nat} {tys : List (ClassId × FieldType)} {ws : va_W} {H0 : Heap}
theorem va_mna {X : va_W} {L : List Nat} {f : Nat → va_E} {cc : ByteArray} (hexec : p.tables.exec = Jvm.exec) (hb : c.code = cc) {own : String} {index : Nat} {ty : FieldType} {cy : ClassId} (hown : s.vm.findClass own = some m.cls) (hclink : (Cond.classLink own index ("[" ++ (FieldType.array ty).toString)).before args s = true) (hover : va_AOA ty s) (harr : (Cond.arrayClass ty).before args s = true) (hcy : s.vm.findClass (FieldType.array ty).toString = some cy)
    (hK : va_K D cl tys s) (hP : va_P D cl (X ++ va_pl L f) H) (hD : va_D A (X ++ va_pl L f)) (hS : va_S A H0 H locs) (hA : ∀ q, H0.size ≤ q → A q) {n k : Int32} {N' K' : Nat} {z : vp_A} (hn : ¬ n < 0) (hk : ¬ k < 0) (hN : n.toNatClampNeg = N') (hM : k.toNatClampNeg = K')
    (hb1 : N' * 4 ≤ 536870912) (hb2 : K' * componentBytes ty ≤ 536870912) (hb3 : K' ≤ 536870912) (hdf : fits ty (defaultValue ty) = true) (hdd : (defaultValue ty).isDefault = true) (hcells : cells + (1 + N') ≤ R.cells) (hslots : slots + (N' + N' * K') ≤ R.slots) (hz : ∀ c : ClassId, Jvm.Free.Multi.innerC c K' (defaultValue ty) = vp_cell c z) (hdg : decode cc pc = .ok (.multianewarray index 2, 4))
    (kk : ∀ (q : Nat) (r : Nat → Nat) (cA : ClassId) (H1 : Heap), (∀ i j : Nat, i < N' → j < N' → r i = r j → i = j) → (∀ i : Nat, i < N' → r i ∉ L) → va_K D cl (tys ++ [(cA, .array ty)]) s →
      va_P D cl ((X ++ [(q, .inl (cA, N', .inr (.inr (.inr (.inr (fun i => if i < N' then some (r i) else none))))))]) ++ va_pl (L ++ (List.range N').map r) (vr_up f ((List.range N').map r) (.inl (cy, z)))) H1 → va_D A ((X ++ [(q, .inl (cA, N', .inr (.inr (.inr (.inr (fun i => if i < N' then some (r i) else none))))))]) ++ va_pl (L ++ (List.range N').map r) (vr_up f ((List.range N').map r) (.inl (cy, z)))) → va_S A H0 H1 locs →
      W p l e R s m args below meth c H1 locs (cells + 1 + N') (slots + N' + N' * K') Q (F0 m (pc + 4) ls (.ref q :: rest))) : W p l e R s m args below meth c H locs cells slots Q (F0 m pc ls (.int k :: .int n :: rest)) := by
  subst hN
  subst hM
  intro T hT Xs
  obtain ⟨vm₁, cA, comp, -, fA, fC, hO, -, X', step⟩ := Xs.multianewarray2F hexec hown hclink (va_AOA.use hover) harr (g := F0 m pc ls (.int k :: .int n :: rest)) rfl (by rw [hb]; exact hdg) rfl hn hk hb1 hb2 hb3 hdf hdd hcells hslots
  have ec : some cy = some comp := hcy.symm.trans fC
  cases ec
  generalize hF : Jvm.Free.Multi.fill (T.setVm vm₁) cA cy n.toNatClampNeg k.toNatClampNeg (defaultValue ty) n.toNatClampNeg = F at X' step
  have hTh : (T.setVm vm₁).heap = H := hT
  obtain ⟨f1, f2, -, -⟩ := Jvm.Free.Multi.fill_facts (T.setVm vm₁) cA cy n.toNatClampNeg k.toNatClampNeg (defaultValue ty) n.toNatClampNeg
  rw [hF, hTh] at f1 f2
  have hold : ∀ x : Nat, x < H.size → F.heap[x]? = H[x]? := fun x hx => by
    have := Jvm.Free.Multi.fill_old (T.setVm vm₁) cA cy n.toNatClampNeg k.toNatClampNeg (defaultValue ty) (a := x) (by rw [hTh]; exact hx) n.toNatClampNeg
    rw [hF, hTh] at this
    exact this
  have hrow : ∀ j : Nat, j < n.toNatClampNeg → F.heap[H.size + 1 + j]? = some (vp_cell cy z) := fun j hj => by
    have := Jvm.Free.Multi.fill_inner (T.setVm vm₁) cA cy n.toNatClampNeg k.toNatClampNeg (defaultValue ty) n.toNatClampNeg j hj
    rw [hF, hTh, hz] at this
    exact this
  have hout : Jvm.Free.Multi.outerC cA n.toNatClampNeg H.size n.toNatClampNeg = vp_cell cA (n.toNatClampNeg, .inr (.inr (.inr (.inr (fun i => if i < n.toNatClampNeg then some (H.size + 1 + i) else none))))) := by
    rw [vp_cell_q]
    exact vr_outer cA n.toNatClampNeg H.size n.toNatClampNeg
  rw [hout] at f2
  have hlt : ∀ a, a ∈ L → a < H.size := fun a ha => by
    obtain ⟨k9, hk9⟩ := va_pl_get (X := X) (f := f) ha
    exact (hP k9 _ hk9).lt
  have hnl : ∀ i : Nat, i < n.toNatClampNeg → H.size + 1 + i ∉ L := fun i _ h => by
    have := hlt _ h
    omega
  have hnm : ∀ a, a ∈ (List.range n.toNatClampNeg).map (fun i => H.size + 1 + i) → a ∉ L := fun a ha h => by
    obtain ⟨i, -, rfl⟩ := List.mem_map.mp ha
    have := hlt _ h
    omega
  have hP0 : va_P D cl (X ++ va_pl L f) F.heap := hP.kept (fun k9 x hx => hold x.1 ((hP k9 x hx).lt))
  have hP1 : va_P D cl ((X ++ va_pl L f) ++ [(H.size, .inl (cA, n.toNatClampNeg, .inr (.inr (.inr (.inr (fun i => if i < n.toNatClampNeg then some (H.size + 1 + i) else none))))))]) F.heap := hP0.app (fun k9 x hx => by
    have h0 : k9 < 1 := (List.getElem?_eq_some_iff.mp hx).1
    rw [show k9 = 0 by omega] at hx
    cases hx
    exact f2)
  have hP2 : va_P D cl (((X ++ va_pl L f) ++ [(H.size, .inl (cA, n.toNatClampNeg, .inr (.inr (.inr (.inr (fun i => if i < n.toNatClampNeg then some (H.size + 1 + i) else none))))))]) ++ ((List.range n.toNatClampNeg).map (fun i => H.size + 1 + i)).map (fun a => (a, .inl (cy, z)))) F.heap := hP1.app (fun k9 x hx => by
    obtain ⟨a, ha, rfl⟩ := List.mem_map.mp (List.mem_of_getElem? hx)
    obtain ⟨i, hi, rfl⟩ := List.mem_map.mp ha
    exact hrow i (List.mem_range.mp hi))
  have hD2 : va_D A (((X ++ va_pl L f) ++ [(H.size, .inl (cA, n.toNatClampNeg, .inr (.inr (.inr (.inr (fun i => if i < n.toNatClampNeg then some (H.size + 1 + i) else none))))))]) ++ ((List.range n.toNatClampNeg).map (fun i => H.size + 1 + i)).map (fun a => (a, .inl (cy, z)))) := by
    have hD1 := hD.push (e := .inl (cA, n.toNatClampNeg, .inr (.inr (.inr (.inr (fun i => if i < n.toNatClampNeg then some (H.size + 1 + i) else none)))))) hP rfl (hA _ hS.1)
    generalize hW1 : (X ++ va_pl L f) ++ [(H.size, .inl (cA, n.toNatClampNeg, .inr (.inr (.inr (.inr (fun i => if i < n.toNatClampNeg then some (H.size + 1 + i) else none))))))] = W1 at hD1 hP1 ⊢
    have hle : ∀ (k9 : Nat) (x : Nat × va_E), W1[k9]? = some x → x.1 ≤ H.size := fun k9 x hx => by
      rw [← hW1] at hx
      by_cases hl : k9 < (X ++ va_pl L f).length
      · rw [List.getElem?_append_left hl] at hx
        exact Nat.le_of_lt ((hP k9 x hx).lt)
      · rw [List.getElem?_append_right (by omega)] at hx
        have h0 : k9 - (X ++ va_pl L f).length < 1 := (List.getElem?_eq_some_iff.mp hx).1
        rw [show k9 - (X ++ va_pl L f).length = 0 by omega] at hx
        cases hx
        exact Nat.le_refl _
    have hr : ∀ (k9 : Nat) (x : Nat × va_E), (((List.range n.toNatClampNeg).map (fun i => H.size + 1 + i)).map (fun a => ((a, .inl (cy, z)) : Nat × va_E)))[k9]? = some x → x.1 = H.size + 1 + k9 := fun k9 x hx => by
      rw [List.getElem?_map, List.getElem?_map] at hx
      by_cases h9 : k9 < n.toNatClampNeg
      · rw [List.getElem?_range h9] at hx
        cases hx
        rfl
      · have hn0 : (List.range n.toNatClampNeg)[k9]? = none := List.getElem?_eq_none (by rw [List.length_range]; omega)
        rw [hn0] at hx
        cases hx
    refine ⟨fun i j x y hi hj hxy => ?_, fun k9 x hx => ?_⟩
    · by_cases h1 : i < W1.length <;> by_cases h2 : j < W1.length
      · rw [List.getElem?_append_left h1] at hi
        rw [List.getElem?_append_left h2] at hj
        exact hD1.1 i j x y hi hj hxy
      · rw [List.getElem?_append_left h1] at hi
        rw [List.getElem?_append_right (by omega)] at hj
        have := hle _ _ hi
        have := hr _ _ hj
        omega
      · rw [List.getElem?_append_right (by omega)] at hi
        rw [List.getElem?_append_left h2] at hj
        have := hle _ _ hj
        have := hr _ _ hi
        omega
      · rw [List.getElem?_append_right (by omega)] at hi hj
        have := hr _ _ hi
        have := hr _ _ hj
        omega
    · by_cases h1 : k9 < W1.length
      · rw [List.getElem?_append_left h1] at hx
        exact hD1.2 k9 x hx
      · rw [List.getElem?_append_right (by omega)] at hx
        have := hr _ _ hx
        exact hA _ (by have := hS.1; omega)
  have hAr : ArrOfT s cA (.array ty) := fun N9 z9 => by
    obtain ⟨-, k9, hk9, cm9, hkk9⟩ := (hO 0 0 0).1
    exact ⟨(fun q hq => by cases hq), k9, hk9, cm9, hkk9⟩
  have hK2 : va_K D cl (tys ++ [(cA, .array ty)]) s := ⟨hK.1, fun k9 x hx => by
    by_cases hl : k9 < tys.length
    · rw [List.getElem?_append_left hl] at hx
      exact hK.2 k9 x hx
    · rw [List.getElem?_append_right (by omega)] at hx
      have h0 : k9 - tys.length < 1 := (List.getElem?_eq_some_iff.mp hx).1
      rw [show k9 - tys.length = 0 by omega] at hx
      cases hx
      exact ⟨hAr, fA⟩⟩
  obtain ⟨t, a1, b1⟩ := kk H.size (fun i => H.size + 1 + i) cA F.heap (fun i j _ _ h => by have h9 : H.size + 1 + i = H.size + 1 + j := h; omega) hnl hK2 (by rw [← vr_rows hnm]; exact vr_lay hP2) (by rw [← vr_rows hnm]; exact vr_layD hD2) ⟨by rw [f1]; have := hS.1; omega, fun x h1 h2 => (hold x (Nat.lt_of_lt_of_le h1 hS.1)).trans (hS.2.1 x h1 h2), hS.2.2⟩ F rfl X'
  refine ⟨t, step t ?_, b1⟩
  have e : T.heap.size = H.size := by rw [hT]
  rw [e]
  exact a1
end VGM
/-! ===== END ===== -/

/-! ===== BEGIN exceptions that leave a method, and their catching by the caller (launches without stack traces) ===== -/
section VXA
/-! The laws vx_back, vx_callV, vx_callS, vx_callSW, vx_throw0, vx_throwS follow proofs of the library, with one case more: JvmDerived/Free/Laws.lean (Back.of_free), Shelf42/LK1.lean (callV, callS), Shelf/KitTraced.lean (throwNew0V, throwNewS). -/
/-- where a method has thrown q: the class by its name, the cell, what was written, the world -/
def vx_T (XC : String → State → State → Prop) (st : State) (q : Addr) (t : State) (mc ms : Nat) (free : Addr → Prop) : Prop :=
  ∃ (E : String) (ce : Cell) (L : List Loc), XC E st t ∧ t.heap[q]? = some ce ∧ ce.vm = .none ∧ st.vm.findClass E = some ce.cls ∧ st.WarmedH t.vm ∧ st.sameButNew ({ t with vm := st.vm } : State) L mc ms ∧ ∀ z ∈ L, free z.base
def vx_Q (Qc : Array Value → State → Outcome → State → Prop) (XC : String → State → State → Prop) (mc ms : Nat) (free : Addr → Prop) : Array Value → State → Outcome → State → Prop := fun a st o t =>
  (Qc a st o t ∧ ∃ L, FrameEnd st o t L mc ms ∧ ∀ q ∈ L, free q.base) ∨ ∃ q, o = .threw q ∧ vx_T XC st q t mc ms free
/-- a callee that returns or throws -/
def vx_Met (l : Launch) (y : MethodName) (ws : List Cond) (rm : Room) (Pc : Array Value → State → Prop) (Qc : Array Value → State → Outcome → State → Prop) (XC : String → State → State → Prop) (mc ms : Nat) (free : Addr → Prop) : Prop :=
  MetFree l y (headSpec ws rm) Pc (fun _ _ _ _ _ => True) (vx_Q Qc XC mc ms free)
def vx_Post (XC : String → State → State → Prop) (mc ms : Nat) (free : Addr → Prop) : Pt → Array Value → Addr → Pt → Prop := fun A a q B =>
  ∃ (g : JFrame) (mk : MethodId) (t : State) (L : List Loc) (E : String) (ce : Cell), B.U.heap = t.heap ∧ B.U.vm = t.vm ∧ XC E (A.U.calling g mk a) t ∧ t.heap[q]? = some ce ∧ ce.vm = .none ∧ A.U.vm.findClass E = some ce.cls ∧ B.locs = A.locs ++ L ∧ (∀ z ∈ L, free z.base) ∧ B.cells = A.cells + mc ∧ B.slots = A.slots + ms
def vx_Back (l : Launch) (R : Room) (p : Program) (e : Env) (below : List Frame) (s : State) (sargs : Array Value) (y : MethodName) (len W9 : Nat)
    (Pre : Pt → Array Value → Prop) (Post : Pt → Array Value → Option Value → Pt → Prop) (PostX : Pt → Array Value → Addr → Pt → Prop) : Prop :=
  ∀ (m : MethodId) (meth : Method) (c : Code) (A : Pt) (g : JFrame) (ig : Instr) (mk : MethodId) (a : Array Value),
    Stand p l e R s m sargs below meth c A.U A.locs A.cells A.slots → g.method = m → g.locals.size = c.maxLocals → decode c.code g.pc = .ok (ig, len) →
    2 * g.monitorRoom + (g.stack.map fun v => v.category).sum ≤ W9 → A.U.methodNamed? y = some mk → Pre A a →
    (∃ (v : Option Value) (B : Pt), Stand p l e R s m sargs below meth c B.U B.locs B.cells B.slots ∧ Post A a v B ∧
      Steps p.tables e below (doInvoke e (A.U.setTop g) [] mk a).1 (B.U.setTop { g with pc := g.pc + len, stack := v.toList ++ g.stack })) ∨
    (∃ (q : Addr) (B : Pt), Stand p l e R s m sargs below meth c B.U B.locs B.cells B.slots ∧ PostX A a q B ∧
      Steps p.tables e below (doInvoke e (A.U.setTop g) [] mk a).1 ((B.U.setTop g).pushFrame (.throwing q)))
section Payer
variable {l : Launch} {R : Room} {p : Program} {e : Env} {below : List Frame} {s : State} {sargs : Array Value} {y : MethodName} {len W9 : Nat}
theorem vx_back {ws : List Cond} {rm : Room} {Pc : Array Value → State → Prop} {Qc : Array Value → State → Outcome → State → Prop} {XC : String → State → State → Prop} {mc ms : Nat} {free : Addr → Prop} {bytes : ByteArray} {maxL : Nat} {ret : Option FieldType}
    (hM : vx_Met l y ws rm Pc Qc XC mc ms free) (hblind : FrameBlind Pc) (hrc : rm.cells = mc) (hrs : rm.slots = ms)
    (hframes : rm.frames + 1 ≤ R.frames) (hlocals : W9 + (maxL + 11) + rm.locals ≤ R.locals)
    (hws : ∀ w ∈ ws, ∀ a' U, s.WarmedH U.vm → w.before a' U = true) (hcode : Cond.code y bytes maxL ret ∈ ws) (hinit : ∀ a' U, s.WarmedH U.vm → (Cond.initialized y.cls).before a' U = true) :
    vx_Back l R p e below s sargs y len W9 (PreOf R mc ms Pc) (PostOf Qc mc ms free) (vx_Post XC mc ms free) := by
  intro m meth c A g ig mk a X hg hsize hdg hW hn hp
  have h1 : (headSpec ws rm).pre.before a A.U = true := atoms_intro fun w hw => hws w hw _ _ X.warmed
  have h2 : (Cond.code y bytes maxL ret).before a A.U = true := hws _ hcode _ _ X.warmed
  have h3 : (Cond.initialized y.cls).before a A.U = true := hinit _ _ X.warmed
  have h4 : A.cells + (headSpec ws rm).room.cells ≤ R.cells := by rw [show (headSpec ws rm).room.cells = mc from hrc]; exact hp.1
  have h5 : A.slots + (headSpec ws rm).room.slots ≤ R.slots := by rw [show (headSpec ws rm).room.slots = ms from hrs]; exact hp.2.1
  have hPc : Pc a (A.U.calling g mk a) := hblind _ _ _ _ hp.2.2
  obtain ⟨U, Ls, c0, s0⟩ := A
  dsimp only [Pt.U, Pt.locs, Pt.cells, Pt.slots] at h1 h2 h3 h4 h5 X hn hPc ⊢
  obtain ⟨methY, cY, hmY, hcY, -, hlY, -, -, -, -⟩ := Cond.code_spec hn h2
  obtain ⟨kY, hkY, -⟩ := className_of_methodNamed hn
  have hinitY : kY.init = .initialized := Cond.initialized_spec (findClass_of_methodNamed hn) hkY h3
  have h : At U g.method c below := by rw [hg]; exact X.here
  have hlocals9 : W9 + (maxL + 11) + (headSpec ws rm).room.locals ≤ R.locals := hlocals
  have happ : (headSpec ws rm).appliesLoose y e.platform (U.calling g mk a) = true :=
    Spec.appliesLoose_calling (g := g) h hdg hn hkY hinitY
      (X.room_calling (g := g) (R' := (headSpec ws rm).room) hsize hmY hcY hframes (by rw [hlY]; omega) h4 h5) h1
  obtain ⟨mid, hmid⟩ := h.above
  have hfr : (U.setTop g).frames = (.java g :: mid) ++ below := by rw [State.frames_setTop' g h.top, hmid]; rfl
  obtain ⟨o, s₂, hsteps, -, hend, hq⟩ := Steps.callFree hM p X.admits X.cas X.clock (acts := []) hfr happ hPc trivial
  have hq' : vx_Q Qc XC mc ms free a (U.calling g mk a) o s₂ := hq
  rw [State.frames_setTop' g h.top] at hend
  obtain ⟨g₀, hg0⟩ := Option.isSome_iff_exists.mp h.top
  obtain ⟨r, hr⟩ := State.topJava?_eq_some.mp hg0
  have hr' : (({ U with heap := s₂.heap, slotsUsed := s₂.slotsUsed } : State).setVm s₂.vm).frames = .java g₀ :: r := hr
  rcases hq' with ⟨hqc, L, hfe, hL⟩ | ⟨q, rfl, E, ce, L, hx, hce, hcv, hcl, hW₂, hsm, hL⟩
  · obtain ⟨⟨v, rfl⟩, hW₂, e2, q2, q3, q4, q5, q6⟩ := id hfe
    have e3 : s₂ = ({ (U.calling g mk a).setFrames s₂.frames with heap := s₂.heap, slotsUsed := s₂.slotsUsed } : State).setVm s₂.vm := by
      have : s₂ = ({ s₂ with vm := (U.calling g mk a).vm } : State).setVm s₂.vm := rfl
      rw [e2] at this
      exact this
    obtain ⟨c₂, i₂, len₂, hc₂, hd₂, hf₂⟩ := hend
    have hW' : U.WarmedH s₂.vm := hW₂
    have hcc : c₂ = c := by
      have h1 : s₂.code? g.method = U.code? g.method := by
        rw [State.code?_eq, State.code?_eq, hW'.alike.method?]
      exact Option.some.inj (hc₂.symm.trans (h1.trans h.code))
    subst hcc
    have hlen : len₂ = len := by rw [hdg] at hd₂; cases hd₂; rfl
    subst hlen
    have hs₂ : s₂ = (({ U with heap := s₂.heap, slotsUsed := s₂.slotsUsed } : State).setVm s₂.vm).setTop { g with pc := g.pc + len₂, stack := v.toList ++ g.stack } := by
      refine e3.trans ?_
      rw [hf₂, State.calling_eq h.top, State.setFrames_setFrames, State.setTop_of_frames _ hr', hr]
      rfl
    have hsame : U.sameButNew ({ U with heap := s₂.heap, slotsUsed := s₂.slotsUsed } : State) L mc ms := by
      refine ⟨?_, q2, q3, q4, q5, q6⟩
      obtain ⟨t, ht, -⟩ := State.frames_cons hr
      show ({ U with heap := s₂.heap, slotsUsed := s₂.slotsUsed } : State) = { U.setFrames U.frames with heap := s₂.heap, slotsUsed := s₂.slotsUsed }
      rw [State.setFrames_self ht]
    subst hg
    refine Or.inl ⟨v, ⟨(({ U with heap := s₂.heap, slotsUsed := s₂.slotsUsed } : State).setVm s₂.vm), Ls ++ L, c0 + mc, s0 + ms⟩,
      ⟨X.admits, X.cas, X.clock, X.frames, X.room, X.hears, X.method, X.code, (X.here.setHeapUsed s₂.heap s₂.slotsUsed).setVm hW'.alike, X.tail, State.WarmedH.trans X.warmed hW', X.limits, X.bytes, X.same.trans (hsame.setVm s.vm)⟩,
      ⟨g, mk, s₂, L, rfl, rfl, hqc, rfl, hL, rfl, rfl⟩, ?_⟩
    show Steps p.tables e below _ ((({ U with heap := s₂.heap, slotsUsed := s₂.slotsUsed } : State).setVm s₂.vm).setTop { g with pc := g.pc + len₂, stack := v.toList ++ g.stack })
    rw [← hs₂]
    exact hsteps
  · obtain ⟨e2, q2, q3, q4, q5, q6⟩ := id hsm
    have e3 : s₂ = ({ (U.calling g mk a).setFrames s₂.frames with heap := s₂.heap, slotsUsed := s₂.slotsUsed } : State).setVm s₂.vm := by
      have : s₂ = ({ s₂ with vm := (U.calling g mk a).vm } : State).setVm s₂.vm := rfl
      rw [e2] at this
      exact this
    have hf₂ : s₂.frames = .throwing q :: .java g :: U.frames.tail := hend
    have hW' : U.WarmedH s₂.vm := hW₂
    have hs₂ : s₂ = ((({ U with heap := s₂.heap, slotsUsed := s₂.slotsUsed } : State).setVm s₂.vm).setTop g).pushFrame (.throwing q) := by
      refine e3.trans ?_
      rw [hf₂, State.calling_eq h.top, State.setFrames_setFrames, State.pushFrame, State.frames_setTop _ hr', State.setTop_of_frames _ hr', State.setFrames_setFrames, hr]
      rfl
    have hsame : U.sameButNew ({ U with heap := s₂.heap, slotsUsed := s₂.slotsUsed } : State) L mc ms := by
      refine ⟨?_, q2, q3, q4, q5, q6⟩
      obtain ⟨t, ht, -⟩ := State.frames_cons hr
      show ({ U with heap := s₂.heap, slotsUsed := s₂.slotsUsed } : State) = { U.setFrames U.frames with heap := s₂.heap, slotsUsed := s₂.slotsUsed }
      rw [State.setFrames_self ht]
    subst hg
    refine Or.inr ⟨q, ⟨(({ U with heap := s₂.heap, slotsUsed := s₂.slotsUsed } : State).setVm s₂.vm), Ls ++ L, c0 + mc, s0 + ms⟩,
      ⟨X.admits, X.cas, X.clock, X.frames, X.room, X.hears, X.method, X.code, (X.here.setHeapUsed s₂.heap s₂.slotsUsed).setVm hW'.alike, X.tail, State.WarmedH.trans X.warmed hW', X.limits, X.bytes, X.same.trans (hsame.setVm s.vm)⟩,
      ⟨g, mk, s₂, L, E, ce, rfl, rfl, hx, hce, hcv, hcl, rfl, hL, rfl, rfl⟩, ?_⟩
    show Steps p.tables e below _ (((({ U with heap := s₂.heap, slotsUsed := s₂.slotsUsed } : State).setVm s₂.vm).setTop g).pushFrame (.throwing q))
    rw [← hs₂]
    exact hsteps
end Payer
section Calls
variable {p : Program} {l : Launch} {e : Env} {R : Room} {s : State} {m : MethodId} {args : Array Value} {below : List Frame} {meth : Method} {c : Code} {T : State} {locs : List Loc} {cells slots : Nat}
theorem vx_callV (X : Stand p l e R s m args below meth c T locs cells slots) (hexec : p.tables.exec = Jvm.exec) {own C : String} {index : Nat} {y : MethodName} {bytes : ByteArray} {maxL : Nat} {ret : Option FieldType}
    (hown : s.vm.findClass own = some m.cls) (hlink : (Cond.methodLink own index y).before args s = true) (hinst : (Cond.instanceMethod y).before args s = true) (hsel : (Cond.selects C y y).before args s = true)
    (hcode : (Cond.code y bytes maxL ret).before args s = true) (hy : y.cls ≠ "java/lang/invoke/MethodHandle" ∧ y.cls ≠ "java/lang/invoke/VarHandle")
    {W9 : Nat} {Pre : Pt → Array Value → Prop} {Post : Pt → Array Value → Option Value → Pt → Prop} {PostX : Pt → Array Value → Addr → Pt → Prop} (hK : vx_Back l R p e below s args y 3 W9 Pre Post PostX)
    {b : Addr} {cellB : Cell} (hcell : T.heap[b]? = some cellB) (hobj : cellB.vm.isStatics = false) (hcls : s.vm.findClass C = some cellB.cls)
    {g : JFrame} (hg : g.method = m) (hsize : g.locals.size = c.maxLocals) {argsL rest : List Value} (hlen : ∀ sig, parseMethodDescriptor y.desc = some sig → argsL.length = sig.parameters.length)
    (hstack : g.stack = argsL.reverse ++ .ref b :: rest) (hW : 2 * g.monitorRoom + (rest.map fun v => v.category).sum ≤ W9) (hdg : decode c.code g.pc = .ok (.invokevirtual index, 3))
    (hpre : ∀ vm₁, s.WarmedH vm₁ → Pre ⟨T.setVm vm₁, locs, cells, slots⟩ (Value.ref b :: argsL).toArray) :
    (∃ (v : Option Value) (vm₁ : Vm) (B : Pt), s.WarmedH vm₁ ∧ Stand p l e R s m args below meth c B.U B.locs B.cells B.slots ∧ Post ⟨T.setVm vm₁, locs, cells, slots⟩ (Value.ref b :: argsL).toArray v B ∧
      ∀ target, Steps p.tables e below (B.U.setTop { g with pc := g.pc + 3, stack := v.toList ++ rest }) target → Steps p.tables e below (T.setTop g) target) ∨
    (∃ (q : Addr) (vm₁ : Vm) (B : Pt), s.WarmedH vm₁ ∧ Stand p l e R s m args below meth c B.U B.locs B.cells B.slots ∧ PostX ⟨T.setVm vm₁, locs, cells, slots⟩ (Value.ref b :: argsL).toArray q B ∧
      Steps p.tables e below (T.setTop g) ((B.U.setTop { g with stack := rest }).pushFrame (.throwing q))) := by
  obtain ⟨mk, methM, hnamed, hmethM, hstM, habM⟩ := Cond.instanceMethod_spec hinst
  obtain ⟨methM', cM, hmethM', -, -, -, -, -, -, hsigM⟩ := Cond.code_spec hnamed hcode
  cases hmethM.symm.trans hmethM'
  obtain ⟨c2, r2, m2, q1, q2, q3, q4, kP, hkP, hkPi⟩ := Cond.selects_spec hsel
  cases hcls.symm.trans q1
  cases (State.methodFound?_of_named hnamed hy).symm.trans q2
  cases hnamed.symm.trans q3
  have hselP : selectMethod e.platform s.vm cellB.cls mk = .method mk := by rw [Launch.admits_selectMethod X.admits]; exact q4
  obtain ⟨vm₁, X₁, hstep₁⟩ := X.invokevirtual hexec hown hlink hnamed hmethM hstM hkP hkPi hy (a := b) (cell := cellB) hcell
    (fun z h => by rw [h] at hobj; cases hobj) hselP hmethM habM hkP hkPi (g := g) hg (argsL := argsL) (rest := rest) (hlen _ hsigM) hstack hdg
  rcases hK m meth c ⟨T.setVm vm₁, locs, cells, slots⟩ { g with stack := rest } (.invokevirtual index) mk (Value.ref b :: argsL).toArray X₁ hg hsize hdg hW (X₁.named hnamed) (hpre vm₁ X₁.warmed) with ⟨v, B, X', hpost, hsteps⟩ | ⟨q, B, X', hpost, hsteps⟩
  · exact Or.inl ⟨v, vm₁, B, X₁.warmed, X', hpost, fun target h => hstep₁ _ fun acts => by rw [doInvoke_state]; exact hsteps.trans h⟩
  · exact Or.inr ⟨q, vm₁, B, X₁.warmed, X', hpost, hstep₁ _ fun acts => by rw [doInvoke_state]; exact hsteps⟩
theorem vx_callS (X : Stand p l e R s m args below meth c T locs cells slots) (hexec : p.tables.exec = Jvm.exec) {own : String} {index : Nat} {y : MethodName} {bytes : ByteArray} {maxL : Nat} {ret : Option FieldType}
    (hown : s.vm.findClass own = some m.cls) (hlink : (Cond.methodLink own index y).before args s = true) (hstat : (Cond.static y).before args s = true) (hinit : (Cond.initialized y.cls).before args s = true)
    (hcode : (Cond.code y bytes maxL ret).before args s = true) (hy : y.cls ≠ "java/lang/invoke/MethodHandle" ∧ y.cls ≠ "java/lang/invoke/VarHandle")
    {W9 : Nat} {Pre : Pt → Array Value → Prop} {Post : Pt → Array Value → Option Value → Pt → Prop} {PostX : Pt → Array Value → Addr → Pt → Prop} (hK : vx_Back l R p e below s args y 3 W9 Pre Post PostX)
    {g : JFrame} (hg : g.method = m) (hsize : g.locals.size = c.maxLocals) {argsL rest : List Value} (hlen : ∀ sig, parseMethodDescriptor y.desc = some sig → argsL.length = sig.parameters.length)
    (hstack : g.stack = argsL.reverse ++ rest) (hW : 2 * g.monitorRoom + (rest.map fun v => v.category).sum ≤ W9) (hdg : decode c.code g.pc = .ok (.invokestatic index, 3))
    (hpre : ∀ vm₁, s.WarmedH vm₁ → Pre ⟨T.setVm vm₁, locs, cells, slots⟩ argsL.toArray) :
    (∃ (v : Option Value) (vm₁ : Vm) (B : Pt), s.WarmedH vm₁ ∧ Stand p l e R s m args below meth c B.U B.locs B.cells B.slots ∧ Post ⟨T.setVm vm₁, locs, cells, slots⟩ argsL.toArray v B ∧
      ∀ target, Steps p.tables e below (B.U.setTop { g with pc := g.pc + 3, stack := v.toList ++ rest }) target → Steps p.tables e below (T.setTop g) target) ∨
    (∃ (q : Addr) (vm₁ : Vm) (B : Pt), s.WarmedH vm₁ ∧ Stand p l e R s m args below meth c B.U B.locs B.cells B.slots ∧ PostX ⟨T.setVm vm₁, locs, cells, slots⟩ argsL.toArray q B ∧
      Steps p.tables e below (T.setTop g) ((B.U.setTop { g with stack := rest }).pushFrame (.throwing q))) := by
  obtain ⟨mk, hnamed⟩ := Cond.code_named hcode
  obtain ⟨methM, cM, hmethM, -, -, -, -, -, -, hsigM⟩ := Cond.code_spec hnamed hcode
  have hstatic : methM.isStatic = true := Cond.static_spec hnamed hmethM hstat
  obtain ⟨kP, hkP, -⟩ := className_of_methodNamed hnamed
  have hinitP : kP.init = .initialized := Cond.initialized_spec (findClass_of_methodNamed hnamed) hkP hinit
  obtain ⟨vm₁, X₁, hstep₁⟩ := X.invokestatic hexec hown hlink hnamed hmethM hstatic hkP hinitP hy (g := g) hg (argsL := argsL) (rest := rest) (hlen _ hsigM) hstack hdg
  rcases hK m meth c ⟨T.setVm vm₁, locs, cells, slots⟩ { g with stack := rest } (.invokestatic index) mk argsL.toArray X₁ hg hsize hdg hW (X₁.named hnamed) (hpre vm₁ X₁.warmed) with ⟨v, B, X', hpost, hsteps⟩ | ⟨q, B, X', hpost, hsteps⟩
  · exact Or.inl ⟨v, vm₁, B, X₁.warmed, X', hpost, fun target h => hstep₁ _ fun acts => by rw [doInvoke_state]; exact hsteps.trans h⟩
  · exact Or.inr ⟨q, vm₁, B, X₁.warmed, X', hpost, hstep₁ _ fun acts => by rw [doInvoke_state]; exact hsteps⟩
end Calls
theorem vx_cls {s : State} {T : State} {vm₁ : Vm} {E : String} {k : ClassId} (hW : s.WarmedH vm₁) (h : (T.setVm vm₁).vm.findClass E = some k) : s.vm.findClass E = some k := by
  have h1 : vm₁.findClass E = some k := h
  rw [hW.alike.findClass] at h1
  exact h1
/-- the method's frame g, with q thrown over it -/
def vx_W (p : Program) (l : Launch) (e : Env) (R : Room) (s : State) (m : MethodId) (args : Array Value) (below : List Frame) (meth : Method) (c : Code) (H : Heap) (locs : List Loc) (cells slots : Nat) (Q : State → Prop) (g : JFrame) (q : Addr) : Prop :=
  ∀ T : State, T.heap = H → Stand p l e R s m args below meth c T locs cells slots → ∃ t, Steps p.tables e below ((T.setTop g).pushFrame (.throwing q)) t ∧ Q t
def vx_Run (p : Program) (l : Launch) (e : Env) (R : Room) (s : State) (m : MethodId) (args : Array Value) (below : List Frame) (meth : Method) (c : Code) (H : Heap) (locs : List Loc) (cells slots mc ms : Nat) (g : JFrame) (rest : List Value) (Qa : State → Outcome → State → Prop) (XC : String → State → State → Prop) (free : Addr → Prop) : Prop :=
  ∀ T : State, T.heap = H → Stand p l e R s m args below meth c T locs cells slots →
    (∃ (v : Option Value) (st₀ t T' : State) (L : List Loc), st₀.heap = H ∧ Stand p l e R s m args below meth c T' (locs ++ L) (cells + mc) (slots + ms) ∧ (∀ q ∈ L, free q.base) ∧ T'.heap = t.heap ∧ T'.vm = t.vm ∧ Qa st₀ (.returned v) t ∧
      Goes p e below T g T' { g with pc := g.pc + 3, stack := v.toList ++ rest }) ∨
    (∃ (q : Addr) (st₀ t T' : State) (L : List Loc) (E : String) (ce : Cell), st₀.heap = H ∧ Stand p l e R s m args below meth c T' (locs ++ L) (cells + mc) (slots + ms) ∧ (∀ z ∈ L, free z.base) ∧ T'.heap = t.heap ∧ T'.vm = t.vm ∧ XC E st₀ t ∧ t.heap[q]? = some ce ∧ ce.vm = .none ∧ s.vm.findClass E = some ce.cls ∧
      Steps p.tables e below (T.setTop g) ((T'.setTop { g with stack := rest }).pushFrame (.throwing q)))
def vx_X {S : Type} (px : S → Prop) (B : String → S → State → Prop) (A : Nat → Prop) : String → State → State → Prop := fun E st t => ∃ u : S, px u ∧ B E u t ∧ va_F A st t
section Runs
variable {p : Program} {l : Launch} {e : Env} {R : Room} {s : State} {m : MethodId} {args : Array Value} {below : List Frame} {meth : Method} {c : Code} {H : Heap} {locs : List Loc} {cells slots : Nat}
variable {y : MethodName} {bytes cc : ByteArray} {maxL nL mc ms n index : Nat} {ret : Option FieldType} {ws : List Cond} {rm : Room} {Pc : Array Value → State → Prop} {Qc : Array Value → State → Outcome → State → Prop} {XC : String → State → State → Prop} {free : Addr → Prop} {Ts : List Cond} {own C : String} {b : Addr} {As rest : List Value} {g : JFrame}
theorem vx_callBack (cb : CallB R s args own index y bytes maxL ret ws rm mc ms n) (hM : vx_Met l y ws rm Pc Qc XC mc ms free) (hbl : FrameBlind Pc) : vx_Back l R p e below s args y 3 8 (PreOf R mc ms Pc) (PostOf Qc mc ms free) (vx_Post XC mc ms free) := by
  obtain ⟨hrc, hrs, hfr, hlo, hws, hcw, -, hini, -⟩ := cb
  exact vx_back (bytes := bytes) (maxL := maxL) (ret := ret) hM hbl hrc hrs hfr hlo hws hcw (fun a' U hW => word_at hW (Or.inl (by first | rfl | simp [Cond.onTables, Cond.keeps, Cond.steady])) hini)
theorem vx_runV (S : CallFix p m c cc nL s args Ts own) (hM : vx_Met l y ws rm Pc Qc XC mc ms free) (cw : CallW R s args own C index y bytes maxL ret ws rm mc ms n) (hp : PreV s H C b Pc As)
    (hg : g.method = m) (hn : As.length = n) (hsize : g.locals.size = nL) (hstack : g.stack = As.reverse ++ .ref b :: rest) (hW : 2 * g.monitorRoom + (rest.map fun v => v.category).sum ≤ 8) (hdg : decode cc g.pc = .ok (.invokevirtual index, 3)) (hf : cells + mc ≤ R.cells ∧ slots + ms ≤ R.slots) :
    vx_Run p l e R s m args below meth c H locs cells slots mc ms g rest (Qc (Value.ref b :: As).toArray) XC free := by
  have hK : vx_Back l R p e below s args y 3 8 (PreOf R mc ms Pc) (PostOf Qc mc ms free) (vx_Post XC mc ms free) := vx_callBack cw.1 hM hp.1
  obtain ⟨⟨-, -, -, -, -, -, hcode, -, hy, hlen, hl⟩, hin, hse⟩ := cw
  obtain ⟨hx, hb, hml, ho, -⟩ := S
  obtain ⟨-, ⟨cellB, hcB, hoB, hclB⟩, hPc⟩ := hp
  intro T hT X
  rcases vx_callV X hx (C := C) (bytes := bytes) (maxL := maxL) (ret := ret) ho hl hin hse hcode hy hK (by rw [hT]; exact hcB) hoB hclB hg (hsize.trans hml.symm) (argsL := As) (rest := rest) (fun sig h => hn.trans (hlen sig h)) hstack hW (by rw [hb]; exact hdg)
    (fun vm₁ hW₁ => ⟨hf.1, hf.2, hPc (T.setVm vm₁) hT hW₁⟩) with ⟨v, vm₁, ⟨U', l2, c2, s2⟩, hW₁, X', ⟨g', mk, t, L, e1, e2, hq, h1, hL, h2, h3⟩, st⟩ | ⟨q, vm₁, ⟨U', l2, c2, s2⟩, hW₁, X', ⟨g', mk, t, L, E, ce, e1, e2, hq, hce, hcv, hcl, h1, hL, h2, h3⟩, st⟩
  · dsimp only [Pt.U, Pt.locs, Pt.cells, Pt.slots] at X' e1 e2 h1 h2 h3 st
    subst h1; subst h2; subst h3
    exact Or.inl ⟨v, (T.setVm vm₁).calling g' mk (Value.ref b :: As).toArray, t, U', L, hT, X', hL, e1, e2, hq, st⟩
  · dsimp only [Pt.U, Pt.locs, Pt.cells, Pt.slots] at X' e1 e2 h1 h2 h3 st hcl
    subst h1; subst h2; subst h3
    exact Or.inr ⟨q, (T.setVm vm₁).calling g' mk (Value.ref b :: As).toArray, t, U', L, E, ce, hT, X', hL, e1, e2, hq, hce, hcv, vx_cls hW₁ hcl, st⟩
theorem vx_runS (S : CallFix p m c cc nL s args Ts own) (hM : vx_Met l y ws rm Pc Qc XC mc ms free) (cw : CallB R s args own index y bytes maxL ret ws rm mc ms n ∧ (Cond.static y).before args s = true) (hp : PreS s H Pc As)
    (hg : g.method = m) (hn : As.length = n) (hsize : g.locals.size = nL) (hstack : g.stack = As.reverse ++ rest) (hW : 2 * g.monitorRoom + (rest.map fun v => v.category).sum ≤ 8) (hdg : decode cc g.pc = .ok (.invokestatic index, 3)) (hf : cells + mc ≤ R.cells ∧ slots + ms ≤ R.slots) :
    vx_Run p l e R s m args below meth c H locs cells slots mc ms g rest (Qc As.toArray) XC free := by
  have hK : vx_Back l R p e below s args y 3 8 (PreOf R mc ms Pc) (PostOf Qc mc ms free) (vx_Post XC mc ms free) := vx_callBack cw.1 hM hp.1
  obtain ⟨⟨-, -, -, -, -, -, hcode, hini, hy, hlen, hl⟩, hstt⟩ := cw
  obtain ⟨hx, hb, hml, ho, -⟩ := S
  intro T hT X
  rcases vx_callS X hx (bytes := bytes) (maxL := maxL) (ret := ret) ho hl hstt hini hcode hy hK hg (hsize.trans hml.symm) (argsL := As) (rest := rest) (fun sig h => hn.trans (hlen sig h)) hstack hW (by rw [hb]; exact hdg)
    (fun vm₁ hW₁ => ⟨hf.1, hf.2, hp.2 (T.setVm vm₁) hT hW₁⟩) with ⟨v, vm₁, ⟨U', l2, c2, s2⟩, hW₁, X', ⟨g', mk, t, L, e1, e2, hq, h1, hL, h2, h3⟩, st⟩ | ⟨q, vm₁, ⟨U', l2, c2, s2⟩, hW₁, X', ⟨g', mk, t, L, E, ce, e1, e2, hq, hce, hcv, hcl, h1, hL, h2, h3⟩, st⟩
  · dsimp only [Pt.U, Pt.locs, Pt.cells, Pt.slots] at X' e1 e2 h1 h2 h3 st
    subst h1; subst h2; subst h3
    exact Or.inl ⟨v, (T.setVm vm₁).calling g' mk As.toArray, t, U', L, hT, X', hL, e1, e2, hq, st⟩
  · dsimp only [Pt.U, Pt.locs, Pt.cells, Pt.slots] at X' e1 e2 h1 h2 h3 st hcl
    subst h1; subst h2; subst h3
    exact Or.inr ⟨q, (T.setVm vm₁).calling g' mk As.toArray, t, U', L, E, ce, hT, X', hL, e1, e2, hq, hce, hcv, vx_cls hW₁ hcl, st⟩
end Runs
section Rows
variable {p : Program} {l : Launch} {e : Env} {R : Room} {s : State} {m : MethodId} {args : Array Value} {below : List Frame} {meth : Method} {c : Code} {H : Heap} {locs : List Loc} {cells slots : Nat} {Q : State → Prop}
variable {mc ms : Nat} {free : Addr → Prop} {A0 A1 : Nat → Prop} {H0 : Heap} {a : Array Value} {pc : Nat} {ls : Array Slot} {st0 rest : List Value}
theorem vx_keep {st₀ t T' : State} {L : List Loc} (h0 : st₀.heap = H) (e1 : T'.heap = t.heap) (hS : va_S A0 H0 H locs) (hA : ∀ q, q < H.size → A1 q → A0 q) (hf : ∀ q, free q → A0 q) (hL : ∀ q ∈ L, free q.base) (hF : va_F A1 st₀ t) :
    H.size ≤ T'.heap.size ∧ (∀ q : Nat, q < H.size → ¬ A1 q → T'.heap[q]? = H[q]?) ∧ va_S A0 H0 T'.heap (locs ++ L) := by
  obtain ⟨hz, hk⟩ := hF
  rw [h0] at hz hk
  exact ⟨by rw [e1]; exact hz, fun q h1 h2 => by rw [e1]; exact hk q h1 h2,
    ⟨Nat.le_trans hS.1 (by rw [e1]; exact hz), fun q h1 h2 => by rw [e1, hk q (Nat.lt_of_lt_of_le h1 hS.1) (fun z => h2 (hA q (Nat.lt_of_lt_of_le h1 hS.1) z))]; exact hS.2.1 q h1 h2, fun q hq => by
      rcases List.mem_append.mp hq with h | h
      · exact hS.2.2 q h
      · exact hf _ (hL q h)⟩⟩
theorem vx_calli {S SX : Type} {post : Int32 → S → Prop} {px : SX → Prop} {B : S → State → Prop} {BX : String → SX → State → Prop} {AX : Nat → Prop} (hr : vx_Run p l e R s m args below meth c H locs cells slots mc ms (F0 m pc ls st0) rest (va_Qi post B A1 a) (vx_X px BX AX) free) (hS : va_S A0 H0 H locs) (hA : ∀ q, q < H.size → A1 q → A0 q) (hf : ∀ q, free q → A0 q) (hAX : ∀ q, q < H.size → AX q → A0 q)
    (kx : ∀ (E : String) (ce : Cell) (q9 : Addr) (u : SX) (t : State) (H1 : Heap) (locs1 : List Loc), t.heap = H1 → s.vm.Alike t.vm → px u → BX E u t → H.size ≤ H1.size → (∀ q : Nat, q < H.size → ¬ AX q → H1[q]? = H[q]?) → va_S A0 H0 H1 locs1 → H1[q9]? = some ce → ce.vm = .none → s.vm.findClass E = some ce.cls → vx_W p l e R s m args below meth c H1 locs1 (cells + mc) (slots + ms) Q (F0 m pc ls rest) q9)
    (kk : ∀ (r : Int32) (u : S) (t : State) (H1 : Heap) (locs1 : List Loc), t.heap = H1 → s.vm.Alike t.vm → post r u → B u t → H.size ≤ H1.size → (∀ q : Nat, q < H.size → ¬ A1 q → H1[q]? = H[q]?) → va_S A0 H0 H1 locs1 → W p l e R s m args below meth c H1 locs1 (cells + mc) (slots + ms) Q (F0 m (pc + 3) ls (.int r :: rest))) : W p l e R s m args below meth c H locs cells slots Q (F0 m pc ls st0) := by
  intro T hT X
  rcases hr T hT X with ⟨v, st₀, t, T', L, h0, X', hL, e1, e2, ⟨⟨r, u, hv, hp, hb⟩, hF⟩, st⟩ | ⟨q, st₀, t, T', L, E, ce, h0, X', hL, e1, e2, ⟨u, hp, hb, hF⟩, hce, hcv, hcl, st⟩
  · cases hv
    obtain ⟨k1, k2, k3⟩ := vx_keep h0 e1 hS hA hf hL hF
    obtain ⟨t2, a1, b1⟩ := kk r u t T'.heap (locs ++ L) e1.symm (by rw [← e2]; exact X'.warmed.alike) hp hb k1 k2 k3 T' rfl X'
    exact ⟨t2, st t2 a1, b1⟩
  · obtain ⟨k1, k2, k3⟩ := vx_keep h0 e1 hS hAX hf hL hF
    obtain ⟨t2, a1, b1⟩ := kx E ce q u t T'.heap (locs ++ L) e1.symm (by rw [← e2]; exact X'.warmed.alike) hp hb k1 k2 k3 (by rw [e1]; exact hce) hcv hcl T' rfl X'
    exact ⟨t2, st.trans a1, b1⟩
theorem vx_calll {S SX : Type} {post : Int64 → S → Prop} {px : SX → Prop} {B : S → State → Prop} {BX : String → SX → State → Prop} {AX : Nat → Prop} (hr : vx_Run p l e R s m args below meth c H locs cells slots mc ms (F0 m pc ls st0) rest (va_Ql post B A1 a) (vx_X px BX AX) free) (hS : va_S A0 H0 H locs) (hA : ∀ q, q < H.size → A1 q → A0 q) (hf : ∀ q, free q → A0 q) (hAX : ∀ q, q < H.size → AX q → A0 q)
    (kx : ∀ (E : String) (ce : Cell) (q9 : Addr) (u : SX) (t : State) (H1 : Heap) (locs1 : List Loc), t.heap = H1 → s.vm.Alike t.vm → px u → BX E u t → H.size ≤ H1.size → (∀ q : Nat, q < H.size → ¬ AX q → H1[q]? = H[q]?) → va_S A0 H0 H1 locs1 → H1[q9]? = some ce → ce.vm = .none → s.vm.findClass E = some ce.cls → vx_W p l e R s m args below meth c H1 locs1 (cells + mc) (slots + ms) Q (F0 m pc ls rest) q9)
    (kk : ∀ (r : Int64) (u : S) (t : State) (H1 : Heap) (locs1 : List Loc), t.heap = H1 → s.vm.Alike t.vm → post r u → B u t → H.size ≤ H1.size → (∀ q : Nat, q < H.size → ¬ A1 q → H1[q]? = H[q]?) → va_S A0 H0 H1 locs1 → W p l e R s m args below meth c H1 locs1 (cells + mc) (slots + ms) Q (F0 m (pc + 3) ls (.long r :: rest))) : W p l e R s m args below meth c H locs cells slots Q (F0 m pc ls st0) := by
  intro T hT X
  rcases hr T hT X with ⟨v, st₀, t, T', L, h0, X', hL, e1, e2, ⟨⟨r, u, hv, hp, hb⟩, hF⟩, st⟩ | ⟨q, st₀, t, T', L, E, ce, h0, X', hL, e1, e2, ⟨u, hp, hb, hF⟩, hce, hcv, hcl, st⟩
  · cases hv
    obtain ⟨k1, k2, k3⟩ := vx_keep h0 e1 hS hA hf hL hF
    obtain ⟨t2, a1, b1⟩ := kk r u t T'.heap (locs ++ L) e1.symm (by rw [← e2]; exact X'.warmed.alike) hp hb k1 k2 k3 T' rfl X'
    exact ⟨t2, st t2 a1, b1⟩
  · obtain ⟨k1, k2, k3⟩ := vx_keep h0 e1 hS hAX hf hL hF
    obtain ⟨t2, a1, b1⟩ := kx E ce q u t T'.heap (locs ++ L) e1.symm (by rw [← e2]; exact X'.warmed.alike) hp hb k1 k2 k3 (by rw [e1]; exact hce) hcv hcl T' rfl X'
    exact ⟨t2, st.trans a1, b1⟩
theorem vx_callf {S SX : Type} {post : UInt32 → S → Prop} {px : SX → Prop} {B : S → State → Prop} {BX : String → SX → State → Prop} {AX : Nat → Prop} (hr : vx_Run p l e R s m args below meth c H locs cells slots mc ms (F0 m pc ls st0) rest (va_Qf post B A1 a) (vx_X px BX AX) free) (hS : va_S A0 H0 H locs) (hA : ∀ q, q < H.size → A1 q → A0 q) (hf : ∀ q, free q → A0 q) (hAX : ∀ q, q < H.size → AX q → A0 q)
    (kx : ∀ (E : String) (ce : Cell) (q9 : Addr) (u : SX) (t : State) (H1 : Heap) (locs1 : List Loc), t.heap = H1 → s.vm.Alike t.vm → px u → BX E u t → H.size ≤ H1.size → (∀ q : Nat, q < H.size → ¬ AX q → H1[q]? = H[q]?) → va_S A0 H0 H1 locs1 → H1[q9]? = some ce → ce.vm = .none → s.vm.findClass E = some ce.cls → vx_W p l e R s m args below meth c H1 locs1 (cells + mc) (slots + ms) Q (F0 m pc ls rest) q9)
    (kk : ∀ (r : UInt32) (u : S) (t : State) (H1 : Heap) (locs1 : List Loc), t.heap = H1 → s.vm.Alike t.vm → post r u → B u t → H.size ≤ H1.size → (∀ q : Nat, q < H.size → ¬ A1 q → H1[q]? = H[q]?) → va_S A0 H0 H1 locs1 → W p l e R s m args below meth c H1 locs1 (cells + mc) (slots + ms) Q (F0 m (pc + 3) ls (.float r :: rest))) : W p l e R s m args below meth c H locs cells slots Q (F0 m pc ls st0) := by
  intro T hT X
  rcases hr T hT X with ⟨v, st₀, t, T', L, h0, X', hL, e1, e2, ⟨⟨r, u, hv, hp, hb⟩, hF⟩, st⟩ | ⟨q, st₀, t, T', L, E, ce, h0, X', hL, e1, e2, ⟨u, hp, hb, hF⟩, hce, hcv, hcl, st⟩
  · cases hv
    obtain ⟨k1, k2, k3⟩ := vx_keep h0 e1 hS hA hf hL hF
    obtain ⟨t2, a1, b1⟩ := kk r u t T'.heap (locs ++ L) e1.symm (by rw [← e2]; exact X'.warmed.alike) hp hb k1 k2 k3 T' rfl X'
    exact ⟨t2, st t2 a1, b1⟩
  · obtain ⟨k1, k2, k3⟩ := vx_keep h0 e1 hS hAX hf hL hF
    obtain ⟨t2, a1, b1⟩ := kx E ce q u t T'.heap (locs ++ L) e1.symm (by rw [← e2]; exact X'.warmed.alike) hp hb k1 k2 k3 (by rw [e1]; exact hce) hcv hcl T' rfl X'
    exact ⟨t2, st.trans a1, b1⟩
theorem vx_calld {S SX : Type} {post : UInt64 → S → Prop} {px : SX → Prop} {B : S → State → Prop} {BX : String → SX → State → Prop} {AX : Nat → Prop} (hr : vx_Run p l e R s m args below meth c H locs cells slots mc ms (F0 m pc ls st0) rest (va_Qd post B A1 a) (vx_X px BX AX) free) (hS : va_S A0 H0 H locs) (hA : ∀ q, q < H.size → A1 q → A0 q) (hf : ∀ q, free q → A0 q) (hAX : ∀ q, q < H.size → AX q → A0 q)
    (kx : ∀ (E : String) (ce : Cell) (q9 : Addr) (u : SX) (t : State) (H1 : Heap) (locs1 : List Loc), t.heap = H1 → s.vm.Alike t.vm → px u → BX E u t → H.size ≤ H1.size → (∀ q : Nat, q < H.size → ¬ AX q → H1[q]? = H[q]?) → va_S A0 H0 H1 locs1 → H1[q9]? = some ce → ce.vm = .none → s.vm.findClass E = some ce.cls → vx_W p l e R s m args below meth c H1 locs1 (cells + mc) (slots + ms) Q (F0 m pc ls rest) q9)
    (kk : ∀ (r : UInt64) (u : S) (t : State) (H1 : Heap) (locs1 : List Loc), t.heap = H1 → s.vm.Alike t.vm → post r u → B u t → H.size ≤ H1.size → (∀ q : Nat, q < H.size → ¬ A1 q → H1[q]? = H[q]?) → va_S A0 H0 H1 locs1 → W p l e R s m args below meth c H1 locs1 (cells + mc) (slots + ms) Q (F0 m (pc + 3) ls (.double r :: rest))) : W p l e R s m args below meth c H locs cells slots Q (F0 m pc ls st0) := by
  intro T hT X
  rcases hr T hT X with ⟨v, st₀, t, T', L, h0, X', hL, e1, e2, ⟨⟨r, u, hv, hp, hb⟩, hF⟩, st⟩ | ⟨q, st₀, t, T', L, E, ce, h0, X', hL, e1, e2, ⟨u, hp, hb, hF⟩, hce, hcv, hcl, st⟩
  · cases hv
    obtain ⟨k1, k2, k3⟩ := vx_keep h0 e1 hS hA hf hL hF
    obtain ⟨t2, a1, b1⟩ := kk r u t T'.heap (locs ++ L) e1.symm (by rw [← e2]; exact X'.warmed.alike) hp hb k1 k2 k3 T' rfl X'
    exact ⟨t2, st t2 a1, b1⟩
  · obtain ⟨k1, k2, k3⟩ := vx_keep h0 e1 hS hAX hf hL hF
    obtain ⟨t2, a1, b1⟩ := kx E ce q u t T'.heap (locs ++ L) e1.symm (by rw [← e2]; exact X'.warmed.alike) hp hb k1 k2 k3 (by rw [e1]; exact hce) hcv hcl T' rfl X'
    exact ⟨t2, st.trans a1, b1⟩
theorem vx_callv {S SX : Type} {post : S → Prop} {px : SX → Prop} {B : S → State → Prop} {BX : String → SX → State → Prop} {AX : Nat → Prop} (hr : vx_Run p l e R s m args below meth c H locs cells slots mc ms (F0 m pc ls st0) rest (va_Qv post B A1 a) (vx_X px BX AX) free) (hS : va_S A0 H0 H locs) (hA : ∀ q, q < H.size → A1 q → A0 q) (hf : ∀ q, free q → A0 q) (hAX : ∀ q, q < H.size → AX q → A0 q)
    (kx : ∀ (E : String) (ce : Cell) (q9 : Addr) (u : SX) (t : State) (H1 : Heap) (locs1 : List Loc), t.heap = H1 → s.vm.Alike t.vm → px u → BX E u t → H.size ≤ H1.size → (∀ q : Nat, q < H.size → ¬ AX q → H1[q]? = H[q]?) → va_S A0 H0 H1 locs1 → H1[q9]? = some ce → ce.vm = .none → s.vm.findClass E = some ce.cls → vx_W p l e R s m args below meth c H1 locs1 (cells + mc) (slots + ms) Q (F0 m pc ls rest) q9)
    (kk : ∀ (u : S) (t : State) (H1 : Heap) (locs1 : List Loc), t.heap = H1 → s.vm.Alike t.vm → post u → B u t → H.size ≤ H1.size → (∀ q : Nat, q < H.size → ¬ A1 q → H1[q]? = H[q]?) → va_S A0 H0 H1 locs1 → W p l e R s m args below meth c H1 locs1 (cells + mc) (slots + ms) Q (F0 m (pc + 3) ls (rest))) : W p l e R s m args below meth c H locs cells slots Q (F0 m pc ls st0) := by
  intro T hT X
  rcases hr T hT X with ⟨v, st₀, t, T', L, h0, X', hL, e1, e2, ⟨⟨u, hv, hp, hb⟩, hF⟩, st⟩ | ⟨q, st₀, t, T', L, E, ce, h0, X', hL, e1, e2, ⟨u, hp, hb, hF⟩, hce, hcv, hcl, st⟩
  · cases hv
    obtain ⟨k1, k2, k3⟩ := vx_keep h0 e1 hS hA hf hL hF
    obtain ⟨t2, a1, b1⟩ := kk u t T'.heap (locs ++ L) e1.symm (by rw [← e2]; exact X'.warmed.alike) hp hb k1 k2 k3 T' rfl X'
    exact ⟨t2, st t2 a1, b1⟩
  · obtain ⟨k1, k2, k3⟩ := vx_keep h0 e1 hS hAX hf hL hF
    obtain ⟨t2, a1, b1⟩ := kx E ce q u t T'.heap (locs ++ L) e1.symm (by rw [← e2]; exact X'.warmed.alike) hp hb k1 k2 k3 (by rw [e1]; exact hce) hcv hcl T' rfl X'
    exact ⟨t2, st.trans a1, b1⟩
/-- caught by the row x of this method's table; the rows ahead don't take it -/
theorem vx_catch {own name : String} {E : String} {ce : Cell} {q : Addr} (hown : s.vm.findClass own = some m.cls) (pre : List ExceptionTableEntry) (x : ExceptionTableEntry) (suf : List ExceptionTableEntry) (hsplit : c.exceptionTable.toList = pre ++ x :: suf)
    (hpass : ∀ z ∈ pre, covers z pc = false ∨ (z.catchType ≠ 0 ∧ ∃ nm : String, (Cond.classLink own z.catchType nm).before args s = true ∧ va_Nc E nm s)) (hx : covers x pc = true) (h0 : x.catchType ≠ 0)
    (hlink : (Cond.classLink own x.catchType name).before args s = true) (hcast : (Cond.castable E name).before args s = true) (hcell : H[q]? = some ce) (hv : ce.vm = .none) (hcl : s.vm.findClass E = some ce.cls)
    (kk : W p l e R s m args below meth c H locs cells slots Q (F0 m x.handlerPc ls [.ref q])) : vx_W p l e R s m args below meth c H locs cells slots Q (F0 m pc ls rest) q := by
  intro T hT X
  have hpl : e.platform.magicAccessors = ({} : Platform).magicAccessors := by rw [X.admits.platform]
  obtain ⟨c3, c4, hc3, hc4, hasg⟩ := Cond.castable_spec hcast
  cases Option.some.inj (hc3.symm.trans hcl)
  obtain ⟨c5, hc5, hcl5⟩ := Cond.classLink_spec hown hlink e.platform hpl
  cases Option.some.inj (hc4.symm.trans hc5)
  obtain ⟨vm', X', st⟩ := X.thenCaughtThrough q (g := F0 m pc ls rest) rfl (Steps.refl _) (by rw [hT]; exact hcell) (by rw [hv]; rfl) (by obtain ⟨k9, h9, -⟩ := Vm.findClass_spec hcl; exact ⟨k9, h9⟩) pre x suf hsplit
    (fun z hz => by
      rcases hpass z hz with h | ⟨hz0, nm, hl1, hn1⟩
      · exact Or.inl h
      · obtain ⟨c6, hc6, hcl6⟩ := Cond.classLink_spec hown hl1 e.platform hpl
        obtain ⟨a8, b8, h1, h2, h3⟩ := hn1
        cases Option.some.inj (h1.symm.trans hcl)
        cases Option.some.inj (h2.symm.trans hc6)
        exact Or.inr ⟨hz0, _, hcl6, h3⟩) hx (Or.inr ⟨h0, c4, hcl5, hasg⟩)
  obtain ⟨t, a1, b1⟩ := kk (T.setVm vm') hT X'
  exact ⟨t, st.trans a1, b1⟩
end Rows
section Ends
variable {p : Program} {l : Launch} {e : Env} {R : Room} {s : State} {m : MethodId} {args : Array Value} {below : List Frame} {meth : Method} {c : Code} {H : Heap} {locs : List Loc} {cells slots : Nat} {Q : State → Prop}
variable {mc ms : Nat} {free : Addr → Prop} {A0 A1 : Nat → Prop} {H0 : Heap} {a : Array Value} {ls : Array Slot} {st0 rest : List Value}
variable {Qc : Array Value → State → Outcome → State → Prop} {XC : String → State → State → Prop}
/-- what a body that may throw owes at its end -/
def vx_MQ (below : List Frame) (Qc : Array Value → State → Outcome → State → Prop) (XC : String → State → State → Prop) (a : Array Value) (s : State) (mc ms : Nat) (free : Addr → Prop) : State → Prop := fun t =>
  ∃ o, t.status = .running ∧ Ended t below o ∧ vx_Q Qc XC mc ms free a s o t
theorem vx_ret {g : JFrame} {mc ms : Nat} (k : W p l e R s m args below meth c H locs cells slots (MQ below Qc args s mc ms free) g) : W p l e R s m args below meth c H locs cells slots (vx_MQ below Qc XC args s mc ms free) g := by
  intro T hT X
  obtain ⟨t, a1, o, b1, b2, b3, b4⟩ := k T hT X
  exact ⟨t, a1, o, b1, b2, Or.inl ⟨b3, b4⟩⟩
/-- not caught here: it goes on to the caller -/
theorem vx_widen {g : JFrame} {q : Addr} {k n : Nat} (h1 : cells ≤ k) (h2 : slots ≤ n) (kk : vx_W p l e R s m args below meth c H locs k n Q g q) : vx_W p l e R s m args below meth c H locs cells slots Q g q := fun T hT X => kk T hT (stand_widen X h1 h2)
theorem vx_out {pc : Nat} {E : String} {ce : Cell} {q : Addr} {mc ms : Nat} (hout : ∀ x ∈ c.exceptionTable.toList, covers x pc = false) (hlocks : meth.locks = false) (hcell : H[q]? = some ce) (hv : ce.vm = .none) (hcl : s.vm.findClass E = some ce.cls)
    (hx : ∀ t : State, t.heap = H → s.vm.Alike t.vm → XC E s t) (hf : ∀ z ∈ locs, free z.base) (hc : cells ≤ mc) (hs : slots ≤ ms) :
    vx_W p l e R s m args below meth c H locs cells slots (vx_MQ below Qc XC args s mc ms free) (F0 m pc ls rest) q := by
  intro T hT X
  obtain ⟨st1, hrun, hend, hW, hsm⟩ := X.leaveThrown q (g := F0 m pc ls rest) rfl rfl rfl hout hlocks
  have hcell9 : (T.setFrames (.throwing q :: below)).heap[q]? = some ce := by
    show T.heap[q]? = some ce
    rw [hT]; exact hcell
  exact ⟨_, st1, .threw q, hrun, hend, Or.inr ⟨q, rfl, E, ce, locs, hx _ hT hW.alike, hcell9, hv, hcl, hW, hsm.mono hc hs, hf⟩⟩
theorem vx_frame {U : State} {k n : Nat} (h : s.sameButNew ({ U with vm := s.vm } : State) locs k n) : s.heap.size ≤ U.heap.size ∧ ∀ q : Nat, q < s.heap.size → (∀ z ∈ locs, z.base ≠ q) → U.heap[q]? = s.heap[q]? := by
  obtain ⟨-, h2, -, -, -, h6⟩ := h
  refine ⟨h2, fun q hq hz => ?_⟩
  obtain ⟨c9, e1, e2, e3, e4⟩ := h6 q _ (Array.getElem?_eq_getElem hq)
  have hs : c9.slots = (s.heap[q]).slots := Array.ext_getElem? fun i => e4 i fun hm => hz _ hm rfl
  have h9 : c9 = s.heap[q] := by
    rw [hs] at e2
    exact e2
  have e5 : U.heap[q]? = some c9 := e1
  rw [e5, h9, Array.getElem?_eq_getElem hq]
/-- the words of a throw but the four that speak of the heap -/
def vx_no (w : Cond) : Bool := decide (w ≠ .isRef (.static Bundle.tN "UNASSIGNED_STACK" Bundle.steD)) && decide (w ≠ .isRef (.static Bundle.tN "SUPPRESSED_SENTINEL" Bundle.listD)) && decide (w ≠ .laysStatic Bundle.tN "UNASSIGNED_STACK" Bundle.steD) && decide (w ≠ .laysStatic Bundle.tN "SUPPRESSED_SENTINEL" Bundle.listD)
def vx_at0 (own : String) (ic : Nat) (X : String) (names : List String) : List Cond := (Bundle.ownAtoms0 own ic X names).filter vx_no
def vx_atS (own : String) (ic : Nat) (X : String) (names : List String) : List Cond := (Bundle.ownAtoms own ic X names).filter vx_no
/-- a word that the tables alone decide, or a good one -/
def vx_ot (w : Cond) : Bool := w.onTables || goodWord w
theorem vx_ot_at {args a' : Array Value} {s U : State} {w : Cond} (hW : s.WarmedH U.vm) (hvm : s.vm = U.vm) (hg : vx_ot w = true) (h : w.before args s = true) : w.before a' U = true := by
  simp only [vx_ot, Bool.or_eq_true] at hg
  rcases hg with hg | hg
  · exact va_tabs hg hvm h
  · exact word_at hW (good_of_word hg) h
/-- a list's words: the good ones out of the method's own list, the others by premises of their own -/
theorem vx_hat {args : Array Value} {s : State} {L B : List Cond} (h1 : ∀ w ∈ L.filter goodWord, w.before args s = true) (h2 : ∀ w ∈ L.filter (fun w => !goodWord w), w ∈ B) (h3 : ∀ w ∈ B, w.before args s = true) : ∀ w ∈ L, w.before args s = true := by
  intro w hw
  by_cases g : goodWord w = true
  · exact h1 w (List.mem_filter.mpr ⟨hw, g⟩)
  · refine h3 w (h2 w (List.mem_filter.mpr ⟨hw, ?_⟩))
    show (!goodWord w) = true
    cases hgw : goodWord w
    · rfl
    · exact absurd hgw g
theorem vx_c {args : Array Value} {s : State} {w : Cond} {B : List Cond} (h : w.before args s = true) (t : ∀ w ∈ B, w.before args s = true) : ∀ w' ∈ w :: B, w'.before args s = true := fun w' h' => (List.mem_cons.mp h').elim (fun e => by rw [e]; exact h) (t w')
theorem vx_n {args : Array Value} {s : State} : ∀ w ∈ ([] : List Cond), w.before args s = true := fun _ h => nomatch h
theorem vx_own {args : Array Value} {s : State} {L : List Cond} (h1 : ∀ w ∈ L.filter vx_no, w.before args s = true)
    (hU : (Cond.isRef (.static Bundle.tN "UNASSIGNED_STACK" Bundle.steD)).before args s = true) (hN : (Cond.isRef (.static Bundle.tN "SUPPRESSED_SENTINEL" Bundle.listD)).before args s = true)
    (lU : (Cond.laysStatic Bundle.tN "UNASSIGNED_STACK" Bundle.steD).before args s = true) (lN : (Cond.laysStatic Bundle.tN "SUPPRESSED_SENTINEL" Bundle.listD).before args s = true) : ∀ w ∈ L, w.before args s = true := by
  intro w hw
  by_cases e1 : w = .isRef (.static Bundle.tN "UNASSIGNED_STACK" Bundle.steD)
  · rw [e1]; exact hU
  · by_cases e2 : w = .isRef (.static Bundle.tN "SUPPRESSED_SENTINEL" Bundle.listD)
    · rw [e2]; exact hN
    · by_cases e3 : w = .laysStatic Bundle.tN "UNASSIGNED_STACK" Bundle.steD
      · rw [e3]; exact lU
      · by_cases e4 : w = .laysStatic Bundle.tN "SUPPRESSED_SENTINEL" Bundle.listD
        · rw [e4]; exact lN
        · exact h1 w (List.mem_filter.mpr ⟨hw, by unfold vx_no; rw [decide_eq_true e1, decide_eq_true e2, decide_eq_true e3, decide_eq_true e4]; rfl⟩)
/-- where a static field lies, its class's statics cell in H -/
def vx_L (C n d : String) (A : Nat → Prop) (U : State) (H : Heap) : Prop := ∃ (c : ClassId) (k : Class) (i : Nat) (f : Field) (a : Nat) (cell : Cell), U.vm.findClass C = some c ∧ U.fieldFound? C n d = some (c, k, i, f) ∧ f.isStatic = true ∧ k.statics = some a ∧ H[a]? = some cell ∧ cell.vm.isStatics = true ∧ cell.cls = c ∧ f.slot < cell.slots.size ∧ k.staticTypes[f.slot]? = some f.type ∧ ¬ A a
theorem vx_L.moved {C n d : String} {A : Nat → Prop} {u U : State} {H : Heap} (hvm : u.vm.Alike U.vm) (h : vx_L C n d A u H) : vx_L C n d A U H := by
  obtain ⟨c, k, i, f, a, cell, h1, h2, h3, h4, h5, h6, h7, h8, h9, h10⟩ := h
  obtain ⟨k', hi', he⟩ := State.fieldFound?_setVm hvm h2
  exact ⟨c, k', i, f, a, cell, by rw [hvm.findClass]; exact h1, hi', h3, by rw [he]; exact h4, h5, h6, h7, h8, by rw [he]; exact h9, h10⟩
theorem vx_L.kept {C n d : String} {A : Nat → Prop} {U : State} {H H1 : Heap} (h : vx_L C n d A U H) (hq : ∀ a : Nat, a < H.size → ¬ A a → H1[a]? = H[a]?) : vx_L C n d A U H1 := by
  obtain ⟨c, k, i, f, a, cell, h1, h2, h3, h4, h5, h6, h7, h8, h9, h10⟩ := h
  exact ⟨c, k, i, f, a, cell, h1, h2, h3, h4, by rw [hq a (Array.getElem?_eq_some_iff.mp h5).1 h10]; exact h5, h6, h7, h8, h9, h10⟩
theorem vx_L.narrow {C n d : String} {A B : Nat → Prop} {U : State} {H : Heap} (h : vx_L C n d A U H) (hAB : ∀ q, B q → A q) : vx_L C n d B U H := by
  obtain ⟨c, k, i, f, a, cell, h1, h2, h3, h4, h5, h6, h7, h8, h9, h10⟩ := h
  exact ⟨c, k, i, f, a, cell, h1, h2, h3, h4, h5, h6, h7, h8, h9, fun z => h10 (hAB _ z)⟩
theorem vx_L.word {C n d : String} {A : Nat → Prop} {s : State} {args : Array Value} (h : vx_L C n d A s s.heap) : (Cond.laysStatic C n d).before args s = true := by
  obtain ⟨c, k, i, f, a, cell, h1, h2, h3, h4, h5, h6, h7, h8, h9, -⟩ := h
  show (Cond.laysStatic C n d).holds args s none s [] = true
  exact Cond.laysStatic_of h1 h2 h3 h4 h5 h6 h7 h8 h9
/-- .. and what it holds: null or some reference -/
def vx_Zq (C n d : String) (A : Nat → Prop) (U : State) (H : Heap) : Prop := va_Zq C n d A U H ∧ vx_L C n d A U H
theorem vx_Zq.moved {C n d : String} {A : Nat → Prop} {u U : State} {H : Heap} (hvm : u.vm.Alike U.vm) (h : vx_Zq C n d A u H) : vx_Zq C n d A U H := ⟨va_Zq.moved hvm h.1, vx_L.moved hvm h.2⟩
theorem vx_Zq.kept {C n d : String} {A : Nat → Prop} {U : State} {H H1 : Heap} (h : vx_Zq C n d A U H) (hq : ∀ a : Nat, a < H.size → ¬ A a → H1[a]? = H[a]?) : vx_Zq C n d A U H1 := ⟨va_Zq.kept h.1 hq, vx_L.kept h.2 hq⟩
theorem vx_Zq.narrow {C n d : String} {A B : Nat → Prop} {U : State} {H : Heap} (h : vx_Zq C n d A U H) (hAB : ∀ q, B q → A q) : vx_Zq C n d B U H := ⟨va_Zq.narrow h.1 hAB, vx_L.narrow h.2 hAB⟩
theorem vx_Zqof {args : Array Value} {s : State} {C n d : String} {A : Nat → Prop} (hl : (Cond.laysStatic C n d).before args s = true) (hini : (Cond.initialized C).before args s = true) (h : (Cond.isRef (.static C n d)).before args s = true) (hA : ∀ a : Nat, a < s.heap.size → ¬ A a) : vx_Zq C n d A s s.heap := by
  refine ⟨va_Zqof hl hini h hA, ?_⟩
  obtain ⟨c, k, i, f, a, cell, h1, h2, h3, h4, h5, h6, h7, h8, h9⟩ := Cond.laysStatic_spec hl
  exact ⟨c, k, i, f, a, cell, h1, h2, h3, h4, h5, h6, h7, h8, h9, hA a (Array.getElem?_eq_some_iff.mp h5).1⟩
theorem vx_isRef {C n d : String} {v : Value} {A : Nat → Prop} {s : State} {args : Array Value} (h : va_Z C n d v A s s.heap) (hv : v.isRef = true) : (Cond.isRef (.static C n d)).before args s = true := by
  obtain ⟨cf, kf, fi, f, a, cell, h1, h2, h3, h4, h5, h6, h7, -⟩ := h
  have he : (Term.static C n d).eval args s none [] s = some v := by
    simp [Term.eval, State.fieldNamed?, h1, h2, h4, h5, h6, h7]
  simp only [Cond.before, Cond.holds, Cond.value, he]
  cases v <;> simp_all [Value.isRef]
theorem vx_isRefq {C n d : String} {A : Nat → Prop} {s : State} {args : Array Value} (h : va_Zq C n d A s s.heap) : (Cond.isRef (.static C n d)).before args s = true := by
  rcases h with h | ⟨t, h⟩
  · exact vx_isRef h rfl
  · exact vx_isRef h rfl
/-- the same frame, seen from here: as if the method were called anew in this heap -/
theorem vx_rebase {T : State} (X : Stand p l e R s m args below meth c T locs cells slots) {R' : Room} (hf : R'.frames ≤ R.frames) (hl : R'.locals ≤ R.locals) (hc : cells + R'.cells ≤ R.cells) (hs : slots + R'.slots ≤ R.slots) :
    Stand p l e R' ((T.setVm s.vm).setFrames (.invoking m args :: below)) m args below meth c T [] 0 0 := by
  have htop : (T.setVm s.vm).topJava?.isSome := X.here.top
  have hF : ((T.setVm s.vm).setFrames (.invoking m args :: below)).frames = .invoking m args :: below := State.frames_setFrames _ (State.cur_lt_of_top htop)
  obtain ⟨g₀, hg0⟩ := Option.isSome_iff_exists.mp htop
  obtain ⟨r, hr⟩ := State.topJava?_eq_some.mp hg0
  have hl9 : e.platform.stackLimits (T.setVm s.vm).me = e.platform.stackLimits s.me := X.limits
  have hb9 : (T.setVm s.vm).me.stackBytes = s.me.stackBytes := X.bytes
  refine ⟨X.admits, X.cas, X.clock, hF, ?_, X.hears, X.method, X.code, X.here, X.tail, X.warmed, ?_, ?_, ?_⟩
  · have h := X.room
    have hU : ((T.setVm s.vm).setFrames (.invoking m args :: below)).localsInUse = s.localsInUse := by
      rw [State.localsInUse_invoking hF (meth := meth) (c := c) X.method X.code, State.localsInUse_invoking X.frames X.method X.code]
    simp only [State.hasRoom, Bool.and_eq_true, decide_eq_true_eq] at h ⊢
    obtain ⟨⟨⟨⟨h1, h2, h3, h4, h5, h6⟩, h7⟩, h8⟩, h9⟩ := h
    rw [X.frames, List.length_cons] at h2 h3
    have q1 := X.heapSize
    have q2 := X.used
    simp only [hF, hU, List.length_cons, State.stackLimits_setFrames, State.stackBytes_setFrames, hl9, hb9]
    refine ⟨⟨⟨⟨by omega, by omega, by omega, by omega, by omega, h6⟩, ?_⟩, ?_⟩, X.book⟩
    · show T.heap.size + R'.cells ≤ e.platform.maxCells
      omega
    · show T.slotsUsed + R'.slots ≤ e.platform.maxSlots
      omega
  · rw [State.stackLimits_setFrames]; rfl
  · rw [State.stackBytes_setFrames]; rfl
  · refine ⟨?_, Nat.le_refl _, Nat.le_refl _, ?_, ?_, fun a c9 h9 => ⟨c9, h9, rfl, rfl, fun _ _ => rfl⟩⟩
    · obtain ⟨t, ht, -⟩ := State.frames_cons hr
      show T.setVm s.vm = { ((T.setVm s.vm).setFrames (.invoking m args :: below)).setFrames (T.setVm s.vm).frames with heap := T.heap, slotsUsed := T.slotsUsed }
      rw [State.setFrames_setFrames, State.setFrames_self ht]
      rfl
    · show T.slotsUsed = T.slotsUsed + ((T.heap.toList.drop T.heap.size).map (·.slots.size)).sum
      rw [List.drop_eq_nil_of_le (Nat.le_of_eq Array.length_toList)]
      rfl
    · show ((T.heap.toList.drop T.heap.size).map (·.slots.size)).sum ≤ 0
      rw [List.drop_eq_nil_of_le (Nat.le_of_eq Array.length_toList)]
      exact Nat.le_refl _
/-- 'throw new E()': new; dup; invokespecial; athrow -/
theorem vx_throw0 {cc : ByteArray} {pc : Nat} (hexec : p.tables.exec = Jvm.exec) (hb : c.code = cc) (hl : l.stackTraces = false) {own cls : String} {names : List String} {ik ic mc ms : Nat} {A : Nat → Prop}
    (hown : s.vm.findClass own = some m.cls) (hcls : Bundle.fit cls = true) (hnames : ∀ n ∈ names, Bundle.fit n = true)
    (hk : (Cond.classLink own ik cls).before args s = true) (hini : (Cond.initialized cls).before args s = true) (hat : ∀ w ∈ vx_at0 own ic cls names, w.before args s = true)
    (hgood : ∀ w ∈ Cond.classLink own ik cls :: Cond.initialized cls :: vx_at0 own ic cls names, vx_ot w = true)
    (hU : vx_Zq Bundle.tN "UNASSIGNED_STACK" Bundle.steD A s s.heap) (hN : vx_Zq Bundle.tN "SUPPRESSED_SENTINEL" Bundle.listD A s s.heap) (hS : va_S A s.heap H locs) (hsize : ls.size = c.maxLocals)
    (d0 : decode cc pc = .ok (.new ik, 3)) (d3 : decode cc (pc + 3) = .ok (.dup, 1)) (d4 : decode cc (pc + 4) = .ok (.invokespecial ic, 3)) (d7 : decode cc (pc + 7) = .ok (.athrow, 1))
    (hout : ∀ x ∈ c.exceptionTable.toList, covers x (pc + 7) = false)
    (hRframes : names.length + 3 < R.frames) (hRlocals : (rest.map fun v => v.category).sum + (13 * (names.length + 1) + 42) ≤ R.locals) (hRcells : cells + 1 ≤ R.cells) (hRslots : slots + 6 ≤ R.slots) (hlocks : meth.locks = false)
    (hx : ∀ t : State, s.vm.Alike t.vm → H.size ≤ t.heap.size → (∀ q : Nat, q < H.size → t.heap[q]? = H[q]?) → XC cls s t)
    (hf : ∀ z ∈ locs, free z.base) (hc : cells + 1 ≤ mc) (hs : slots + 6 ≤ ms) :
    W p l e R s m args below meth c H locs cells slots (vx_MQ below Qc XC args s mc ms free) (F0 m pc ls rest) := by
  intro T hT X
  have htr : e.platform.stackTraces = false := (show e.platform.stackTraces = l.stackTraces by rw [X.admits.platform]).trans hl
  have Y := vx_rebase X (R' := { frames := R.frames, locals := R.locals, cells := 1, slots := 6 }) (Nat.le_refl _) (Nat.le_refl _) hRcells hRslots
  obtain ⟨s', hA⟩ : ∃ z, z = (T.setVm s.vm).setFrames (.invoking m args :: below) := ⟨_, rfl⟩
  rw [← hA] at Y
  have hvm : s'.vm = s.vm := by rw [hA]; rfl
  have hhp : s'.heap = H := by rw [hA]; exact hT
  have hW0 : s.WarmedH s'.vm := by rw [hvm]; exact State.WarmedH.refl s
  have hat' : ∀ w ∈ vx_at0 own ic cls names, w.before args s' = true := fun w hw => vx_ot_at hW0 hvm.symm (hgood w (List.mem_cons_of_mem _ (List.mem_cons_of_mem _ hw))) (hat w hw)
  have hk' : (Cond.classLink own ik cls).before args s' = true := vx_ot_at hW0 hvm.symm (hgood _ List.mem_cons_self) hk
  have hini' : (Cond.initialized cls).before args s' = true := vx_ot_at hW0 hvm.symm (hgood _ (List.mem_cons_of_mem _ List.mem_cons_self)) hini
  have hU' : vx_Zq Bundle.tN "UNASSIGNED_STACK" Bundle.steD A s' s'.heap := by rw [hhp]; exact vx_Zq.moved hW0.alike (hU.kept hS.2.1)
  have hN' : vx_Zq Bundle.tN "SUPPRESSED_SENTINEL" Bundle.listD A s' s'.heap := by rw [hhp]; exact vx_Zq.moved hW0.alike (hN.kept hS.2.1)
  have h : ∀ w ∈ Bundle.ownAtoms0 own ic cls names, w.before args s' = true := vx_own hat' (vx_isRefq hU'.1) (vx_isRefq hN'.1) hU'.2.word hN'.2.word
  have hown' : s'.vm.findClass own = some m.cls := by rw [hvm]; exact hown
  have hins : (Cond.instantiable cls 6).before args s' = true := h _ (by simp [Bundle.ownAtoms0])
  obtain ⟨vm₁, cX, kX, hfX, hkX, -, -, X₁, st1⟩ := Y.newCold hexec (own := own) (C := cls) (index := ik) (n := 6) hown' hk' hins hini'
    (g := F0 m pc ls rest) rfl (by rw [hb]; exact d0) (Nat.le_refl _) (Nat.le_refl _)
  generalize hT1 : (T.setVm vm₁).pushCell { cls := cX, slots := kX.instanceTypes.map defaultValue, vm := .none } = T1 at X₁ st1
  have hcat : (Value.ref T.heap.size).category = 1 := rfl
  have hcellA : T1.heap[T.heap.size]? = some (freshCell cX kX) := by rw [← hT1]; exact State.heap_pushCell_size _ _
  have d3' : decode c.code (pc + 3) = .ok (.dup, 1) := by rw [hb]; exact d3
  obtain ⟨U, hsteps, hrun, hend, hW, hsame, ce, hce, hO⟩ := X₁.ctorThrow0 hexec htr (own := own) (cls := cls) (names := names) (ic := ic) hown' hcls hnames h (fun x hx => nomatch hx) hfX hkX hcellA (by rw [hhp, hT]; exact Nat.le_refl _)
    (g := { method := m, pc := pc + 4, locals := ls, stack := .ref T.heap.size :: .ref T.heap.size :: rest, locked := none }) rfl hsize rfl rfl (rest := rest) rfl
    (by rw [hb]; exact d4) (by rw [hb]; exact d7) hout hRframes (by simp only [List.map_cons, List.sum_cons, hcat]; omega) hlocks
  obtain ⟨f1, f2⟩ := vx_frame hsame
  rw [hhp] at f1 f2
  have hWs : s.WarmedH U.vm := State.WarmedH.trans hW0 hW
  have hcl : s.vm.findClass cls = some ce.cls := by
    have h9 := hO.cls
    rw [hvm] at h9
    exact h9
  have hall : s.sameButNew ({ U with vm := s.vm } : State) locs mc ms := by
    subst hA
    obtain ⟨e1, e2⟩ := hsame
    rw [State.setFrames_setFrames] at e1
    have h2 : (T.setVm s.vm).sameButNew ({ U with vm := s.vm } : State) [] (0 + 1) (0 + 6) := ⟨e1, e2⟩
    have h3 := X.same.trans h2
    rw [List.append_nil] at h3
    exact h3.mono hc hs
  refine ⟨U, ?_, .threw T.heap.size, hrun, hend, Or.inr ⟨T.heap.size, rfl, cls, ce, locs, hx U hWs.alike f1 (fun q hq => f2 q hq (fun z hz => nomatch hz)), hce, hO.vm, hcl, hWs, hall, hf⟩⟩
  refine st1 _ ?_
  show Steps p.tables e below (T1.setTop { method := m, pc := pc + 3, locals := ls, stack := .ref T.heap.size :: rest, locked := none }) _
  jvm_step X₁.here [X₁.here.top, hexec, d3', Value.category]
  exact hsteps
/-- 'throw new E("text")': new; dup; ldc; invokespecial; athrow -/
theorem vx_throwS {cc : ByteArray} {pc : Nat} (hexec : p.tables.exec = Jvm.exec) (hb : c.code = cc) (hl : l.stackTraces = false) {own cls text : String} {names : List String} {ik is ic mc ms sa : Nat} {A : Nat → Prop}
    (hown : s.vm.findClass own = some m.cls) (hcls : Bundle.fit cls = true) (hnames : ∀ n ∈ names, Bundle.fit n = true)
    (hk : (Cond.classLink own ik cls).before args s = true) (hini : (Cond.initialized cls).before args s = true) (hstr : vk_R own is text sa s) (hat : ∀ w ∈ vx_atS own ic cls names, w.before args s = true)
    (hgood : ∀ w ∈ Cond.classLink own ik cls :: Cond.initialized cls :: vx_atS own ic cls names, vx_ot w = true)
    (hU : vx_Zq Bundle.tN "UNASSIGNED_STACK" Bundle.steD A s s.heap) (hN : vx_Zq Bundle.tN "SUPPRESSED_SENTINEL" Bundle.listD A s s.heap) (hS : va_S A s.heap H locs) (hsize : ls.size = c.maxLocals)
    (d0 : decode cc pc = .ok (.new ik, 3)) (d3 : decode cc (pc + 3) = .ok (.dup, 1)) (d4 : decode cc (pc + 4) = .ok (.ldc is, 2)) (d6 : decode cc (pc + 6) = .ok (.invokespecial ic, 3)) (d9 : decode cc (pc + 9) = .ok (.athrow, 1))
    (hout : ∀ x ∈ c.exceptionTable.toList, covers x (pc + 9) = false)
    (hRframes : names.length + 3 < R.frames) (hRlocals : (rest.map fun v => v.category).sum + (13 * (names.length + 1) + 43) ≤ R.locals) (hRcells : cells + 1 ≤ R.cells) (hRslots : slots + 6 ≤ R.slots) (hlocks : meth.locks = false)
    (hx : ∀ t : State, s.vm.Alike t.vm → H.size ≤ t.heap.size → (∀ q : Nat, q < H.size → t.heap[q]? = H[q]?) → XC cls s t)
    (hf : ∀ z ∈ locs, free z.base) (hc : cells + 1 ≤ mc) (hs : slots + 6 ≤ ms) :
    W p l e R s m args below meth c H locs cells slots (vx_MQ below Qc XC args s mc ms free) (F0 m pc ls rest) := by
  intro T hT X
  have htr : e.platform.stackTraces = false := (show e.platform.stackTraces = l.stackTraces by rw [X.admits.platform]).trans hl
  have Y := vx_rebase X (R' := { frames := R.frames, locals := R.locals, cells := 1, slots := 6 }) (Nat.le_refl _) (Nat.le_refl _) hRcells hRslots
  obtain ⟨s', hA⟩ : ∃ z, z = (T.setVm s.vm).setFrames (.invoking m args :: below) := ⟨_, rfl⟩
  rw [← hA] at Y
  have hvm : s'.vm = s.vm := by rw [hA]; rfl
  have hhp : s'.heap = H := by rw [hA]; exact hT
  have hW0 : s.WarmedH s'.vm := by rw [hvm]; exact State.WarmedH.refl s
  have hat' : ∀ w ∈ vx_atS own ic cls names, w.before args s' = true := fun w hw => vx_ot_at hW0 hvm.symm (hgood w (List.mem_cons_of_mem _ (List.mem_cons_of_mem _ hw))) (hat w hw)
  have hk' : (Cond.classLink own ik cls).before args s' = true := vx_ot_at hW0 hvm.symm (hgood _ List.mem_cons_self) hk
  have hini' : (Cond.initialized cls).before args s' = true := vx_ot_at hW0 hvm.symm (hgood _ (List.mem_cons_of_mem _ List.mem_cons_self)) hini
  have hU' : vx_Zq Bundle.tN "UNASSIGNED_STACK" Bundle.steD A s' s'.heap := by rw [hhp]; exact vx_Zq.moved hW0.alike (hU.kept hS.2.1)
  have hN' : vx_Zq Bundle.tN "SUPPRESSED_SENTINEL" Bundle.listD A s' s'.heap := by rw [hhp]; exact vx_Zq.moved hW0.alike (hN.kept hS.2.1)
  have h : ∀ w ∈ Bundle.ownAtoms own ic cls names, w.before args s' = true := vx_own hat' (vx_isRefq hU'.1) (vx_isRefq hN'.1) hU'.2.word hN'.2.word
  have hown' : s'.vm.findClass own = some m.cls := by rw [hvm]; exact hown
  have hins : (Cond.instantiable cls 6).before args s' = true := h _ (by simp [Bundle.ownAtoms])
  obtain ⟨vm₁, cX, kX, hfX, hkX, -, -, X₁, st1⟩ := Y.newCold hexec (own := own) (C := cls) (index := ik) (n := 6) hown' hk' hins hini'
    (g := F0 m pc ls rest) rfl (by rw [hb]; exact d0) (Nat.le_refl _) (Nat.le_refl _)
  generalize hT1 : (T.setVm vm₁).pushCell { cls := cX, slots := kX.instanceTypes.map defaultValue, vm := .none } = T1 at X₁ st1
  have hcat : (Value.ref T.heap.size).category = 1 := rfl
  have hcellA : T1.heap[T.heap.size]? = some (freshCell cX kX) := by rw [← hT1]; exact State.heap_pushCell_size _ _
  have d3' : decode c.code (pc + 3) = .ok (.dup, 1) := by rw [hb]; exact d3
  have d4' : decode c.code (pc + 4) = .ok (.ldc is, 2) := by rw [hb]; exact d4
  have hstr' : vk_R own is text sa s' := vk_R.warm hW0 hstr
  obtain ⟨U, hsteps, hrun, hend, hW, hsame, ce, hce, hO⟩ := X₁.ctorThrowS hexec htr (own := own) (cls := cls) (names := names) (ic := ic) hown' hcls hnames h (fun x hx => nomatch hx) hfX hkX hcellA (by rw [hhp, hT]; exact Nat.le_refl _) (msg := .ref sa) rfl
    (g := { method := m, pc := pc + 6, locals := ls, stack := .ref sa :: .ref T.heap.size :: .ref T.heap.size :: rest, locked := none }) rfl hsize rfl rfl (rest := rest) rfl
    (by rw [hb]; exact d6) (by rw [hb]; exact d9) hout hRframes (by simp only [List.map_cons, List.sum_cons, hcat]; omega) hlocks
  obtain ⟨f1, f2⟩ := vx_frame hsame
  rw [hhp] at f1 f2
  have hWs : s.WarmedH U.vm := State.WarmedH.trans hW0 hW
  have hcl : s.vm.findClass cls = some ce.cls := by
    have h9 := hO.cls
    rw [hvm] at h9
    exact h9
  have hall : s.sameButNew ({ U with vm := s.vm } : State) locs mc ms := by
    subst hA
    obtain ⟨e1, e2⟩ := hsame
    rw [State.setFrames_setFrames] at e1
    have h2 : (T.setVm s.vm).sameButNew ({ U with vm := s.vm } : State) [] (0 + 1) (0 + 6) := ⟨e1, e2⟩
    have h3 := X.same.trans h2
    rw [List.append_nil] at h3
    exact h3.mono hc hs
  refine ⟨U, ?_, .threw T.heap.size, hrun, hend, Or.inr ⟨T.heap.size, rfl, cls, ce, locs, hx U hWs.alike f1 (fun q hq => f2 q hq (fun z hz => nomatch hz)), hce, hO.vm, hcl, hWs, hall, hf⟩⟩
  refine st1 _ ?_
  show Steps p.tables e below (T1.setTop { method := m, pc := pc + 3, locals := ls, stack := .ref T.heap.size :: rest, locked := none }) _
  jvm_step X₁.here [X₁.here.top, hexec, d3', Value.category]
  exact X₁.ldcString hexec (own := own) (text := text) (index := is) (a := sa) hown' hstr'.1 hstr'.2
    (g := { method := m, pc := pc + 4, locals := ls, stack := .ref T.heap.size :: .ref T.heap.size :: rest, locked := none }) rfl d4' _ hsteps
/-- 'throw new E("text")', the text by a wide index -/
theorem vx_throwSW {cc : ByteArray} {pc : Nat} (hexec : p.tables.exec = Jvm.exec) (hb : c.code = cc) (hl : l.stackTraces = false) {own cls text : String} {names : List String} {ik is ic mc ms sa : Nat} {A : Nat → Prop}
    (hown : s.vm.findClass own = some m.cls) (hcls : Bundle.fit cls = true) (hnames : ∀ n ∈ names, Bundle.fit n = true)
    (hk : (Cond.classLink own ik cls).before args s = true) (hini : (Cond.initialized cls).before args s = true) (hstr : vk_R own is text sa s) (hat : ∀ w ∈ vx_atS own ic cls names, w.before args s = true)
    (hgood : ∀ w ∈ Cond.classLink own ik cls :: Cond.initialized cls :: vx_atS own ic cls names, vx_ot w = true)
    (hU : vx_Zq Bundle.tN "UNASSIGNED_STACK" Bundle.steD A s s.heap) (hN : vx_Zq Bundle.tN "SUPPRESSED_SENTINEL" Bundle.listD A s s.heap) (hS : va_S A s.heap H locs) (hsize : ls.size = c.maxLocals)
    (d0 : decode cc pc = .ok (.new ik, 3)) (d3 : decode cc (pc + 3) = .ok (.dup, 1)) (d4 : decode cc (pc + 4) = .ok (.ldc_w is, 3)) (d7 : decode cc (pc + 7) = .ok (.invokespecial ic, 3)) (d10 : decode cc (pc + 10) = .ok (.athrow, 1))
    (hout : ∀ x ∈ c.exceptionTable.toList, covers x (pc + 10) = false)
    (hRframes : names.length + 3 < R.frames) (hRlocals : (rest.map fun v => v.category).sum + (13 * (names.length + 1) + 43) ≤ R.locals) (hRcells : cells + 1 ≤ R.cells) (hRslots : slots + 6 ≤ R.slots) (hlocks : meth.locks = false)
    (hx : ∀ t : State, s.vm.Alike t.vm → H.size ≤ t.heap.size → (∀ q : Nat, q < H.size → t.heap[q]? = H[q]?) → XC cls s t)
    (hf : ∀ z ∈ locs, free z.base) (hc : cells + 1 ≤ mc) (hs : slots + 6 ≤ ms) :
    W p l e R s m args below meth c H locs cells slots (vx_MQ below Qc XC args s mc ms free) (F0 m pc ls rest) := by
  intro T hT X
  have htr : e.platform.stackTraces = false := (show e.platform.stackTraces = l.stackTraces by rw [X.admits.platform]).trans hl
  have Y := vx_rebase X (R' := { frames := R.frames, locals := R.locals, cells := 1, slots := 6 }) (Nat.le_refl _) (Nat.le_refl _) hRcells hRslots
  obtain ⟨s', hA⟩ : ∃ z, z = (T.setVm s.vm).setFrames (.invoking m args :: below) := ⟨_, rfl⟩
  rw [← hA] at Y
  have hvm : s'.vm = s.vm := by rw [hA]; rfl
  have hhp : s'.heap = H := by rw [hA]; exact hT
  have hW0 : s.WarmedH s'.vm := by rw [hvm]; exact State.WarmedH.refl s
  have hat' : ∀ w ∈ vx_atS own ic cls names, w.before args s' = true := fun w hw => vx_ot_at hW0 hvm.symm (hgood w (List.mem_cons_of_mem _ (List.mem_cons_of_mem _ hw))) (hat w hw)
  have hk' : (Cond.classLink own ik cls).before args s' = true := vx_ot_at hW0 hvm.symm (hgood _ List.mem_cons_self) hk
  have hini' : (Cond.initialized cls).before args s' = true := vx_ot_at hW0 hvm.symm (hgood _ (List.mem_cons_of_mem _ List.mem_cons_self)) hini
  have hU' : vx_Zq Bundle.tN "UNASSIGNED_STACK" Bundle.steD A s' s'.heap := by rw [hhp]; exact vx_Zq.moved hW0.alike (hU.kept hS.2.1)
  have hN' : vx_Zq Bundle.tN "SUPPRESSED_SENTINEL" Bundle.listD A s' s'.heap := by rw [hhp]; exact vx_Zq.moved hW0.alike (hN.kept hS.2.1)
  have h : ∀ w ∈ Bundle.ownAtoms own ic cls names, w.before args s' = true := vx_own hat' (vx_isRefq hU'.1) (vx_isRefq hN'.1) hU'.2.word hN'.2.word
  have hown' : s'.vm.findClass own = some m.cls := by rw [hvm]; exact hown
  have hins : (Cond.instantiable cls 6).before args s' = true := h _ (by simp [Bundle.ownAtoms])
  obtain ⟨vm₁, cX, kX, hfX, hkX, -, -, X₁, st1⟩ := Y.newCold hexec (own := own) (C := cls) (index := ik) (n := 6) hown' hk' hins hini'
    (g := F0 m pc ls rest) rfl (by rw [hb]; exact d0) (Nat.le_refl _) (Nat.le_refl _)
  generalize hT1 : (T.setVm vm₁).pushCell { cls := cX, slots := kX.instanceTypes.map defaultValue, vm := .none } = T1 at X₁ st1
  have hcat : (Value.ref T.heap.size).category = 1 := rfl
  have hcellA : T1.heap[T.heap.size]? = some (freshCell cX kX) := by rw [← hT1]; exact State.heap_pushCell_size _ _
  have d3' : decode c.code (pc + 3) = .ok (.dup, 1) := by rw [hb]; exact d3
  have d4' : decode c.code (pc + 4) = .ok (.ldc_w is, 3) := by rw [hb]; exact d4
  have hstr' : vk_R own is text sa s' := vk_R.warm hW0 hstr
  obtain ⟨U, hsteps, hrun, hend, hW, hsame, ce, hce, hO⟩ := X₁.ctorThrowS hexec htr (own := own) (cls := cls) (names := names) (ic := ic) hown' hcls hnames h (fun x hx => nomatch hx) hfX hkX hcellA (by rw [hhp, hT]; exact Nat.le_refl _) (msg := .ref sa) rfl
    (g := { method := m, pc := pc + 7, locals := ls, stack := .ref sa :: .ref T.heap.size :: .ref T.heap.size :: rest, locked := none }) rfl hsize rfl rfl (rest := rest) rfl
    (by rw [hb]; exact d7) (by rw [hb]; exact d10) hout hRframes (by simp only [List.map_cons, List.sum_cons, hcat]; omega) hlocks
  obtain ⟨f1, f2⟩ := vx_frame hsame
  rw [hhp] at f1 f2
  have hWs : s.WarmedH U.vm := State.WarmedH.trans hW0 hW
  have hcl : s.vm.findClass cls = some ce.cls := by
    have h9 := hO.cls
    rw [hvm] at h9
    exact h9
  have hall : s.sameButNew ({ U with vm := s.vm } : State) locs mc ms := by
    subst hA
    obtain ⟨e1, e2⟩ := hsame
    rw [State.setFrames_setFrames] at e1
    have h2 : (T.setVm s.vm).sameButNew ({ U with vm := s.vm } : State) [] (0 + 1) (0 + 6) := ⟨e1, e2⟩
    have h3 := X.same.trans h2
    rw [List.append_nil] at h3
    exact h3.mono hc hs
  refine ⟨U, ?_, .threw T.heap.size, hrun, hend, Or.inr ⟨T.heap.size, rfl, cls, ce, locs, hx U hWs.alike f1 (fun q hq => f2 q hq (fun z hz => nomatch hz)), hce, hO.vm, hcl, hWs, hall, hf⟩⟩
  refine st1 _ ?_
  show Steps p.tables e below (T1.setTop { method := m, pc := pc + 3, locals := ls, stack := .ref T.heap.size :: rest, locked := none }) _
  jvm_step X₁.here [X₁.here.top, hexec, d3', Value.category]
  exact X₁.ldcStringW hexec (own := own) (text := text) (index := is) (a := sa) hown' hstr'.1 hstr'.2
    (g := { method := m, pc := pc + 4, locals := ls, stack := .ref T.heap.size :: .ref T.heap.size :: rest, locked := none }) rfl d4' _ hsteps
end Ends
section Bodies
variable {l : Launch}
theorem vx_ofW {y : MethodName} {ws ws' : List Cond} {rm : Room} {Pc : Array Value → State → Prop} {Qc : Array Value → State → Outcome → State → Prop} {XC : String → State → State → Prop} {mc ms : Nat} {free : Addr → Prop} {cc : ByteArray} {maxL : Nat} {ret : Option FieldType}
    (hy : plainName y.cls = true) (hw : ws = Cond.code y cc maxL ret :: ws')
    (body : ∀ p e s m args below meth c s₁, BodyLoose p l y (headSpec ws rm) cc maxL ret e s m args below meth c s₁ → c.maxLocals = maxL → (∀ x ∈ c.exceptionTable.toList, False) → Pc args s →
      W p l e (headSpec ws rm).room s m args below meth c s.heap [] 0 0 (vx_MQ below Qc XC args s mc ms free) (entryFrame m args maxL)) : vx_Met l y ws rm Pc Qc XC mc ms free := by
  refine MetFree.of_bodyS (code := cc) (maxLocals := maxL) (ret := ret) hy ?_ ?_
  · intro args s m h hn
    obtain ⟨meth, c, h1, h2, h3, h4, h5, h6, -, -⟩ := Cond.code_spec hn (atoms_spec (ws := ws) h _ (by rw [hw]; exact List.mem_cons_self))
    exact ⟨meth, c, h1, h2, h3, h4, h5, h6⟩
  · intro p e s m args below meth c s₁ B hml hP _
    have hh0 : s₁.heap = s.heap := by rw [B.state]; rfl
    have ht : ∀ x ∈ c.exceptionTable.toList, False := by
      obtain ⟨meth9, c9, h1, h2, -, -, -, -, h7, -⟩ := Cond.code_spec B.named (atoms_spec (ws := ws) B.pre _ (by rw [hw]; exact List.mem_cons_self))
      cases Option.some.inj (h1.symm.trans B.method)
      cases Option.some.inj (h2.symm.trans (Stand.of_body B).code)
      intro x hx
      rw [Array.isEmpty_iff.mp h7] at hx
      cases hx
    obtain ⟨t, a1, o, b1, b2, b3⟩ := body p e s m args below meth c s₁ B hml ht hP s₁ hh0 (Stand.of_body B)
    exact ⟨t, o, a1, b1, b2, b3⟩
/-- the table of a body with handlers -/
theorem vx_table {p : Program} {x y : MethodName} {S : Spec} {cc bytes : ByteArray} {maxL maxL' : Nat} {ret ret' : Option FieldType} {e : Env} {s s₁ : State} {m : MethodId} {args : Array Value} {below : List Frame} {meth : Method} {c : Code} {hh : List (Nat × Nat × Nat × Nat)}
    (B : BodyLoose p l y S cc maxL ret e s m args below meth c s₁) (h : (Cond.codeWith y bytes maxL' ret' hh).before args s = true) : c.exceptionTable.toList = tableOf hh := by
  obtain ⟨m9, meth9, c9, hn9, h1, h2, -, -, h6, -⟩ := Cond.codeWith_spec h
  cases Option.some.inj (hn9.symm.trans B.named)
  cases Option.some.inj (h1.symm.trans B.method)
  cases Option.some.inj (h2.symm.trans (Stand.of_body B).code)
  rw [← h6, table_eq]
end Bodies
end VXA
/-! ===== END ===== -/
/-! ===== BEGIN a static call of a method with an exception table ===== -/
section VXS
variable {p : Program} {l : Launch} {e : Env} {R : Room} {s : State} {m : MethodId} {args : Array Value} {below : List Frame} {meth : Method} {c : Code} {T : State} {H : Heap} {locs : List Loc} {cells slots : Nat}
abbrev vx_CSW (R : Room) (s : State) (args : Array Value) (own : String) (index : Nat) (y : MethodName) (bytes : ByteArray) (maxL : Nat) (ret : Option FieldType) (hh : List (Nat × Nat × Nat × Nat)) (ws : List Cond) (rm : Room) (mc ms n : Nat) : Prop :=
  (rm.cells = mc ∧ rm.slots = ms ∧ rm.frames + 1 ≤ R.frames ∧ 8 + (maxL + 11) + rm.locals ≤ R.locals ∧ (∀ w ∈ ws, ∀ (a' : Array Value) (U : State), s.WarmedH U.vm → w.before a' U = true) ∧ Cond.codeWith y bytes maxL ret hh ∈ ws) ∧
  (Cond.codeWith y bytes maxL ret hh).before args s = true ∧ (Cond.initialized y.cls).before args s = true ∧ (y.cls ≠ "java/lang/invoke/MethodHandle" ∧ y.cls ≠ "java/lang/invoke/VarHandle") ∧
  (∀ sig, parseMethodDescriptor y.desc = some sig → n = sig.parameters.length) ∧ (Cond.methodLink own index y).before args s = true ∧ (Cond.static y).before args s = true
theorem vx_cwSW {own : String} {index maxL mc ms : Nat} {y : MethodName} {bytes : ByteArray} {ret : Option FieldType} {hh : List (Nat × Nat × Nat × Nat)} {Ts ws ws' : List Cond} {rm : Room} (n : Nat) (ht : ∀ w ∈ Ts, w.before args s = true) (hT : GoodIn Ts (va_wsS own index y ws)) (hw : ws = Cond.codeWith y bytes maxL ret hh :: ws') (hrc : rm.cells = mc) (hrs : rm.slots = ms)
    (hd : y.cls ≠ "java/lang/invoke/MethodHandle" ∧ y.cls ≠ "java/lang/invoke/VarHandle" ∧ (parseMethodDescriptor y.desc).map (fun d => d.parameters.length) = some n) (hR : rm.frames + 1 ≤ R.frames ∧ 8 + (maxL + 11) + rm.locals ≤ R.locals) :
    vx_CSW R s args own index y bytes maxL ret hh ws rm mc ms n := by
  have ok : ∀ w ∈ va_wsS own index y ws, w.before args s = true := fun w h => ht w (hT w h).1
  have hG : GoodIn Ts ws := fun w h => hT w (by unfold va_wsS; exact List.mem_append_right _ h)
  have hc : Cond.codeWith y bytes maxL ret hh ∈ ws := by rw [hw]; exact List.mem_cons_self
  refine ⟨⟨hrc, hrs, hR.1, hR.2, pay_in ht hG, hc⟩, ht _ (hG _ hc).1, ok _ (by simp [va_wsS]), ⟨hd.1, hd.2.1⟩, fun sig h => ?_, ok _ (by simp [va_wsS]), ok _ (by simp [va_wsS])⟩
  have h2 := hd.2.2
  rw [h] at h2
  exact (Option.some.inj h2).symm
theorem vx_callSW (X : Stand p l e R s m args below meth c T locs cells slots) (hexec : p.tables.exec = Jvm.exec) {own : String} {index : Nat} {y : MethodName} {bytes : ByteArray} {maxL : Nat} {ret : Option FieldType} {hh : List (Nat × Nat × Nat × Nat)}
    (hown : s.vm.findClass own = some m.cls) (hlink : (Cond.methodLink own index y).before args s = true) (hstat : (Cond.static y).before args s = true) (hinit : (Cond.initialized y.cls).before args s = true)
    (hcode : (Cond.codeWith y bytes maxL ret hh).before args s = true) (hy : y.cls ≠ "java/lang/invoke/MethodHandle" ∧ y.cls ≠ "java/lang/invoke/VarHandle")
    {W9 : Nat} {Pre : Pt → Array Value → Prop} {Post : Pt → Array Value → Option Value → Pt → Prop} (hK : Back l R p e below s args y 3 W9 Pre Post)
    {g : JFrame} (hg : g.method = m) (hsize : g.locals.size = c.maxLocals) {argsL rest : List Value} (hlen : ∀ sig, parseMethodDescriptor y.desc = some sig → argsL.length = sig.parameters.length)
    (hstack : g.stack = argsL.reverse ++ rest) (hW : 2 * g.monitorRoom + (rest.map fun v => v.category).sum ≤ W9) (hdg : decode c.code g.pc = .ok (.invokestatic index, 3))
    (hpre : ∀ vm₁, s.WarmedH vm₁ → Pre ⟨T.setVm vm₁, locs, cells, slots⟩ argsL.toArray) :
    ∃ (v : Option Value) (vm₁ : Vm) (B : Pt), s.WarmedH vm₁ ∧ Stand p l e R s m args below meth c B.U B.locs B.cells B.slots ∧ Post ⟨T.setVm vm₁, locs, cells, slots⟩ argsL.toArray v B ∧
      ∀ target, Steps p.tables e below (B.U.setTop { g with pc := g.pc + 3, stack := v.toList ++ rest }) target → Steps p.tables e below (T.setTop g) target := by
  obtain ⟨mk, methM, cM, hnamed, hmethM, -, -, -, -, -, -, hsigM⟩ := Cond.codeWith_spec hcode
  have hstatic : methM.isStatic = true := Cond.static_spec hnamed hmethM hstat
  obtain ⟨kP, hkP, -⟩ := className_of_methodNamed hnamed
  have hinitP : kP.init = .initialized := Cond.initialized_spec (findClass_of_methodNamed hnamed) hkP hinit
  obtain ⟨vm₁, X₁, hstep₁⟩ := X.invokestatic hexec hown hlink hnamed hmethM hstatic hkP hinitP hy (g := g) hg (argsL := argsL) (rest := rest) (hlen _ hsigM) hstack hdg
  obtain ⟨v, B, X', hpost, hsteps⟩ := hK m meth c ⟨T.setVm vm₁, locs, cells, slots⟩ { g with stack := rest } (.invokestatic index) mk argsL.toArray X₁ hg hsize hdg hW (X₁.named hnamed) (hpre vm₁ X₁.warmed)
  exact ⟨v, vm₁, B, X₁.warmed, X', hpost, fun target h => hstep₁ _ fun acts => by rw [doInvoke_state]; exact hsteps.trans h⟩
theorem vx_runSW {y : MethodName} {bytes cc : ByteArray} {maxL nL mc ms n index : Nat} {ret : Option FieldType} {hh : List (Nat × Nat × Nat × Nat)} {ws : List Cond} {rm : Room} {Pc : Array Value → State → Prop} {Qc : Array Value → State → Outcome → State → Prop} {free : Addr → Prop} {Ts : List Cond} {own : String} {As rest : List Value} {g : JFrame}
    (S : CallFix p m c cc nL s args Ts own) (hM : Met l y ws rm Pc Qc mc ms free) (cw : vx_CSW R s args own index y bytes maxL ret hh ws rm mc ms n) (hp : PreS s H Pc As)
    (hg : g.method = m) (hn : As.length = n) (hsize : g.locals.size = nL) (hstack : g.stack = As.reverse ++ rest) (hW : 2 * g.monitorRoom + (rest.map fun v => v.category).sum ≤ 8) (hdg : decode cc g.pc = .ok (.invokestatic index, 3)) (hf : cells + mc ≤ R.cells ∧ slots + ms ≤ R.slots) :
    va_Run p l e R s m args below meth c H locs cells slots mc ms g rest (Qc As.toArray) (free) := by
  obtain ⟨⟨hrc, hrs, hfr, hlo, hws, hcw⟩, hcode, hini, hy, hlen, hl, hstt⟩ := cw
  have hK : Back l R p e below s args y 3 8 (PreOf R mc ms Pc) (PostOf Qc mc ms free) := va_backW (hh := hh) (bytes := bytes) (maxL := maxL) (ret := ret) hM hp.1 hrc hrs hfr hlo hws hcw (fun a' U hW => word_at hW (Or.inl (by first | rfl | simp [Cond.onTables, Cond.keeps, Cond.steady])) hini)
  obtain ⟨hx, hb, hml, ho, -⟩ := S
  intro T hT X
  obtain ⟨v, vm₁, ⟨U', l2, c2, s2⟩, hW₁, X', ⟨g', mk, t, L, e1, e2, hq, h1, hL, h2, h3⟩, st⟩ := vx_callSW X hx (hh := hh) (bytes := bytes) (maxL := maxL) (ret := ret) ho hl hstt hini hcode hy hK hg (hsize.trans hml.symm) (argsL := As) (rest := rest) (fun sig h => hn.trans (hlen sig h)) hstack hW (by rw [hb]; exact hdg)
    (fun vm₁ hW₁ => ⟨hf.1, hf.2, hp.2 (T.setVm vm₁) hT hW₁⟩)
  dsimp only [Pt.U, Pt.locs, Pt.cells, Pt.slots] at X' e1 e2 h1 h2 h3 st
  subst h1; subst h2; subst h3
  exact ⟨v, (T.setVm vm₁).calling g' mk As.toArray, t, U', L, hT, X', hL, e1, e2, hq, st⟩
/-- not caught here, past rows that name other classes: it goes on to the caller -/
theorem vx_outP {p : Program} {l : Launch} {e : Env} {R : Room} {s : State} {m : MethodId} {args : Array Value} {below : List Frame} {meth : Method} {c : Code} {H : Heap} {locs : List Loc} {cells slots : Nat} {free : Addr → Prop} {ls : Array Slot} {rest : List Value} {Qc : Array Value → State → Outcome → State → Prop} {XC : String → State → State → Prop}
    {pc : Nat} {own E : String} {ce : Cell} {q : Addr} {mc ms : Nat} (hown : s.vm.findClass own = some m.cls) (hlocks : meth.locks = false)
    (hpass : ∀ z ∈ c.exceptionTable.toList, covers z pc = false ∨ (z.catchType ≠ 0 ∧ ∃ nm : String, (Cond.classLink own z.catchType nm).before args s = true ∧ va_Nc E nm s)) (hcell : H[q]? = some ce) (hv : ce.vm = .none) (hcl : s.vm.findClass E = some ce.cls)
    (hx : ∀ t : State, t.heap = H → s.vm.Alike t.vm → XC E s t) (hf : ∀ z ∈ locs, free z.base) (hc : cells ≤ mc) (hs : slots ≤ ms) :
    vx_W p l e R s m args below meth c H locs cells slots (vx_MQ below Qc XC args s mc ms free) (F0 m pc ls rest) q := by
  intro T hT X
  have hpl : e.platform.magicAccessors = ({} : Platform).magicAccessors := by rw [X.admits.platform]
  obtain ⟨vm', hW', X', st⟩ := X.outThrough hlocks q (g := F0 m pc ls rest) rfl rfl rfl (cell := ce) (by rw [hT]; exact hcell) (by rw [hv]; rfl)
    (by obtain ⟨k9, h9, -⟩ := Vm.findClass_spec hcl; exact ⟨k9, h9⟩) (fun z hz => by
      rcases hpass z hz with h | ⟨hz0, nm, hl1, hn1⟩
      · exact Or.inl h
      · obtain ⟨c6, hc6, hcl6⟩ := Cond.classLink_spec hown hl1 e.platform hpl
        obtain ⟨a8, b8, h1, h2, h3⟩ := hn1
        cases Option.some.inj (h1.symm.trans hcl)
        cases Option.some.inj (h2.symm.trans hc6)
        exact Or.inr ⟨hz0, _, hcl6, h3⟩)
  obtain ⟨g₀, hfr⟩ := X'.frames_eq
  have hcell9 : ((T.setVm vm').setFrames (.throwing q :: below)).heap[q]? = some ce := by
    show T.heap[q]? = some ce
    rw [hT]; exact hcell
  have hend : Ended ((T.setVm vm').setFrames (.throwing q :: below)) below (.threw q) := State.frames_setFrames _ (State.cur_lt_of_frames hfr)
  refine ⟨(T.setVm vm').setFrames (.throwing q :: below), ?_, .threw q, X'.here.running, hend, Or.inr ⟨q, rfl, E, ce, locs, hx _ hT (X'.ends _).1.alike, hcell9, hv, hcl, (X'.ends _).1, (X'.ends _).2.mono hc hs, hf⟩⟩
  rw [X.pushThrowing_eq]
  exact st
/-- a thing of a world lies in the heap -/
theorem vx_lt {D : va_G} {cl : List vw_C} {ws : va_W} {H1 : Heap} (h : va_P D cl ws H1) {k : Nat} {q : Nat × va_E} (hk : ws[k]? = some q) : q.1 < H1.size := (h k q hk).lt
end VXS
/-! ===== END ===== -/
/-! ===== BEGIN methods with a table of their own: called by a name, returning or throwing ===== -/
section VXH
/-! vx_backW, vx_callVX, vx_callSX, vx_callVW, vx_runVW, vx_runVX, vx_runSX, vx_ofWH follow the same proofs as their sisters above (Free/Laws.lean, Shelf42/LK1.lean); vx_outP calls Shelf42/NT130.lean (outThrough). -/
section
variable {l : Launch} {R : Room} {p : Program} {e : Env} {below : List Frame} {s : State} {sargs : Array Value} {y : MethodName} {len W9 : Nat}
theorem vx_backW {ws : List Cond} {rm : Room} {Pc : Array Value → State → Prop} {Qc : Array Value → State → Outcome → State → Prop} {XC : String → State → State → Prop} {mc ms : Nat} {free : Addr → Prop} {bytes : ByteArray} {maxL : Nat} {ret : Option FieldType} {hh : List (Nat × Nat × Nat × Nat)}
    (hM : vx_Met l y ws rm Pc Qc XC mc ms free) (hblind : FrameBlind Pc) (hrc : rm.cells = mc) (hrs : rm.slots = ms)
    (hframes : rm.frames + 1 ≤ R.frames) (hlocals : W9 + (maxL + 11) + rm.locals ≤ R.locals)
    (hws : ∀ w ∈ ws, ∀ a' U, s.WarmedH U.vm → w.before a' U = true) (hcode : Cond.codeWith y bytes maxL ret hh ∈ ws) (hinit : ∀ a' U, s.WarmedH U.vm → (Cond.initialized y.cls).before a' U = true) :
    vx_Back l R p e below s sargs y len W9 (PreOf R mc ms Pc) (PostOf Qc mc ms free) (vx_Post XC mc ms free) := by
  intro m meth c A g ig mk a X hg hsize hdg hW hn hp
  have h1 : (headSpec ws rm).pre.before a A.U = true := atoms_intro fun w hw => hws w hw _ _ X.warmed
  have h2 : (Cond.codeWith y bytes maxL ret hh).before a A.U = true := hws _ hcode _ _ X.warmed
  have h3 : (Cond.initialized y.cls).before a A.U = true := hinit _ _ X.warmed
  have h4 : A.cells + (headSpec ws rm).room.cells ≤ R.cells := by rw [show (headSpec ws rm).room.cells = mc from hrc]; exact hp.1
  have h5 : A.slots + (headSpec ws rm).room.slots ≤ R.slots := by rw [show (headSpec ws rm).room.slots = ms from hrs]; exact hp.2.1
  have hPc : Pc a (A.U.calling g mk a) := hblind _ _ _ _ hp.2.2
  obtain ⟨U, Ls, c0, s0⟩ := A
  dsimp only [Pt.U, Pt.locs, Pt.cells, Pt.slots] at h1 h2 h3 h4 h5 X hn hPc ⊢
  obtain ⟨m9, methY, cY, hn9, hmY, hcY, -, hlY, -⟩ := Cond.codeWith_spec h2
  cases Option.some.inj (hn9.symm.trans hn)
  obtain ⟨kY, hkY, -⟩ := className_of_methodNamed hn
  have hinitY : kY.init = .initialized := Cond.initialized_spec (findClass_of_methodNamed hn) hkY h3
  have h : At U g.method c below := by rw [hg]; exact X.here
  have hlocals9 : W9 + (maxL + 11) + (headSpec ws rm).room.locals ≤ R.locals := hlocals
  have happ : (headSpec ws rm).appliesLoose y e.platform (U.calling g mk a) = true :=
    Spec.appliesLoose_calling (g := g) h hdg hn hkY hinitY
      (X.room_calling (g := g) (R' := (headSpec ws rm).room) hsize hmY hcY hframes (by rw [hlY]; omega) h4 h5) h1
  obtain ⟨mid, hmid⟩ := h.above
  have hfr : (U.setTop g).frames = (.java g :: mid) ++ below := by rw [State.frames_setTop' g h.top, hmid]; rfl
  obtain ⟨o, s₂, hsteps, -, hend, hq⟩ := Steps.callFree hM p X.admits X.cas X.clock (acts := []) hfr happ hPc trivial
  have hq' : vx_Q Qc XC mc ms free a (U.calling g mk a) o s₂ := hq
  rw [State.frames_setTop' g h.top] at hend
  obtain ⟨g₀, hg0⟩ := Option.isSome_iff_exists.mp h.top
  obtain ⟨r, hr⟩ := State.topJava?_eq_some.mp hg0
  have hr' : (({ U with heap := s₂.heap, slotsUsed := s₂.slotsUsed } : State).setVm s₂.vm).frames = .java g₀ :: r := hr
  rcases hq' with ⟨hqc, L, hfe, hL⟩ | ⟨q, rfl, E, ce, L, hx, hce, hcv, hcl, hW₂, hsm, hL⟩
  · obtain ⟨⟨v, rfl⟩, hW₂, e2, q2, q3, q4, q5, q6⟩ := id hfe
    have e3 : s₂ = ({ (U.calling g mk a).setFrames s₂.frames with heap := s₂.heap, slotsUsed := s₂.slotsUsed } : State).setVm s₂.vm := by
      have : s₂ = ({ s₂ with vm := (U.calling g mk a).vm } : State).setVm s₂.vm := rfl
      rw [e2] at this
      exact this
    obtain ⟨c₂, i₂, len₂, hc₂, hd₂, hf₂⟩ := hend
    have hW' : U.WarmedH s₂.vm := hW₂
    have hcc : c₂ = c := by
      have h1 : s₂.code? g.method = U.code? g.method := by
        rw [State.code?_eq, State.code?_eq, hW'.alike.method?]
      exact Option.some.inj (hc₂.symm.trans (h1.trans h.code))
    subst hcc
    have hlen : len₂ = len := by rw [hdg] at hd₂; cases hd₂; rfl
    subst hlen
    have hs₂ : s₂ = (({ U with heap := s₂.heap, slotsUsed := s₂.slotsUsed } : State).setVm s₂.vm).setTop { g with pc := g.pc + len₂, stack := v.toList ++ g.stack } := by
      refine e3.trans ?_
      rw [hf₂, State.calling_eq h.top, State.setFrames_setFrames, State.setTop_of_frames _ hr', hr]
      rfl
    have hsame : U.sameButNew ({ U with heap := s₂.heap, slotsUsed := s₂.slotsUsed } : State) L mc ms := by
      refine ⟨?_, q2, q3, q4, q5, q6⟩
      obtain ⟨t, ht, -⟩ := State.frames_cons hr
      show ({ U with heap := s₂.heap, slotsUsed := s₂.slotsUsed } : State) = { U.setFrames U.frames with heap := s₂.heap, slotsUsed := s₂.slotsUsed }
      rw [State.setFrames_self ht]
    subst hg
    refine Or.inl ⟨v, ⟨(({ U with heap := s₂.heap, slotsUsed := s₂.slotsUsed } : State).setVm s₂.vm), Ls ++ L, c0 + mc, s0 + ms⟩,
      ⟨X.admits, X.cas, X.clock, X.frames, X.room, X.hears, X.method, X.code, (X.here.setHeapUsed s₂.heap s₂.slotsUsed).setVm hW'.alike, X.tail, State.WarmedH.trans X.warmed hW', X.limits, X.bytes, X.same.trans (hsame.setVm s.vm)⟩,
      ⟨g, mk, s₂, L, rfl, rfl, hqc, rfl, hL, rfl, rfl⟩, ?_⟩
    show Steps p.tables e below _ ((({ U with heap := s₂.heap, slotsUsed := s₂.slotsUsed } : State).setVm s₂.vm).setTop { g with pc := g.pc + len₂, stack := v.toList ++ g.stack })
    rw [← hs₂]
    exact hsteps
  · obtain ⟨e2, q2, q3, q4, q5, q6⟩ := id hsm
    have e3 : s₂ = ({ (U.calling g mk a).setFrames s₂.frames with heap := s₂.heap, slotsUsed := s₂.slotsUsed } : State).setVm s₂.vm := by
      have : s₂ = ({ s₂ with vm := (U.calling g mk a).vm } : State).setVm s₂.vm := rfl
      rw [e2] at this
      exact this
    have hf₂ : s₂.frames = .throwing q :: .java g :: U.frames.tail := hend
    have hW' : U.WarmedH s₂.vm := hW₂
    have hs₂ : s₂ = ((({ U with heap := s₂.heap, slotsUsed := s₂.slotsUsed } : State).setVm s₂.vm).setTop g).pushFrame (.throwing q) := by
      refine e3.trans ?_
      rw [hf₂, State.calling_eq h.top, State.setFrames_setFrames, State.pushFrame, State.frames_setTop _ hr', State.setTop_of_frames _ hr', State.setFrames_setFrames, hr]
      rfl
    have hsame : U.sameButNew ({ U with heap := s₂.heap, slotsUsed := s₂.slotsUsed } : State) L mc ms := by
      refine ⟨?_, q2, q3, q4, q5, q6⟩
      obtain ⟨t, ht, -⟩ := State.frames_cons hr
      show ({ U with heap := s₂.heap, slotsUsed := s₂.slotsUsed } : State) = { U.setFrames U.frames with heap := s₂.heap, slotsUsed := s₂.slotsUsed }
      rw [State.setFrames_self ht]
    subst hg
    refine Or.inr ⟨q, ⟨(({ U with heap := s₂.heap, slotsUsed := s₂.slotsUsed } : State).setVm s₂.vm), Ls ++ L, c0 + mc, s0 + ms⟩,
      ⟨X.admits, X.cas, X.clock, X.frames, X.room, X.hears, X.method, X.code, (X.here.setHeapUsed s₂.heap s₂.slotsUsed).setVm hW'.alike, X.tail, State.WarmedH.trans X.warmed hW', X.limits, X.bytes, X.same.trans (hsame.setVm s.vm)⟩,
      ⟨g, mk, s₂, L, E, ce, rfl, rfl, hx, hce, hcv, hcl, rfl, hL, rfl, rfl⟩, ?_⟩
    show Steps p.tables e below _ (((({ U with heap := s₂.heap, slotsUsed := s₂.slotsUsed } : State).setVm s₂.vm).setTop g).pushFrame (.throwing q))
    rw [← hs₂]
    exact hsteps
end
variable {p : Program} {l : Launch} {e : Env} {R : Room} {s : State} {m : MethodId} {args : Array Value} {below : List Frame} {meth : Method} {c : Code} {T : State} {H : Heap} {locs : List Loc} {cells slots : Nat}
theorem vx_callVX (X : Stand p l e R s m args below meth c T locs cells slots) (hexec : p.tables.exec = Jvm.exec) {own C : String} {index : Nat} {y : MethodName} {bytes : ByteArray} {maxL : Nat} {ret : Option FieldType} {hh : List (Nat × Nat × Nat × Nat)}
    (hown : s.vm.findClass own = some m.cls) (hlink : (Cond.methodLink own index y).before args s = true) (hinst : (Cond.instanceMethod y).before args s = true) (hsel : (Cond.selects C y y).before args s = true)
    (hcode : (Cond.codeWith y bytes maxL ret hh).before args s = true) (hy : y.cls ≠ "java/lang/invoke/MethodHandle" ∧ y.cls ≠ "java/lang/invoke/VarHandle")
    {W9 : Nat} {Pre : Pt → Array Value → Prop} {Post : Pt → Array Value → Option Value → Pt → Prop} {PostX : Pt → Array Value → Addr → Pt → Prop} (hK : vx_Back l R p e below s args y 3 W9 Pre Post PostX)
    {b : Addr} {cellB : Cell} (hcell : T.heap[b]? = some cellB) (hobj : cellB.vm.isStatics = false) (hcls : s.vm.findClass C = some cellB.cls)
    {g : JFrame} (hg : g.method = m) (hsize : g.locals.size = c.maxLocals) {argsL rest : List Value} (hlen : ∀ sig, parseMethodDescriptor y.desc = some sig → argsL.length = sig.parameters.length)
    (hstack : g.stack = argsL.reverse ++ .ref b :: rest) (hW : 2 * g.monitorRoom + (rest.map fun v => v.category).sum ≤ W9) (hdg : decode c.code g.pc = .ok (.invokevirtual index, 3))
    (hpre : ∀ vm₁, s.WarmedH vm₁ → Pre ⟨T.setVm vm₁, locs, cells, slots⟩ (Value.ref b :: argsL).toArray) :
    (∃ (v : Option Value) (vm₁ : Vm) (B : Pt), s.WarmedH vm₁ ∧ Stand p l e R s m args below meth c B.U B.locs B.cells B.slots ∧ Post ⟨T.setVm vm₁, locs, cells, slots⟩ (Value.ref b :: argsL).toArray v B ∧
      ∀ target, Steps p.tables e below (B.U.setTop { g with pc := g.pc + 3, stack := v.toList ++ rest }) target → Steps p.tables e below (T.setTop g) target) ∨
    (∃ (q : Addr) (vm₁ : Vm) (B : Pt), s.WarmedH vm₁ ∧ Stand p l e R s m args below meth c B.U B.locs B.cells B.slots ∧ PostX ⟨T.setVm vm₁, locs, cells, slots⟩ (Value.ref b :: argsL).toArray q B ∧
      Steps p.tables e below (T.setTop g) ((B.U.setTop { g with stack := rest }).pushFrame (.throwing q))) := by
  obtain ⟨mk, methM, hnamed, hmethM, hstM, habM⟩ := Cond.instanceMethod_spec hinst
  obtain ⟨m8, methM', cM, hn8, hmethM', -, -, -, -, -, -, hsigM⟩ := Cond.codeWith_spec hcode
  cases Option.some.inj (hn8.symm.trans hnamed)
  cases hmethM.symm.trans hmethM'
  obtain ⟨c2, r2, m2, q1, q2, q3, q4, kP, hkP, hkPi⟩ := Cond.selects_spec hsel
  cases hcls.symm.trans q1
  cases (State.methodFound?_of_named hnamed hy).symm.trans q2
  cases hnamed.symm.trans q3
  have hselP : selectMethod e.platform s.vm cellB.cls mk = .method mk := by rw [Launch.admits_selectMethod X.admits]; exact q4
  obtain ⟨vm₁, X₁, hstep₁⟩ := X.invokevirtual hexec hown hlink hnamed hmethM hstM hkP hkPi hy (a := b) (cell := cellB) hcell
    (fun z h => by rw [h] at hobj; cases hobj) hselP hmethM habM hkP hkPi (g := g) hg (argsL := argsL) (rest := rest) (hlen _ hsigM) hstack hdg
  rcases hK m meth c ⟨T.setVm vm₁, locs, cells, slots⟩ { g with stack := rest } (.invokevirtual index) mk (Value.ref b :: argsL).toArray X₁ hg hsize hdg hW (X₁.named hnamed) (hpre vm₁ X₁.warmed) with ⟨v, B, X', hpost, hsteps⟩ | ⟨q, B, X', hpost, hsteps⟩
  · exact Or.inl ⟨v, vm₁, B, X₁.warmed, X', hpost, fun target h => hstep₁ _ fun acts => by rw [doInvoke_state]; exact hsteps.trans h⟩
  · exact Or.inr ⟨q, vm₁, B, X₁.warmed, X', hpost, hstep₁ _ fun acts => by rw [doInvoke_state]; exact hsteps⟩
theorem vx_callSX (X : Stand p l e R s m args below meth c T locs cells slots) (hexec : p.tables.exec = Jvm.exec) {own : String} {index : Nat} {y : MethodName} {bytes : ByteArray} {maxL : Nat} {ret : Option FieldType} {hh : List (Nat × Nat × Nat × Nat)}
    (hown : s.vm.findClass own = some m.cls) (hlink : (Cond.methodLink own index y).before args s = true) (hstat : (Cond.static y).before args s = true) (hinit : (Cond.initialized y.cls).before args s = true)
    (hcode : (Cond.codeWith y bytes maxL ret hh).before args s = true) (hy : y.cls ≠ "java/lang/invoke/MethodHandle" ∧ y.cls ≠ "java/lang/invoke/VarHandle")
    {W9 : Nat} {Pre : Pt → Array Value → Prop} {Post : Pt → Array Value → Option Value → Pt → Prop} {PostX : Pt → Array Value → Addr → Pt → Prop} (hK : vx_Back l R p e below s args y 3 W9 Pre Post PostX)
    {g : JFrame} (hg : g.method = m) (hsize : g.locals.size = c.maxLocals) {argsL rest : List Value} (hlen : ∀ sig, parseMethodDescriptor y.desc = some sig → argsL.length = sig.parameters.length)
    (hstack : g.stack = argsL.reverse ++ rest) (hW : 2 * g.monitorRoom + (rest.map fun v => v.category).sum ≤ W9) (hdg : decode c.code g.pc = .ok (.invokestatic index, 3))
    (hpre : ∀ vm₁, s.WarmedH vm₁ → Pre ⟨T.setVm vm₁, locs, cells, slots⟩ argsL.toArray) :
    (∃ (v : Option Value) (vm₁ : Vm) (B : Pt), s.WarmedH vm₁ ∧ Stand p l e R s m args below meth c B.U B.locs B.cells B.slots ∧ Post ⟨T.setVm vm₁, locs, cells, slots⟩ argsL.toArray v B ∧
      ∀ target, Steps p.tables e below (B.U.setTop { g with pc := g.pc + 3, stack := v.toList ++ rest }) target → Steps p.tables e below (T.setTop g) target) ∨
    (∃ (q : Addr) (vm₁ : Vm) (B : Pt), s.WarmedH vm₁ ∧ Stand p l e R s m args below meth c B.U B.locs B.cells B.slots ∧ PostX ⟨T.setVm vm₁, locs, cells, slots⟩ argsL.toArray q B ∧
      Steps p.tables e below (T.setTop g) ((B.U.setTop { g with stack := rest }).pushFrame (.throwing q))) := by
  obtain ⟨mk, methM, cM, hnamed, hmethM, -, -, -, -, -, -, hsigM⟩ := Cond.codeWith_spec hcode
  have hstatic : methM.isStatic = true := Cond.static_spec hnamed hmethM hstat
  obtain ⟨kP, hkP, -⟩ := className_of_methodNamed hnamed
  have hinitP : kP.init = .initialized := Cond.initialized_spec (findClass_of_methodNamed hnamed) hkP hinit
  obtain ⟨vm₁, X₁, hstep₁⟩ := X.invokestatic hexec hown hlink hnamed hmethM hstatic hkP hinitP hy (g := g) hg (argsL := argsL) (rest := rest) (hlen _ hsigM) hstack hdg
  rcases hK m meth c ⟨T.setVm vm₁, locs, cells, slots⟩ { g with stack := rest } (.invokestatic index) mk argsL.toArray X₁ hg hsize hdg hW (X₁.named hnamed) (hpre vm₁ X₁.warmed) with ⟨v, B, X', hpost, hsteps⟩ | ⟨q, B, X', hpost, hsteps⟩
  · exact Or.inl ⟨v, vm₁, B, X₁.warmed, X', hpost, fun target h => hstep₁ _ fun acts => by rw [doInvoke_state]; exact hsteps.trans h⟩
  · exact Or.inr ⟨q, vm₁, B, X₁.warmed, X', hpost, hstep₁ _ fun acts => by rw [doInvoke_state]; exact hsteps⟩
theorem vx_callVW (X : Stand p l e R s m args below meth c T locs cells slots) (hexec : p.tables.exec = Jvm.exec) {own C : String} {index : Nat} {y : MethodName} {bytes : ByteArray} {maxL : Nat} {ret : Option FieldType} {hh : List (Nat × Nat × Nat × Nat)}
    (hown : s.vm.findClass own = some m.cls) (hlink : (Cond.methodLink own index y).before args s = true) (hinst : (Cond.instanceMethod y).before args s = true) (hsel : (Cond.selects C y y).before args s = true)
    (hcode : (Cond.codeWith y bytes maxL ret hh).before args s = true) (hy : y.cls ≠ "java/lang/invoke/MethodHandle" ∧ y.cls ≠ "java/lang/invoke/VarHandle")
    {W9 : Nat} {Pre : Pt → Array Value → Prop} {Post : Pt → Array Value → Option Value → Pt → Prop} (hK : Back l R p e below s args y 3 W9 Pre Post)
    {b : Addr} {cellB : Cell} (hcell : T.heap[b]? = some cellB) (hobj : cellB.vm.isStatics = false) (hcls : s.vm.findClass C = some cellB.cls)
    {g : JFrame} (hg : g.method = m) (hsize : g.locals.size = c.maxLocals) {argsL rest : List Value} (hlen : ∀ sig, parseMethodDescriptor y.desc = some sig → argsL.length = sig.parameters.length)
    (hstack : g.stack = argsL.reverse ++ .ref b :: rest) (hW : 2 * g.monitorRoom + (rest.map fun v => v.category).sum ≤ W9) (hdg : decode c.code g.pc = .ok (.invokevirtual index, 3))
    (hpre : ∀ vm₁, s.WarmedH vm₁ → Pre ⟨T.setVm vm₁, locs, cells, slots⟩ (Value.ref b :: argsL).toArray) :
    ∃ (v : Option Value) (vm₁ : Vm) (B : Pt), s.WarmedH vm₁ ∧ Stand p l e R s m args below meth c B.U B.locs B.cells B.slots ∧ Post ⟨T.setVm vm₁, locs, cells, slots⟩ (Value.ref b :: argsL).toArray v B ∧
      ∀ target, Steps p.tables e below (B.U.setTop { g with pc := g.pc + 3, stack := v.toList ++ rest }) target → Steps p.tables e below (T.setTop g) target := by
  obtain ⟨mk, methM, hnamed, hmethM, hstM, habM⟩ := Cond.instanceMethod_spec hinst
  obtain ⟨m8, methM', cM, hn8, hmethM', -, -, -, -, -, -, hsigM⟩ := Cond.codeWith_spec hcode
  cases Option.some.inj (hn8.symm.trans hnamed)
  cases hmethM.symm.trans hmethM'
  obtain ⟨c2, r2, m2, q1, q2, q3, q4, kP, hkP, hkPi⟩ := Cond.selects_spec hsel
  cases hcls.symm.trans q1
  cases (State.methodFound?_of_named hnamed hy).symm.trans q2
  cases hnamed.symm.trans q3
  have hselP : selectMethod e.platform s.vm cellB.cls mk = .method mk := by rw [Launch.admits_selectMethod X.admits]; exact q4
  obtain ⟨vm₁, X₁, hstep₁⟩ := X.invokevirtual hexec hown hlink hnamed hmethM hstM hkP hkPi hy (a := b) (cell := cellB) hcell
    (fun z h => by rw [h] at hobj; cases hobj) hselP hmethM habM hkP hkPi (g := g) hg (argsL := argsL) (rest := rest) (hlen _ hsigM) hstack hdg
  obtain ⟨v, B, X', hpost, hsteps⟩ := hK m meth c ⟨T.setVm vm₁, locs, cells, slots⟩ { g with stack := rest } (.invokevirtual index) mk (Value.ref b :: argsL).toArray X₁ hg hsize hdg hW (X₁.named hnamed) (hpre vm₁ X₁.warmed)
  exact ⟨v, vm₁, B, X₁.warmed, X', hpost, fun target h => hstep₁ _ fun acts => by rw [doInvoke_state]; exact hsteps.trans h⟩
abbrev vx_CVW (R : Room) (s : State) (args : Array Value) (own C : String) (index : Nat) (y : MethodName) (bytes : ByteArray) (maxL : Nat) (ret : Option FieldType) (hh : List (Nat × Nat × Nat × Nat)) (ws : List Cond) (rm : Room) (mc ms n : Nat) : Prop :=
  (rm.cells = mc ∧ rm.slots = ms ∧ rm.frames + 1 ≤ R.frames ∧ 8 + (maxL + 11) + rm.locals ≤ R.locals ∧ (∀ w ∈ ws, ∀ (a' : Array Value) (U : State), s.WarmedH U.vm → w.before a' U = true) ∧ Cond.codeWith y bytes maxL ret hh ∈ ws) ∧
  (Cond.codeWith y bytes maxL ret hh).before args s = true ∧ (Cond.initialized y.cls).before args s = true ∧ (y.cls ≠ "java/lang/invoke/MethodHandle" ∧ y.cls ≠ "java/lang/invoke/VarHandle") ∧
  (∀ sig, parseMethodDescriptor y.desc = some sig → n = sig.parameters.length) ∧ (Cond.methodLink own index y).before args s = true ∧ (Cond.instanceMethod y).before args s = true ∧ (Cond.selects C y y).before args s = true
theorem vx_cwVW {own C : String} {index maxL mc ms : Nat} {y : MethodName} {bytes : ByteArray} {ret : Option FieldType} {hh : List (Nat × Nat × Nat × Nat)} {Ts ws ws' : List Cond} {rm : Room} (n : Nat) (ht : ∀ w ∈ Ts, w.before args s = true) (hT : GoodIn Ts (wsV own index C y ws)) (hw : ws = Cond.codeWith y bytes maxL ret hh :: ws') (hrc : rm.cells = mc) (hrs : rm.slots = ms)
    (hd : y.cls = C ∧ y.cls ≠ "java/lang/invoke/MethodHandle" ∧ y.cls ≠ "java/lang/invoke/VarHandle" ∧ (parseMethodDescriptor y.desc).map (fun d => d.parameters.length) = some n) (hR : rm.frames + 1 ≤ R.frames ∧ 8 + (maxL + 11) + rm.locals ≤ R.locals) :
    vx_CVW R s args own C index y bytes maxL ret hh ws rm mc ms n := by
  obtain ⟨hC, hd⟩ := hd
  subst hC
  have ok : ∀ w ∈ wsV own index y.cls y ws, w.before args s = true := fun w h => ht w (hT w h).1
  have hG : GoodIn Ts ws := fun w h => hT w (by unfold wsV; exact List.mem_append_right _ h)
  have hc : Cond.codeWith y bytes maxL ret hh ∈ ws := by rw [hw]; exact List.mem_cons_self
  refine ⟨⟨hrc, hrs, hR.1, hR.2, pay_in ht hG, hc⟩, ht _ (hG _ hc).1, ok _ (by simp [wsV]), ⟨hd.1, hd.2.1⟩, fun sig h => ?_, ok _ (by simp [wsV]), ok _ (by simp [wsV]), ok _ (by simp [wsV])⟩
  have h2 := hd.2.2
  rw [h] at h2
  exact (Option.some.inj h2).symm
theorem vx_runVW {y : MethodName} {bytes cc : ByteArray} {maxL nL mc ms n index : Nat} {ret : Option FieldType} {hh : List (Nat × Nat × Nat × Nat)} {ws : List Cond} {rm : Room} {Pc : Array Value → State → Prop} {Qc : Array Value → State → Outcome → State → Prop} {free : Addr → Prop} {Ts : List Cond} {own C : String} {b : Addr} {As rest : List Value} {g : JFrame}
    (S : CallFix p m c cc nL s args Ts own) (hM : Met l y ws rm Pc Qc mc ms free) (cw : vx_CVW R s args own C index y bytes maxL ret hh ws rm mc ms n) (hp : PreV s H C b Pc As)
    (hg : g.method = m) (hn : As.length = n) (hsize : g.locals.size = nL) (hstack : g.stack = As.reverse ++ .ref b :: rest) (hW : 2 * g.monitorRoom + (rest.map fun v => v.category).sum ≤ 8) (hdg : decode cc g.pc = .ok (.invokevirtual index, 3)) (hf : cells + mc ≤ R.cells ∧ slots + ms ≤ R.slots) :
    va_Run p l e R s m args below meth c H locs cells slots mc ms g rest (Qc (Value.ref b :: As).toArray) free := by
  obtain ⟨⟨hrc, hrs, hfr, hlo, hws, hcw⟩, hcode, hini, hy, hlen, hl, hin, hse⟩ := cw
  have hK : Back l R p e below s args y 3 8 (PreOf R mc ms Pc) (PostOf Qc mc ms free) := va_backW (hh := hh) (bytes := bytes) (maxL := maxL) (ret := ret) hM hp.1 hrc hrs hfr hlo hws hcw (fun a' U hW => word_at hW (Or.inl (by first | rfl | simp [Cond.onTables, Cond.keeps, Cond.steady])) hini)
  obtain ⟨hx, hb, hml, ho, -⟩ := S
  obtain ⟨-, ⟨cellB, hcB, hoB, hclB⟩, hPc⟩ := hp
  intro T hT X
  obtain ⟨v, vm₁, ⟨U', l2, c2, s2⟩, hW₁, X', ⟨g', mk, t, L, e1, e2, hq, h1, hL, h2, h3⟩, st⟩ := vx_callVW X hx (C := C) (hh := hh) (bytes := bytes) (maxL := maxL) (ret := ret) ho hl hin hse hcode hy hK (by rw [hT]; exact hcB) hoB hclB hg (hsize.trans hml.symm) (argsL := As) (rest := rest) (fun sig h => hn.trans (hlen sig h)) hstack hW (by rw [hb]; exact hdg)
    (fun vm₁ hW₁ => ⟨hf.1, hf.2, hPc (T.setVm vm₁) hT hW₁⟩)
  dsimp only [Pt.U, Pt.locs, Pt.cells, Pt.slots] at X' e1 e2 h1 h2 h3 st
  subst h1; subst h2; subst h3
  exact ⟨v, (T.setVm vm₁).calling g' mk (Value.ref b :: As).toArray, t, U', L, hT, X', hL, e1, e2, hq, st⟩
section
variable {y : MethodName} {bytes cc : ByteArray} {maxL nL mc ms n index : Nat} {ret : Option FieldType} {ws : List Cond} {rm : Room} {Pc : Array Value → State → Prop} {Qc : Array Value → State → Outcome → State → Prop} {XC : String → State → State → Prop} {free : Addr → Prop} {Ts : List Cond} {own C : String} {b : Addr} {As rest : List Value} {g : JFrame}
theorem vx_runVX {hh : List (Nat × Nat × Nat × Nat)} (S : CallFix p m c cc nL s args Ts own) (hM : vx_Met l y ws rm Pc Qc XC mc ms free) (cw : vx_CVW R s args own C index y bytes maxL ret hh ws rm mc ms n) (hp : PreV s H C b Pc As)
    (hg : g.method = m) (hn : As.length = n) (hsize : g.locals.size = nL) (hstack : g.stack = As.reverse ++ .ref b :: rest) (hW : 2 * g.monitorRoom + (rest.map fun v => v.category).sum ≤ 8) (hdg : decode cc g.pc = .ok (.invokevirtual index, 3)) (hf : cells + mc ≤ R.cells ∧ slots + ms ≤ R.slots) :
    vx_Run p l e R s m args below meth c H locs cells slots mc ms g rest (Qc (Value.ref b :: As).toArray) XC free := by
  obtain ⟨⟨hrc, hrs, hfr, hlo, hws, hcw⟩, hcode, hini, hy, hlen, hl, hin, hse⟩ := cw
  have hK : vx_Back l R p e below s args y 3 8 (PreOf R mc ms Pc) (PostOf Qc mc ms free) (vx_Post XC mc ms free) := vx_backW (hh := hh) (bytes := bytes) (maxL := maxL) (ret := ret) hM hp.1 hrc hrs hfr hlo hws hcw (fun a' U hW => word_at hW (Or.inl (by first | rfl | simp [Cond.onTables, Cond.keeps, Cond.steady])) hini)
  obtain ⟨hx, hb, hml, ho, -⟩ := S
  obtain ⟨-, ⟨cellB, hcB, hoB, hclB⟩, hPc⟩ := hp
  intro T hT X
  rcases vx_callVX X hx (C := C) (hh := hh) (bytes := bytes) (maxL := maxL) (ret := ret) ho hl hin hse hcode hy hK (by rw [hT]; exact hcB) hoB hclB hg (hsize.trans hml.symm) (argsL := As) (rest := rest) (fun sig h => hn.trans (hlen sig h)) hstack hW (by rw [hb]; exact hdg)
    (fun vm₁ hW₁ => ⟨hf.1, hf.2, hPc (T.setVm vm₁) hT hW₁⟩) with ⟨v, vm₁, ⟨U', l2, c2, s2⟩, hW₁, X', ⟨g', mk, t, L, e1, e2, hq, h1, hL, h2, h3⟩, st⟩ | ⟨q, vm₁, ⟨U', l2, c2, s2⟩, hW₁, X', ⟨g', mk, t, L, E, ce, e1, e2, hq, hce, hcv, hcl, h1, hL, h2, h3⟩, st⟩
  · dsimp only [Pt.U, Pt.locs, Pt.cells, Pt.slots] at X' e1 e2 h1 h2 h3 st
    subst h1; subst h2; subst h3
    exact Or.inl ⟨v, (T.setVm vm₁).calling g' mk (Value.ref b :: As).toArray, t, U', L, hT, X', hL, e1, e2, hq, st⟩
  · dsimp only [Pt.U, Pt.locs, Pt.cells, Pt.slots] at X' e1 e2 h1 h2 h3 st hcl
    subst h1; subst h2; subst h3
    exact Or.inr ⟨q, (T.setVm vm₁).calling g' mk (Value.ref b :: As).toArray, t, U', L, E, ce, hT, X', hL, e1, e2, hq, hce, hcv, vx_cls hW₁ hcl, st⟩
theorem vx_runSX {hh : List (Nat × Nat × Nat × Nat)} (S : CallFix p m c cc nL s args Ts own) (hM : vx_Met l y ws rm Pc Qc XC mc ms free) (cw : vx_CSW R s args own index y bytes maxL ret hh ws rm mc ms n) (hp : PreS s H Pc As)
    (hg : g.method = m) (hn : As.length = n) (hsize : g.locals.size = nL) (hstack : g.stack = As.reverse ++ rest) (hW : 2 * g.monitorRoom + (rest.map fun v => v.category).sum ≤ 8) (hdg : decode cc g.pc = .ok (.invokestatic index, 3)) (hf : cells + mc ≤ R.cells ∧ slots + ms ≤ R.slots) :
    vx_Run p l e R s m args below meth c H locs cells slots mc ms g rest (Qc As.toArray) XC free := by
  obtain ⟨⟨hrc, hrs, hfr, hlo, hws, hcw⟩, hcode, hini, hy, hlen, hl, hstt⟩ := cw
  have hK : vx_Back l R p e below s args y 3 8 (PreOf R mc ms Pc) (PostOf Qc mc ms free) (vx_Post XC mc ms free) := vx_backW (hh := hh) (bytes := bytes) (maxL := maxL) (ret := ret) hM hp.1 hrc hrs hfr hlo hws hcw (fun a' U hW => word_at hW (Or.inl (by first | rfl | simp [Cond.onTables, Cond.keeps, Cond.steady])) hini)
  obtain ⟨hx, hb, hml, ho, -⟩ := S
  intro T hT X
  rcases vx_callSX X hx (hh := hh) (bytes := bytes) (maxL := maxL) (ret := ret) ho hl hstt hini hcode hy hK hg (hsize.trans hml.symm) (argsL := As) (rest := rest) (fun sig h => hn.trans (hlen sig h)) hstack hW (by rw [hb]; exact hdg)
    (fun vm₁ hW₁ => ⟨hf.1, hf.2, hp.2 (T.setVm vm₁) hT hW₁⟩) with ⟨v, vm₁, ⟨U', l2, c2, s2⟩, hW₁, X', ⟨g', mk, t, L, e1, e2, hq, h1, hL, h2, h3⟩, st⟩ | ⟨q, vm₁, ⟨U', l2, c2, s2⟩, hW₁, X', ⟨g', mk, t, L, E, ce, e1, e2, hq, hce, hcv, hcl, h1, hL, h2, h3⟩, st⟩
  · dsimp only [Pt.U, Pt.locs, Pt.cells, Pt.slots] at X' e1 e2 h1 h2 h3 st
    subst h1; subst h2; subst h3
    exact Or.inl ⟨v, (T.setVm vm₁).calling g' mk As.toArray, t, U', L, hT, X', hL, e1, e2, hq, st⟩
  · dsimp only [Pt.U, Pt.locs, Pt.cells, Pt.slots] at X' e1 e2 h1 h2 h3 st hcl
    subst h1; subst h2; subst h3
    exact Or.inr ⟨q, (T.setVm vm₁).calling g' mk As.toArray, t, U', L, E, ce, hT, X', hL, e1, e2, hq, hce, hcv, vx_cls hW₁ hcl, st⟩
end
end VXH
theorem vx_ofWH {l : Launch} {y : MethodName} {ws ws' : List Cond} {rm : Room} {Pc : Array Value → State → Prop} {Qc : Array Value → State → Outcome → State → Prop} {XC : String → State → State → Prop} {mc ms : Nat} {free : Addr → Prop} {cc : ByteArray} {maxL : Nat} {ret : Option FieldType} {hh : List (Nat × Nat × Nat × Nat)}
    (hy : plainName y.cls = true) (hw : ws = Cond.codeWith y cc maxL ret hh :: ws')
    (body : ∀ p e s m args below meth c s₁, BodyLoose p l y (headSpec ws rm) cc maxL ret e s m args below meth c s₁ → c.maxLocals = maxL → Pc args s →
      W p l e (headSpec ws rm).room s m args below meth c s.heap [] 0 0 (vx_MQ below Qc XC args s mc ms free) (entryFrame m args maxL)) : vx_Met l y ws rm Pc Qc XC mc ms free := by
  refine MetFree.of_bodyS (code := cc) (maxLocals := maxL) (ret := ret) hy ?_ ?_
  · intro args s m h hn
    obtain ⟨m9, meth, c, hn9, h1, h2, h3, h4, -, h5, h6, -⟩ := Cond.codeWith_spec (atoms_spec (ws := ws) h _ (by rw [hw]; exact List.mem_cons_self))
    cases hn.symm.trans hn9
    exact ⟨meth, c, h1, h2, h3, h4, h5, h6⟩
  · intro p e s m args below meth c s₁ B hml hP _
    have hh0 : s₁.heap = s.heap := by rw [B.state]; rfl
    obtain ⟨t, a1, o, b1, b2, b3⟩ := body p e s m args below meth c s₁ B hml hP s₁ hh0 (Stand.of_body B)
    exact ⟨t, o, a1, b1, b2, b3⟩
/-! ===== END ===== -/
end
section
-- ===== PART A: goes FIRST, ahead of the names: the tables' words, and 'selects' of the private methods out of them =====
/-- a private method of a class that the tables say can be made, by its rows of tables_1 -/
def lw_okq (q : MethodName × Nat) : Prop := (q.1.cls ≠ "java/lang/invoke/MethodHandle" ∧ q.1.cls ≠ "java/lang/invoke/VarHandle") ∧ Cond.instantiable q.1.cls q.2 ∈ tables_1 ∧ Cond.privateMethod q.1 ∈ tables_1 ∧ Cond.instanceMethod q.1 ∈ tables_1
theorem lw_p0 : lw_okq (⟨"PreimageAnalyzer$SubsetAutomaton", "readSingle", "(LPreimageAnalyzer$Rule;)V"⟩, 9) := ⟨⟨by decide +kernel, by decide +kernel⟩, List.mem_of_getElem? (i := 217) (by decide +kernel), List.mem_of_getElem? (i := 379) (by decide +kernel), List.mem_of_getElem? (i := 380) (by decide +kernel)⟩
theorem lw_p1 : lw_okq (⟨"PreimageAnalyzer$SubsetAutomaton", "placeOf", "(III)I"⟩, 9) := ⟨⟨by decide +kernel, by decide +kernel⟩, List.mem_of_getElem? (i := 217) (by decide +kernel), List.mem_of_getElem? (i := 386) (by decide +kernel), List.mem_of_getElem? (i := 387) (by decide +kernel)⟩
theorem lw_p2 : lw_okq (⟨"PreimageAnalyzer$SubsetAutomaton", "successors", "(LPreimageAnalyzer$Rule;II)I"⟩, 9) := ⟨⟨by decide +kernel, by decide +kernel⟩, List.mem_of_getElem? (i := 217) (by decide +kernel), List.mem_of_getElem? (i := 390) (by decide +kernel), List.mem_of_getElem? (i := 391) (by decide +kernel)⟩
theorem lw_p3 : lw_okq (⟨"PreimageAnalyzer$NodePairs", "readSteps", "(LPreimageAnalyzer$Rule;)V"⟩, 1) := ⟨⟨by decide +kernel, by decide +kernel⟩, List.mem_of_getElem? (i := 252) (by decide +kernel), List.mem_of_getElem? (i := 402) (by decide +kernel), List.mem_of_getElem? (i := 403) (by decide +kernel)⟩
theorem lw_p4 : lw_okq (⟨"java/lang/Throwable", "fillInStackTrace", "(I)Ljava/lang/Throwable;"⟩, 6) := ⟨⟨by decide +kernel, by decide +kernel⟩, List.mem_of_getElem? (i := 486) (by decide +kernel), List.mem_of_getElem? (i := 484) (by decide +kernel), List.mem_of_getElem? (i := 485) (by decide +kernel)⟩
theorem lw_p5 : lw_okq (⟨"PreimageAnalyzer", "needNeighborhood", "(I)V"⟩, 13) := ⟨⟨by decide +kernel, by decide +kernel⟩, List.mem_of_getElem? (i := 33) (by decide +kernel), List.mem_of_getElem? (i := 573) (by decide +kernel), List.mem_of_getElem? (i := 574) (by decide +kernel)⟩
theorem lw_p6 : lw_okq (⟨"PreimageAnalyzer$Formula", "readSign", "(III)I"⟩, 10) := ⟨⟨by decide +kernel, by decide +kernel⟩, List.mem_of_getElem? (i := 130) (by decide +kernel), List.mem_of_getElem? (i := 661) (by decide +kernel), List.mem_of_getElem? (i := 662) (by decide +kernel)⟩
theorem lw_p7 : lw_okq (⟨"PreimageAnalyzer$Formula", "readOperand", "(II)I"⟩, 10) := ⟨⟨by decide +kernel, by decide +kernel⟩, List.mem_of_getElem? (i := 130) (by decide +kernel), List.mem_of_getElem? (i := 665) (by decide +kernel), List.mem_of_getElem? (i := 666) (by decide +kernel)⟩
theorem lw_p8 : lw_okq (⟨"PreimageAnalyzer$Formula", "emit", "(I)V"⟩, 10) := ⟨⟨by decide +kernel, by decide +kernel⟩, List.mem_of_getElem? (i := 130) (by decide +kernel), List.mem_of_getElem? (i := 669) (by decide +kernel), List.mem_of_getElem? (i := 670) (by decide +kernel)⟩
theorem lw_p9 : lw_okq (⟨"PreimageAnalyzer$Formula", "endFactor", "()I"⟩, 10) := ⟨⟨by decide +kernel, by decide +kernel⟩, List.mem_of_getElem? (i := 130) (by decide +kernel), List.mem_of_getElem? (i := 673) (by decide +kernel), List.mem_of_getElem? (i := 674) (by decide +kernel)⟩
theorem lw_p10 : lw_okq (⟨"PreimageAnalyzer$Formula", "lastWaiting", "()I"⟩, 10) := ⟨⟨by decide +kernel, by decide +kernel⟩, List.mem_of_getElem? (i := 130) (by decide +kernel), List.mem_of_getElem? (i := 677) (by decide +kernel), List.mem_of_getElem? (i := 678) (by decide +kernel)⟩
theorem lw_p11 : lw_okq (⟨"PreimageAnalyzer$Formula", "hold", "(II)I"⟩, 10) := ⟨⟨by decide +kernel, by decide +kernel⟩, List.mem_of_getElem? (i := 130) (by decide +kernel), List.mem_of_getElem? (i := 681) (by decide +kernel), List.mem_of_getElem? (i := 682) (by decide +kernel)⟩
theorem lw_p12 : lw_okq (⟨"PreimageAnalyzer$Formula", "refuse", "()I"⟩, 10) := ⟨⟨by decide +kernel, by decide +kernel⟩, List.mem_of_getElem? (i := 130) (by decide +kernel), List.mem_of_getElem? (i := 685) (by decide +kernel), List.mem_of_getElem? (i := 686) (by decide +kernel)⟩
theorem lw_p13 : lw_okq (⟨"PreimageAnalyzer$Formula", "readOperator", "(I)I"⟩, 10) := ⟨⟨by decide +kernel, by decide +kernel⟩, List.mem_of_getElem? (i := 130) (by decide +kernel), List.mem_of_getElem? (i := 689) (by decide +kernel), List.mem_of_getElem? (i := 690) (by decide +kernel)⟩
theorem lw_p14 : lw_okq (⟨"PreimageAnalyzer$Formula", "moveOperators", "(I)V"⟩, 10) := ⟨⟨by decide +kernel, by decide +kernel⟩, List.mem_of_getElem? (i := 130) (by decide +kernel), List.mem_of_getElem? (i := 697) (by decide +kernel), List.mem_of_getElem? (i := 698) (by decide +kernel)⟩
theorem lw_p15 : lw_okq (⟨"PreimageAnalyzer$Formula", "valueForCells", "()I"⟩, 10) := ⟨⟨by decide +kernel, by decide +kernel⟩, List.mem_of_getElem? (i := 130) (by decide +kernel), List.mem_of_getElem? (i := 706) (by decide +kernel), List.mem_of_getElem? (i := 707) (by decide +kernel)⟩
def lw_privs_1 : List (MethodName × Nat) := [(⟨"PreimageAnalyzer$SubsetAutomaton", "readSingle", "(LPreimageAnalyzer$Rule;)V"⟩, 9), (⟨"PreimageAnalyzer$SubsetAutomaton", "placeOf", "(III)I"⟩, 9), (⟨"PreimageAnalyzer$SubsetAutomaton", "successors", "(LPreimageAnalyzer$Rule;II)I"⟩, 9), (⟨"PreimageAnalyzer$NodePairs", "readSteps", "(LPreimageAnalyzer$Rule;)V"⟩, 1), (⟨"java/lang/Throwable", "fillInStackTrace", "(I)Ljava/lang/Throwable;"⟩, 6), (⟨"PreimageAnalyzer", "needNeighborhood", "(I)V"⟩, 13), (⟨"PreimageAnalyzer$Formula", "readSign", "(III)I"⟩, 10), (⟨"PreimageAnalyzer$Formula", "readOperand", "(II)I"⟩, 10), (⟨"PreimageAnalyzer$Formula", "emit", "(I)V"⟩, 10), (⟨"PreimageAnalyzer$Formula", "endFactor", "()I"⟩, 10), (⟨"PreimageAnalyzer$Formula", "lastWaiting", "()I"⟩, 10), (⟨"PreimageAnalyzer$Formula", "hold", "(II)I"⟩, 10), (⟨"PreimageAnalyzer$Formula", "refuse", "()I"⟩, 10), (⟨"PreimageAnalyzer$Formula", "readOperator", "(I)I"⟩, 10), (⟨"PreimageAnalyzer$Formula", "moveOperators", "(I)V"⟩, 10), (⟨"PreimageAnalyzer$Formula", "valueForCells", "()I"⟩, 10)]
theorem lw_r1 : ∀ q ∈ lw_privs_1, lw_okq q := List.forall_mem_cons.mpr ⟨lw_p0, List.forall_mem_cons.mpr ⟨lw_p1, List.forall_mem_cons.mpr ⟨lw_p2, List.forall_mem_cons.mpr ⟨lw_p3, List.forall_mem_cons.mpr ⟨lw_p4, List.forall_mem_cons.mpr ⟨lw_p5, List.forall_mem_cons.mpr ⟨lw_p6, List.forall_mem_cons.mpr ⟨lw_p7, List.forall_mem_cons.mpr ⟨lw_p8, List.forall_mem_cons.mpr ⟨lw_p9, List.forall_mem_cons.mpr ⟨lw_p10, List.forall_mem_cons.mpr ⟨lw_p11, List.forall_mem_cons.mpr ⟨lw_p12, List.forall_mem_cons.mpr ⟨lw_p13, List.forall_mem_cons.mpr ⟨lw_p14, List.forall_mem_cons.mpr ⟨lw_p15, fun _ h => absurd h List.not_mem_nil⟩⟩⟩⟩⟩⟩⟩⟩⟩⟩⟩⟩⟩⟩⟩⟩
theorem lw_p16 : lw_okq (⟨"PreimageAnalyzer$Formula", "combine", "(III)I"⟩, 10) := ⟨⟨by decide +kernel, by decide +kernel⟩, List.mem_of_getElem? (i := 130) (by decide +kernel), List.mem_of_getElem? (i := 710) (by decide +kernel), List.mem_of_getElem? (i := 711) (by decide +kernel)⟩
theorem lw_p17 : lw_okq (⟨"PreimageAnalyzer$Images", "readLabels", "(LPreimageAnalyzer$Rule;I)I"⟩, 4) := ⟨⟨by decide +kernel, by decide +kernel⟩, List.mem_of_getElem? (i := 170) (by decide +kernel), List.mem_of_getElem? (i := 748) (by decide +kernel), List.mem_of_getElem? (i := 749) (by decide +kernel)⟩
theorem lw_p18 : lw_okq (⟨"PreimageAnalyzer", "takeLabels", "(I)V"⟩, 13) := ⟨⟨by decide +kernel, by decide +kernel⟩, List.mem_of_getElem? (i := 33) (by decide +kernel), List.mem_of_getElem? (i := 1075) (by decide +kernel), List.mem_of_getElem? (i := 1076) (by decide +kernel)⟩
theorem lw_p19 : lw_okq (⟨"PreimageAnalyzer$Paths", "countTo", "(LPreimageAnalyzer$Rule;I)V"⟩, 5) := ⟨⟨by decide +kernel, by decide +kernel⟩, List.mem_of_getElem? (i := 191) (by decide +kernel), List.mem_of_getElem? (i := 1092) (by decide +kernel), List.mem_of_getElem? (i := 1093) (by decide +kernel)⟩
theorem lw_p20 : lw_okq (⟨"PreimageAnalyzer$Paths", "countBackwards", "(LPreimageAnalyzer$Rule;)V"⟩, 5) := ⟨⟨by decide +kernel, by decide +kernel⟩, List.mem_of_getElem? (i := 191) (by decide +kernel), List.mem_of_getElem? (i := 1097) (by decide +kernel), List.mem_of_getElem? (i := 1098) (by decide +kernel)⟩
theorem lw_p21 : lw_okq (⟨"PreimageAnalyzer$Paths", "waysBy", "(LPreimageAnalyzer$Rule;II)I"⟩, 5) := ⟨⟨by decide +kernel, by decide +kernel⟩, List.mem_of_getElem? (i := 191) (by decide +kernel), List.mem_of_getElem? (i := 1101) (by decide +kernel), List.mem_of_getElem? (i := 1102) (by decide +kernel)⟩
theorem lw_p22 : lw_okq (⟨"PreimageAnalyzer$Paths", "countToAnywhere", "(LPreimageAnalyzer$Rule;)V"⟩, 5) := ⟨⟨by decide +kernel, by decide +kernel⟩, List.mem_of_getElem? (i := 191) (by decide +kernel), List.mem_of_getElem? (i := 1109) (by decide +kernel), List.mem_of_getElem? (i := 1110) (by decide +kernel)⟩
theorem lw_p23 : lw_okq (⟨"PreimageAnalyzer$Paths", "walk", "(LPreimageAnalyzer$Rule;II)I"⟩, 5) := ⟨⟨by decide +kernel, by decide +kernel⟩, List.mem_of_getElem? (i := 191) (by decide +kernel), List.mem_of_getElem? (i := 1129) (by decide +kernel), List.mem_of_getElem? (i := 1130) (by decide +kernel)⟩
theorem lw_p24 : lw_okq (⟨"PreimageAnalyzer", "needNode", "(I)V"⟩, 13) := ⟨⟨by decide +kernel, by decide +kernel⟩, List.mem_of_getElem? (i := 33) (by decide +kernel), List.mem_of_getElem? (i := 1164) (by decide +kernel), List.mem_of_getElem? (i := 1165) (by decide +kernel)⟩
theorem lw_p25 : lw_okq (⟨"PreimageAnalyzer$Paths", "stepForward", "(LPreimageAnalyzer$Rule;I)V"⟩, 5) := ⟨⟨by decide +kernel, by decide +kernel⟩, List.mem_of_getElem? (i := 191) (by decide +kernel), List.mem_of_getElem? (i := 1185) (by decide +kernel), List.mem_of_getElem? (i := 1186) (by decide +kernel)⟩
theorem lw_p26 : lw_okq (⟨"PreimageAnalyzer$Paths", "moveToNextWord", "(LPreimageAnalyzer$Rule;I)I"⟩, 5) := ⟨⟨by decide +kernel, by decide +kernel⟩, List.mem_of_getElem? (i := 191) (by decide +kernel), List.mem_of_getElem? (i := 1190) (by decide +kernel), List.mem_of_getElem? (i := 1191) (by decide +kernel)⟩
theorem lw_p27 : lw_okq (⟨"PreimageAnalyzer$SubsetAutomaton", "countNext", "(LPreimageAnalyzer$Rule;)V"⟩, 9) := ⟨⟨by decide +kernel, by decide +kernel⟩, List.mem_of_getElem? (i := 217) (by decide +kernel), List.mem_of_getElem? (i := 1238) (by decide +kernel), List.mem_of_getElem? (i := 1239) (by decide +kernel)⟩
theorem lw_p28 : lw_okq (⟨"PreimageAnalyzer$Rule", "areDifferent", "(II)Z"⟩, 9) := ⟨⟨by decide +kernel, by decide +kernel⟩, List.mem_of_getElem? (i := 41) (by decide +kernel), List.mem_of_getElem? (i := 1273) (by decide +kernel), List.mem_of_getElem? (i := 1274) (by decide +kernel)⟩
theorem lw_p29 : lw_okq (⟨"PreimageAnalyzer", "needInverse", "()V"⟩, 13) := ⟨⟨by decide +kernel, by decide +kernel⟩, List.mem_of_getElem? (i := 33) (by decide +kernel), List.mem_of_getElem? (i := 1294) (by decide +kernel), List.mem_of_getElem? (i := 1295) (by decide +kernel)⟩
theorem lw_p30 : lw_okq (⟨"PreimageAnalyzer$InverseSearch", "lengthenWords", "(LPreimageAnalyzer$Rule;I)V"⟩, 4) := ⟨⟨by decide +kernel, by decide +kernel⟩, List.mem_of_getElem? (i := 263) (by decide +kernel), List.mem_of_getElem? (i := 1304) (by decide +kernel), List.mem_of_getElem? (i := 1305) (by decide +kernel)⟩
theorem lw_p31 : lw_okq (⟨"PreimageAnalyzer$InverseSearch", "commonPositions", "(LPreimageAnalyzer$Rule;I)I"⟩, 4) := ⟨⟨by decide +kernel, by decide +kernel⟩, List.mem_of_getElem? (i := 263) (by decide +kernel), List.mem_of_getElem? (i := 1309) (by decide +kernel), List.mem_of_getElem? (i := 1310) (by decide +kernel)⟩
def lw_privs_2 : List (MethodName × Nat) := [(⟨"PreimageAnalyzer$Formula", "combine", "(III)I"⟩, 10), (⟨"PreimageAnalyzer$Images", "readLabels", "(LPreimageAnalyzer$Rule;I)I"⟩, 4), (⟨"PreimageAnalyzer", "takeLabels", "(I)V"⟩, 13), (⟨"PreimageAnalyzer$Paths", "countTo", "(LPreimageAnalyzer$Rule;I)V"⟩, 5), (⟨"PreimageAnalyzer$Paths", "countBackwards", "(LPreimageAnalyzer$Rule;)V"⟩, 5), (⟨"PreimageAnalyzer$Paths", "waysBy", "(LPreimageAnalyzer$Rule;II)I"⟩, 5), (⟨"PreimageAnalyzer$Paths", "countToAnywhere", "(LPreimageAnalyzer$Rule;)V"⟩, 5), (⟨"PreimageAnalyzer$Paths", "walk", "(LPreimageAnalyzer$Rule;II)I"⟩, 5), (⟨"PreimageAnalyzer", "needNode", "(I)V"⟩, 13), (⟨"PreimageAnalyzer$Paths", "stepForward", "(LPreimageAnalyzer$Rule;I)V"⟩, 5), (⟨"PreimageAnalyzer$Paths", "moveToNextWord", "(LPreimageAnalyzer$Rule;I)I"⟩, 5), (⟨"PreimageAnalyzer$SubsetAutomaton", "countNext", "(LPreimageAnalyzer$Rule;)V"⟩, 9), (⟨"PreimageAnalyzer$Rule", "areDifferent", "(II)Z"⟩, 9), (⟨"PreimageAnalyzer", "needInverse", "()V"⟩, 13), (⟨"PreimageAnalyzer$InverseSearch", "lengthenWords", "(LPreimageAnalyzer$Rule;I)V"⟩, 4), (⟨"PreimageAnalyzer$InverseSearch", "commonPositions", "(LPreimageAnalyzer$Rule;I)I"⟩, 4)]
theorem lw_r2 : ∀ q ∈ lw_privs_2, lw_okq q := List.forall_mem_cons.mpr ⟨lw_p16, List.forall_mem_cons.mpr ⟨lw_p17, List.forall_mem_cons.mpr ⟨lw_p18, List.forall_mem_cons.mpr ⟨lw_p19, List.forall_mem_cons.mpr ⟨lw_p20, List.forall_mem_cons.mpr ⟨lw_p21, List.forall_mem_cons.mpr ⟨lw_p22, List.forall_mem_cons.mpr ⟨lw_p23, List.forall_mem_cons.mpr ⟨lw_p24, List.forall_mem_cons.mpr ⟨lw_p25, List.forall_mem_cons.mpr ⟨lw_p26, List.forall_mem_cons.mpr ⟨lw_p27, List.forall_mem_cons.mpr ⟨lw_p28, List.forall_mem_cons.mpr ⟨lw_p29, List.forall_mem_cons.mpr ⟨lw_p30, List.forall_mem_cons.mpr ⟨lw_p31, fun _ h => absurd h List.not_mem_nil⟩⟩⟩⟩⟩⟩⟩⟩⟩⟩⟩⟩⟩⟩⟩⟩
theorem lw_p32 : lw_okq (⟨"PreimageAnalyzerModel", "no", "(I)I"⟩, 42) := ⟨⟨by decide +kernel, by decide +kernel⟩, List.mem_of_getElem? (i := 1344) (by decide +kernel), List.mem_of_getElem? (i := 1492) (by decide +kernel), List.mem_of_getElem? (i := 1493) (by decide +kernel)⟩
theorem lw_p33 : lw_okq (⟨"PreimageAnalyzerModel", "all", "()I"⟩, 42) := ⟨⟨by decide +kernel, by decide +kernel⟩, List.mem_of_getElem? (i := 1344) (by decide +kernel), List.mem_of_getElem? (i := 1496) (by decide +kernel), List.mem_of_getElem? (i := 1497) (by decide +kernel)⟩
theorem lw_p34 : lw_okq (⟨"PreimageAnalyzerModel", "power", "(I)I"⟩, 42) := ⟨⟨by decide +kernel, by decide +kernel⟩, List.mem_of_getElem? (i := 1344) (by decide +kernel), List.mem_of_getElem? (i := 1500) (by decide +kernel), List.mem_of_getElem? (i := 1501) (by decide +kernel)⟩
theorem lw_p35 : lw_okq (⟨"PreimageAnalyzerModel", "nodes", "()I"⟩, 42) := ⟨⟨by decide +kernel, by decide +kernel⟩, List.mem_of_getElem? (i := 1344) (by decide +kernel), List.mem_of_getElem? (i := 1508) (by decide +kernel), List.mem_of_getElem? (i := 1509) (by decide +kernel)⟩
theorem lw_p36 : lw_okq (⟨"PreimageAnalyzerModel", "becomes", "()I"⟩, 42) := ⟨⟨by decide +kernel, by decide +kernel⟩, List.mem_of_getElem? (i := 1344) (by decide +kernel), List.mem_of_getElem? (i := 1524) (by decide +kernel), List.mem_of_getElem? (i := 1525) (by decide +kernel)⟩
theorem lw_p37 : lw_okq (⟨"PreimageAnalyzerModel", "numberOf", "([I)J"⟩, 42) := ⟨⟨by decide +kernel, by decide +kernel⟩, List.mem_of_getElem? (i := 1344) (by decide +kernel), List.mem_of_getElem? (i := 1532) (by decide +kernel), List.mem_of_getElem? (i := 1533) (by decide +kernel)⟩
theorem lw_p38 : lw_okq (⟨"PreimageAnalyzerModel", "mirrors", "([I[I)V"⟩, 42) := ⟨⟨by decide +kernel, by decide +kernel⟩, List.mem_of_getElem? (i := 1344) (by decide +kernel), List.mem_of_getElem? (i := 1540) (by decide +kernel), List.mem_of_getElem? (i := 1541) (by decide +kernel)⟩
theorem lw_p39 : lw_okq (⟨"PreimageAnalyzerModel", "turned", "(II)I"⟩, 42) := ⟨⟨by decide +kernel, by decide +kernel⟩, List.mem_of_getElem? (i := 1344) (by decide +kernel), List.mem_of_getElem? (i := 1544) (by decide +kernel), List.mem_of_getElem? (i := 1545) (by decide +kernel)⟩
theorem lw_p40 : lw_okq (⟨"PreimageAnalyzerModel", "complements", "([I[I)V"⟩, 42) := ⟨⟨by decide +kernel, by decide +kernel⟩, List.mem_of_getElem? (i := 1344) (by decide +kernel), List.mem_of_getElem? (i := 1552) (by decide +kernel), List.mem_of_getElem? (i := 1553) (by decide +kernel)⟩
theorem lw_p41 : lw_okq (⟨"PreimageAnalyzerModel", "imageOf", "(II[II)I"⟩, 42) := ⟨⟨by decide +kernel, by decide +kernel⟩, List.mem_of_getElem? (i := 1344) (by decide +kernel), List.mem_of_getElem? (i := 1564) (by decide +kernel), List.mem_of_getElem? (i := 1565) (by decide +kernel)⟩
theorem lw_p42 : lw_okq (⟨"PreimageAnalyzerModel", "isFormula", "()Z"⟩, 42) := ⟨⟨by decide +kernel, by decide +kernel⟩, List.mem_of_getElem? (i := 1344) (by decide +kernel), List.mem_of_getElem? (i := 1576) (by decide +kernel), List.mem_of_getElem? (i := 1577) (by decide +kernel)⟩
theorem lw_p43 : lw_okq (⟨"PreimageAnalyzerModel", "lets", "(I)V"⟩, 42) := ⟨⟨by decide +kernel, by decide +kernel⟩, List.mem_of_getElem? (i := 1344) (by decide +kernel), List.mem_of_getElem? (i := 1580) (by decide +kernel), List.mem_of_getElem? (i := 1581) (by decide +kernel)⟩
theorem lw_p44 : lw_okq (⟨"PreimageAnalyzerModel", "top", "()I"⟩, 42) := ⟨⟨by decide +kernel, by decide +kernel⟩, List.mem_of_getElem? (i := 1344) (by decide +kernel), List.mem_of_getElem? (i := 1584) (by decide +kernel), List.mem_of_getElem? (i := 1585) (by decide +kernel)⟩
theorem lw_p45 : lw_okq (⟨"PreimageAnalyzerModel", "emits", "(I)V"⟩, 42) := ⟨⟨by decide +kernel, by decide +kernel⟩, List.mem_of_getElem? (i := 1344) (by decide +kernel), List.mem_of_getElem? (i := 1591) (by decide +kernel), List.mem_of_getElem? (i := 1592) (by decide +kernel)⟩
theorem lw_p46 : lw_okq (⟨"PreimageAnalyzerModel", "fails", "(I)Z"⟩, 42) := ⟨⟨by decide +kernel, by decide +kernel⟩, List.mem_of_getElem? (i := 1344) (by decide +kernel), List.mem_of_getElem? (i := 1595) (by decide +kernel), List.mem_of_getElem? (i := 1596) (by decide +kernel)⟩
theorem lw_p47 : lw_okq (⟨"PreimageAnalyzerModel", "isBegun", "()Z"⟩, 42) := ⟨⟨by decide +kernel, by decide +kernel⟩, List.mem_of_getElem? (i := 1344) (by decide +kernel), List.mem_of_getElem? (i := 1599) (by decide +kernel), List.mem_of_getElem? (i := 1600) (by decide +kernel)⟩
def lw_privs_3 : List (MethodName × Nat) := [(⟨"PreimageAnalyzerModel", "no", "(I)I"⟩, 42), (⟨"PreimageAnalyzerModel", "all", "()I"⟩, 42), (⟨"PreimageAnalyzerModel", "power", "(I)I"⟩, 42), (⟨"PreimageAnalyzerModel", "nodes", "()I"⟩, 42), (⟨"PreimageAnalyzerModel", "becomes", "()I"⟩, 42), (⟨"PreimageAnalyzerModel", "numberOf", "([I)J"⟩, 42), (⟨"PreimageAnalyzerModel", "mirrors", "([I[I)V"⟩, 42), (⟨"PreimageAnalyzerModel", "turned", "(II)I"⟩, 42), (⟨"PreimageAnalyzerModel", "complements", "([I[I)V"⟩, 42), (⟨"PreimageAnalyzerModel", "imageOf", "(II[II)I"⟩, 42), (⟨"PreimageAnalyzerModel", "isFormula", "()Z"⟩, 42), (⟨"PreimageAnalyzerModel", "lets", "(I)V"⟩, 42), (⟨"PreimageAnalyzerModel", "top", "()I"⟩, 42), (⟨"PreimageAnalyzerModel", "emits", "(I)V"⟩, 42), (⟨"PreimageAnalyzerModel", "fails", "(I)Z"⟩, 42), (⟨"PreimageAnalyzerModel", "isBegun", "()Z"⟩, 42)]
theorem lw_r3 : ∀ q ∈ lw_privs_3, lw_okq q := List.forall_mem_cons.mpr ⟨lw_p32, List.forall_mem_cons.mpr ⟨lw_p33, List.forall_mem_cons.mpr ⟨lw_p34, List.forall_mem_cons.mpr ⟨lw_p35, List.forall_mem_cons.mpr ⟨lw_p36, List.forall_mem_cons.mpr ⟨lw_p37, List.forall_mem_cons.mpr ⟨lw_p38, List.forall_mem_cons.mpr ⟨lw_p39, List.forall_mem_cons.mpr ⟨lw_p40, List.forall_mem_cons.mpr ⟨lw_p41, List.forall_mem_cons.mpr ⟨lw_p42, List.forall_mem_cons.mpr ⟨lw_p43, List.forall_mem_cons.mpr ⟨lw_p44, List.forall_mem_cons.mpr ⟨lw_p45, List.forall_mem_cons.mpr ⟨lw_p46, List.forall_mem_cons.mpr ⟨lw_p47, fun _ h => absurd h List.not_mem_nil⟩⟩⟩⟩⟩⟩⟩⟩⟩⟩⟩⟩⟩⟩⟩⟩
theorem lw_p48 : lw_okq (⟨"PreimageAnalyzerModel", "here", "()I"⟩, 42) := ⟨⟨by decide +kernel, by decide +kernel⟩, List.mem_of_getElem? (i := 1344) (by decide +kernel), List.mem_of_getElem? (i := 1603) (by decide +kernel), List.mem_of_getElem? (i := 1604) (by decide +kernel)⟩
theorem lw_p49 : lw_okq (⟨"PreimageAnalyzerModel", "waitsFor", "(I)V"⟩, 42) := ⟨⟨by decide +kernel, by decide +kernel⟩, List.mem_of_getElem? (i := 1344) (by decide +kernel), List.mem_of_getElem? (i := 1607) (by decide +kernel), List.mem_of_getElem? (i := 1608) (by decide +kernel)⟩
theorem lw_p50 : lw_okq (⟨"PreimageAnalyzerModel", "isWrong", "()Z"⟩, 42) := ⟨⟨by decide +kernel, by decide +kernel⟩, List.mem_of_getElem? (i := 1344) (by decide +kernel), List.mem_of_getElem? (i := 1611) (by decide +kernel), List.mem_of_getElem? (i := 1612) (by decide +kernel)⟩
theorem lw_p51 : lw_okq (⟨"PreimageAnalyzerModel", "isGone", "()Z"⟩, 42) := ⟨⟨by decide +kernel, by decide +kernel⟩, List.mem_of_getElem? (i := 1344) (by decide +kernel), List.mem_of_getElem? (i := 1615) (by decide +kernel), List.mem_of_getElem? (i := 1616) (by decide +kernel)⟩
theorem lw_p52 : lw_okq (⟨"PreimageAnalyzerModel", "value", "(I)I"⟩, 42) := ⟨⟨by decide +kernel, by decide +kernel⟩, List.mem_of_getElem? (i := 1344) (by decide +kernel), List.mem_of_getElem? (i := 1619) (by decide +kernel), List.mem_of_getElem? (i := 1620) (by decide +kernel)⟩
theorem lw_p53 : lw_okq (⟨"PreimageAnalyzerModel", "isOne", "(I)Z"⟩, 42) := ⟨⟨by decide +kernel, by decide +kernel⟩, List.mem_of_getElem? (i := 1344) (by decide +kernel), List.mem_of_getElem? (i := 1631) (by decide +kernel), List.mem_of_getElem? (i := 1632) (by decide +kernel)⟩
theorem lw_p54 : lw_okq (⟨"PreimageAnalyzerModel", "cellOf", "(II)I"⟩, 42) := ⟨⟨by decide +kernel, by decide +kernel⟩, List.mem_of_getElem? (i := 1344) (by decide +kernel), List.mem_of_getElem? (i := 1650) (by decide +kernel), List.mem_of_getElem? (i := 1651) (by decide +kernel)⟩
theorem lw_p55 : lw_okq (⟨"PreimageAnalyzerModel", "cyclicImage", "(II)I"⟩, 42) := ⟨⟨by decide +kernel, by decide +kernel⟩, List.mem_of_getElem? (i := 1344) (by decide +kernel), List.mem_of_getElem? (i := 1658) (by decide +kernel), List.mem_of_getElem? (i := 1659) (by decide +kernel)⟩
theorem lw_p56 : lw_okq (⟨"PreimageAnalyzerModel", "count", "(IZ)I"⟩, 42) := ⟨⟨by decide +kernel, by decide +kernel⟩, List.mem_of_getElem? (i := 1344) (by decide +kernel), List.mem_of_getElem? (i := 1670) (by decide +kernel), List.mem_of_getElem? (i := 1671) (by decide +kernel)⟩
theorem lw_p57 : lw_okq (⟨"PreimageAnalyzerModel", "findsWays", "(II)V"⟩, 42) := ⟨⟨by decide +kernel, by decide +kernel⟩, List.mem_of_getElem? (i := 1344) (by decide +kernel), List.mem_of_getElem? (i := 1674) (by decide +kernel), List.mem_of_getElem? (i := 1675) (by decide +kernel)⟩
theorem lw_p58 : lw_okq (⟨"PreimageAnalyzerModel", "label", "(II)I"⟩, 42) := ⟨⟨by decide +kernel, by decide +kernel⟩, List.mem_of_getElem? (i := 1344) (by decide +kernel), List.mem_of_getElem? (i := 1678) (by decide +kernel), List.mem_of_getElem? (i := 1679) (by decide +kernel)⟩
theorem lw_p59 : lw_okq (⟨"PreimageAnalyzerModel", "goal", "(II)I"⟩, 42) := ⟨⟨by decide +kernel, by decide +kernel⟩, List.mem_of_getElem? (i := 1344) (by decide +kernel), List.mem_of_getElem? (i := 1682) (by decide +kernel), List.mem_of_getElem? (i := 1683) (by decide +kernel)⟩
theorem lw_p60 : lw_okq (⟨"PreimageAnalyzerModel", "shortOne", "(II)I"⟩, 42) := ⟨⟨by decide +kernel, by decide +kernel⟩, List.mem_of_getElem? (i := 1344) (by decide +kernel), List.mem_of_getElem? (i := 1690) (by decide +kernel), List.mem_of_getElem? (i := 1691) (by decide +kernel)⟩
theorem lw_p61 : lw_okq (⟨"PreimageAnalyzerModel", "longOne", "(IZI)I"⟩, 42) := ⟨⟨by decide +kernel, by decide +kernel⟩, List.mem_of_getElem? (i := 1344) (by decide +kernel), List.mem_of_getElem? (i := 1694) (by decide +kernel), List.mem_of_getElem? (i := 1695) (by decide +kernel)⟩
theorem lw_p62 : lw_okq (⟨"PreimageAnalyzerModel", "preimages", "(II)I"⟩, 42) := ⟨⟨by decide +kernel, by decide +kernel⟩, List.mem_of_getElem? (i := 1344) (by decide +kernel), List.mem_of_getElem? (i := 1706) (by decide +kernel), List.mem_of_getElem? (i := 1707) (by decide +kernel)⟩
theorem lw_p63 : lw_okq (⟨"PreimageAnalyzerModel", "findsSets", "()V"⟩, 42) := ⟨⟨by decide +kernel, by decide +kernel⟩, List.mem_of_getElem? (i := 1344) (by decide +kernel), List.mem_of_getElem? (i := 1726) (by decide +kernel), List.mem_of_getElem? (i := 1727) (by decide +kernel)⟩
def lw_privs_4 : List (MethodName × Nat) := [(⟨"PreimageAnalyzerModel", "here", "()I"⟩, 42), (⟨"PreimageAnalyzerModel", "waitsFor", "(I)V"⟩, 42), (⟨"PreimageAnalyzerModel", "isWrong", "()Z"⟩, 42), (⟨"PreimageAnalyzerModel", "isGone", "()Z"⟩, 42), (⟨"PreimageAnalyzerModel", "value", "(I)I"⟩, 42), (⟨"PreimageAnalyzerModel", "isOne", "(I)Z"⟩, 42), (⟨"PreimageAnalyzerModel", "cellOf", "(II)I"⟩, 42), (⟨"PreimageAnalyzerModel", "cyclicImage", "(II)I"⟩, 42), (⟨"PreimageAnalyzerModel", "count", "(IZ)I"⟩, 42), (⟨"PreimageAnalyzerModel", "findsWays", "(II)V"⟩, 42), (⟨"PreimageAnalyzerModel", "label", "(II)I"⟩, 42), (⟨"PreimageAnalyzerModel", "goal", "(II)I"⟩, 42), (⟨"PreimageAnalyzerModel", "shortOne", "(II)I"⟩, 42), (⟨"PreimageAnalyzerModel", "longOne", "(IZI)I"⟩, 42), (⟨"PreimageAnalyzerModel", "preimages", "(II)I"⟩, 42), (⟨"PreimageAnalyzerModel", "findsSets", "()V"⟩, 42)]
theorem lw_r4 : ∀ q ∈ lw_privs_4, lw_okq q := List.forall_mem_cons.mpr ⟨lw_p48, List.forall_mem_cons.mpr ⟨lw_p49, List.forall_mem_cons.mpr ⟨lw_p50, List.forall_mem_cons.mpr ⟨lw_p51, List.forall_mem_cons.mpr ⟨lw_p52, List.forall_mem_cons.mpr ⟨lw_p53, List.forall_mem_cons.mpr ⟨lw_p54, List.forall_mem_cons.mpr ⟨lw_p55, List.forall_mem_cons.mpr ⟨lw_p56, List.forall_mem_cons.mpr ⟨lw_p57, List.forall_mem_cons.mpr ⟨lw_p58, List.forall_mem_cons.mpr ⟨lw_p59, List.forall_mem_cons.mpr ⟨lw_p60, List.forall_mem_cons.mpr ⟨lw_p61, List.forall_mem_cons.mpr ⟨lw_p62, List.forall_mem_cons.mpr ⟨lw_p63, fun _ h => absurd h List.not_mem_nil⟩⟩⟩⟩⟩⟩⟩⟩⟩⟩⟩⟩⟩⟩⟩⟩
theorem lw_p64 : lw_okq (⟨"PreimageAnalyzerModel", "reaches", "(IIII)V"⟩, 42) := ⟨⟨by decide +kernel, by decide +kernel⟩, List.mem_of_getElem? (i := 1344) (by decide +kernel), List.mem_of_getElem? (i := 1730) (by decide +kernel), List.mem_of_getElem? (i := 1731) (by decide +kernel)⟩
theorem lw_p65 : lw_okq (⟨"PreimageAnalyzerModel", "successors", "(II)I"⟩, 42) := ⟨⟨by decide +kernel, by decide +kernel⟩, List.mem_of_getElem? (i := 1344) (by decide +kernel), List.mem_of_getElem? (i := 1734) (by decide +kernel), List.mem_of_getElem? (i := 1735) (by decide +kernel)⟩
theorem lw_p66 : lw_okq (⟨"PreimageAnalyzerModel", "pairs", "()I"⟩, 42) := ⟨⟨by decide +kernel, by decide +kernel⟩, List.mem_of_getElem? (i := 1344) (by decide +kernel), List.mem_of_getElem? (i := 1750) (by decide +kernel), List.mem_of_getElem? (i := 1751) (by decide +kernel)⟩
theorem lw_p67 : lw_okq (⟨"PreimageAnalyzerModel", "isPermutive", "(I)Z"⟩, 42) := ⟨⟨by decide +kernel, by decide +kernel⟩, List.mem_of_getElem? (i := 1344) (by decide +kernel), List.mem_of_getElem? (i := 1758) (by decide +kernel), List.mem_of_getElem? (i := 1759) (by decide +kernel)⟩
theorem lw_p68 : lw_okq (⟨"PreimageAnalyzerModel", "isBalanced", "()Z"⟩, 42) := ⟨⟨by decide +kernel, by decide +kernel⟩, List.mem_of_getElem? (i := 1344) (by decide +kernel), List.mem_of_getElem? (i := 1762) (by decide +kernel), List.mem_of_getElem? (i := 1763) (by decide +kernel)⟩
theorem lw_p69 : lw_okq (⟨"PreimageAnalyzerModel", "isMade", "()Z"⟩, 42) := ⟨⟨by decide +kernel, by decide +kernel⟩, List.mem_of_getElem? (i := 1344) (by decide +kernel), List.mem_of_getElem? (i := 1766) (by decide +kernel), List.mem_of_getElem? (i := 1767) (by decide +kernel)⟩
theorem lw_p70 : lw_okq (⟨"PreimageAnalyzerModel", "hasInverse", "()Z"⟩, 42) := ⟨⟨by decide +kernel, by decide +kernel⟩, List.mem_of_getElem? (i := 1344) (by decide +kernel), List.mem_of_getElem? (i := 1774) (by decide +kernel), List.mem_of_getElem? (i := 1775) (by decide +kernel)⟩
theorem lw_p71 : lw_okq (⟨"PreimageAnalyzerModel", "isInverse", "(II)Z"⟩, 42) := ⟨⟨by decide +kernel, by decide +kernel⟩, List.mem_of_getElem? (i := 1344) (by decide +kernel), List.mem_of_getElem? (i := 1778) (by decide +kernel), List.mem_of_getElem? (i := 1779) (by decide +kernel)⟩
def lw_privs_5 : List (MethodName × Nat) := [(⟨"PreimageAnalyzerModel", "reaches", "(IIII)V"⟩, 42), (⟨"PreimageAnalyzerModel", "successors", "(II)I"⟩, 42), (⟨"PreimageAnalyzerModel", "pairs", "()I"⟩, 42), (⟨"PreimageAnalyzerModel", "isPermutive", "(I)Z"⟩, 42), (⟨"PreimageAnalyzerModel", "isBalanced", "()Z"⟩, 42), (⟨"PreimageAnalyzerModel", "isMade", "()Z"⟩, 42), (⟨"PreimageAnalyzerModel", "hasInverse", "()Z"⟩, 42), (⟨"PreimageAnalyzerModel", "isInverse", "(II)Z"⟩, 42)]
theorem lw_r5 : ∀ q ∈ lw_privs_5, lw_okq q := List.forall_mem_cons.mpr ⟨lw_p64, List.forall_mem_cons.mpr ⟨lw_p65, List.forall_mem_cons.mpr ⟨lw_p66, List.forall_mem_cons.mpr ⟨lw_p67, List.forall_mem_cons.mpr ⟨lw_p68, List.forall_mem_cons.mpr ⟨lw_p69, List.forall_mem_cons.mpr ⟨lw_p70, List.forall_mem_cons.mpr ⟨lw_p71, fun _ h => absurd h List.not_mem_nil⟩⟩⟩⟩⟩⟩⟩⟩
def lw_privs : List (MethodName × Nat) := lw_privs_1 ++ (lw_privs_2 ++ (lw_privs_3 ++ (lw_privs_4 ++ (lw_privs_5))))
def lw_tbl : List Cond := k2_sels lw_privs ++ tables_1
theorem lw_privs_ok : ∀ q ∈ lw_privs, lw_okq q := by
  show ∀ q ∈ lw_privs_1 ++ (lw_privs_2 ++ (lw_privs_3 ++ (lw_privs_4 ++ (lw_privs_5)))), lw_okq q
  exact List.forall_mem_append.mpr ⟨lw_r1, List.forall_mem_append.mpr ⟨lw_r2, List.forall_mem_append.mpr ⟨lw_r3, List.forall_mem_append.mpr ⟨lw_r4, lw_r5⟩⟩⟩⟩
end
section
/-! ===== BEGIN printed: names, fields, word lists, decode rows ===== -/
def RX0 : String := "PreimageAnalyzer$Formula"
def TX0 : u_T := fun k => match k with
  | 0 => ("PreimageAnalyzer$Formula", "length", "I", false)
  | 1 => ("PreimageAnalyzer$Formula", "errorKind", "I", false)
  | 2 => ("PreimageAnalyzer$Formula", "errorPlace", "I", false)
  | 3 => ("PreimageAnalyzer$Formula", "text", "[I", true)
  | 4 => ("PreimageAnalyzer$Formula", "code", "[I", true)
  | 5 => ("PreimageAnalyzer$Formula", "codeLength", "I", false)
  | 6 => ("PreimageAnalyzer$Formula", "waiting", "[I", true)
  | 7 => ("PreimageAnalyzer$Formula", "waitingCount", "I", false)
  | 8 => ("PreimageAnalyzer$Formula", "values", "[I", true)
  | _ => ("PreimageAnalyzer$Formula", "cells", "[I", true)
def tyX0 : Nat → FieldType := fun k => match k with
  | 0 => .int
  | 1 => .int
  | 2 => .int
  | 3 => .array .int
  | 4 => .array .int
  | 5 => .int
  | 6 => .array .int
  | 7 => .int
  | 8 => .array .int
  | _ => .array .int
abbrev wsX00 : List Cond := u_ws RX0 TX0 10
theorem nmX0 : ∀ a, a < 10 → ∀ b, b < 10 → a ≠ b → (TX0 a).2.1 ≠ (TX0 b).2.1 := by decide +kernel
theorem tyX0_ok : ∀ k, k < 10 → parseFieldDescriptor (TX0 k).2.2.1 = some (tyX0 k) := by decide +kernel
abbrev cX0_init : ByteArray := prog_2_method_1_code
def yX0_init : MethodName := ⟨RX0, "<init>", "()V"⟩
abbrev cX0_add : ByteArray := prog_2_method_2_code
def yX0_add : MethodName := ⟨RX0, "add", "(I)V"⟩
abbrev cX0_read : ByteArray := prog_2_method_3_code
def yX0_read : MethodName := ⟨RX0, "read", "(I)V"⟩
abbrev cX0_readSign : ByteArray := prog_2_method_4_code
def yX0_readSign : MethodName := ⟨RX0, "readSign", "(III)I"⟩
abbrev cX0_readOperand : ByteArray := prog_2_method_5_code
def yX0_readOperand : MethodName := ⟨RX0, "readOperand", "(II)I"⟩
abbrev cX0_readOperator : ByteArray := prog_2_method_6_code
def yX0_readOperator : MethodName := ⟨RX0, "readOperator", "(I)I"⟩
abbrev cX0_refuse : ByteArray := prog_2_method_7_code
def yX0_refuse : MethodName := ⟨RX0, "refuse", "()I"⟩
abbrev cX0_hold : ByteArray := prog_2_method_8_code
def yX0_hold : MethodName := ⟨RX0, "hold", "(II)I"⟩
abbrev cX0_lastWaiting : ByteArray := prog_2_method_9_code
def yX0_lastWaiting : MethodName := ⟨RX0, "lastWaiting", "()I"⟩
abbrev cX0_emit : ByteArray := prog_2_method_10_code
def yX0_emit : MethodName := ⟨RX0, "emit", "(I)V"⟩
abbrev cX0_endFactor : ByteArray := prog_2_method_11_code
def yX0_endFactor : MethodName := ⟨RX0, "endFactor", "()I"⟩
abbrev cX0_moveOperators : ByteArray := prog_2_method_12_code
def yX0_moveOperators : MethodName := ⟨RX0, "moveOperators", "(I)V"⟩
abbrev cX0_rankOf : ByteArray := prog_2_method_13_code
def yX0_rankOf : MethodName := ⟨RX0, "rankOf", "(I)I"⟩
abbrev cX0_evaluate : ByteArray := prog_2_method_14_code
def yX0_evaluate : MethodName := ⟨RX0, "evaluate", "(LPreimageAnalyzer$Rule;[I)V"⟩
abbrev cX0_valueForCells : ByteArray := prog_2_method_15_code
def yX0_valueForCells : MethodName := ⟨RX0, "valueForCells", "()I"⟩
abbrev cX0_combine : ByteArray := prog_2_method_16_code
def yX0_combine : MethodName := ⟨RX0, "combine", "(III)I"⟩
def RX1 : String := "PreimageAnalyzer$Images"
def TX1 : u_T := fun k => match k with
  | 0 => ("PreimageAnalyzer$Images", "stepsBefore", "I", false)
  | 1 => ("PreimageAnalyzer$Images", "stepsBetween", "I", false)
  | 2 => ("PreimageAnalyzer$Images", "cells", "[I", true)
  | _ => ("PreimageAnalyzer$Images", "meetings", "[I", true)
def tyX1 : Nat → FieldType := fun k => match k with
  | 0 => .int
  | 1 => .int
  | 2 => .array .int
  | _ => .array .int
abbrev wsX10 : List Cond := u_ws RX1 TX1 4
theorem nmX1 : ∀ a, a < 4 → ∀ b, b < 4 → a ≠ b → (TX1 a).2.1 ≠ (TX1 b).2.1 := by decide +kernel
theorem tyX1_ok : ∀ k, k < 4 → parseFieldDescriptor (TX1 k).2.2.1 = some (tyX1 k) := by decide +kernel
abbrev cX1_init : ByteArray := prog_3_method_1_code
def yX1_init : MethodName := ⟨RX1, "<init>", "()V"⟩
abbrev cX1_imageOf : ByteArray := prog_3_method_2_code
def yX1_imageOf : MethodName := ⟨RX1, "imageOf", "(LPreimageAnalyzer$Rule;II)I"⟩
abbrev cX1_cyclicImageOf : ByteArray := prog_3_method_3_code
def yX1_cyclicImageOf : MethodName := ⟨RX1, "cyclicImageOf", "(LPreimageAnalyzer$Rule;II)I"⟩
abbrev cX1_readLabels : ByteArray := prog_3_method_4_code
def yX1_readLabels : MethodName := ⟨RX1, "readLabels", "(LPreimageAnalyzer$Rule;I)I"⟩
abbrev cX1_follow : ByteArray := prog_3_method_5_code
def yX1_follow : MethodName := ⟨RX1, "follow", "(LPreimageAnalyzer$Rule;II)V"⟩
def RX2 : String := "PreimageAnalyzer$InverseSearch"
def TX2 : u_T := fun k => match k with
  | 0 => ("PreimageAnalyzer$InverseSearch", "length", "I", false)
  | 1 => ("PreimageAnalyzer$InverseSearch", "position", "I", false)
  | 2 => ("PreimageAnalyzer$InverseSearch", "imageOfWord", "[I", true)
  | _ => ("PreimageAnalyzer$InverseSearch", "firstWord", "[I", true)
def tyX2 : Nat → FieldType := fun k => match k with
  | 0 => .int
  | 1 => .int
  | 2 => .array .int
  | _ => .array .int
abbrev wsX20 : List Cond := u_ws RX2 TX2 4
theorem nmX2 : ∀ a, a < 4 → ∀ b, b < 4 → a ≠ b → (TX2 a).2.1 ≠ (TX2 b).2.1 := by decide +kernel
theorem tyX2_ok : ∀ k, k < 4 → parseFieldDescriptor (TX2 k).2.2.1 = some (tyX2 k) := by decide +kernel
abbrev cX2_init : ByteArray := prog_4_method_1_code
def yX2_init : MethodName := ⟨RX2, "<init>", "()V"⟩
abbrev cX2_run : ByteArray := prog_4_method_2_code
def yX2_run : MethodName := ⟨RX2, "run", "(LPreimageAnalyzer$Rule;)V"⟩
abbrev cX2_lengthenWords : ByteArray := prog_4_method_3_code
def yX2_lengthenWords : MethodName := ⟨RX2, "lengthenWords", "(LPreimageAnalyzer$Rule;I)V"⟩
abbrev cX2_commonPositions : ByteArray := prog_4_method_4_code
def yX2_commonPositions : MethodName := ⟨RX2, "commonPositions", "(LPreimageAnalyzer$Rule;I)I"⟩
abbrev cX2_equalPositions : ByteArray := prog_4_method_5_code
def yX2_equalPositions : MethodName := ⟨RX2, "equalPositions", "(LPreimageAnalyzer$Rule;IIII)I"⟩
abbrev cX2_stateFor : ByteArray := prog_4_method_6_code
def yX2_stateFor : MethodName := ⟨RX2, "stateFor", "(LPreimageAnalyzer$Rule;I)I"⟩
def RX3 : String := "PreimageAnalyzer$NodePairs"
def TX3 : u_T := fun k => match k with
  | _ => ("PreimageAnalyzer$NodePairs", "reachable", "[J", true)
def tyX3 : Nat → FieldType := fun k => match k with
  | _ => .array .long
abbrev wsX30 : List Cond := u_ws RX3 TX3 1
theorem nmX3 : ∀ a, a < 1 → ∀ b, b < 1 → a ≠ b → (TX3 a).2.1 ≠ (TX3 b).2.1 := by decide +kernel
theorem tyX3_ok : ∀ k, k < 1 → parseFieldDescriptor (TX3 k).2.2.1 = some (tyX3 k) := by decide +kernel
abbrev cX3_init : ByteArray := prog_5_method_1_code
def yX3_init : MethodName := ⟨RX3, "<init>", "()V"⟩
abbrev cX3_countOnCycles : ByteArray := prog_5_method_2_code
def yX3_countOnCycles : MethodName := ⟨RX3, "countOnCycles", "(LPreimageAnalyzer$Rule;)I"⟩
abbrev cX3_placeOf : ByteArray := prog_5_method_3_code
def yX3_placeOf : MethodName := ⟨RX3, "placeOf", "(II)I"⟩
abbrev cX3_readSteps : ByteArray := prog_5_method_4_code
def yX3_readSteps : MethodName := ⟨RX3, "readSteps", "(LPreimageAnalyzer$Rule;)V"⟩
abbrev cX3_stepsFrom : ByteArray := prog_5_method_5_code
def yX3_stepsFrom : MethodName := ⟨RX3, "stepsFrom", "(LPreimageAnalyzer$Rule;II)J"⟩
def RX4 : String := "PreimageAnalyzer$Paths"
def TX4 : u_T := fun k => match k with
  | 0 => ("PreimageAnalyzer$Paths", "wordsFound", "I", false)
  | 1 => ("PreimageAnalyzer$Paths", "mostFound", "I", false)
  | 2 => ("PreimageAnalyzer$Paths", "length", "I", false)
  | 3 => ("PreimageAnalyzer$Paths", "labels", "[I", true)
  | _ => ("PreimageAnalyzer$Paths", "ways", "[[I", true)
def tyX4 : Nat → FieldType := fun k => match k with
  | 0 => .int
  | 1 => .int
  | 2 => .int
  | 3 => .array .int
  | _ => .array (.array .int)
abbrev wsX40 : List Cond := u_ws RX4 TX4 5
theorem nmX4 : ∀ a, a < 5 → ∀ b, b < 5 → a ≠ b → (TX4 a).2.1 ≠ (TX4 b).2.1 := by decide +kernel
theorem tyX4_ok : ∀ k, k < 5 → parseFieldDescriptor (TX4 k).2.2.1 = some (tyX4 k) := by decide +kernel
abbrev cX4_init : ByteArray := prog_6_method_1_code
def yX4_init : MethodName := ⟨RX4, "<init>", "()V"⟩
abbrev cX4_takeLabels : ByteArray := prog_6_method_2_code
def yX4_takeLabels : MethodName := ⟨RX4, "takeLabels", "(LPreimageAnalyzer$Rule;II)V"⟩
abbrev cX4_countAll : ByteArray := prog_6_method_3_code
def yX4_countAll : MethodName := ⟨RX4, "countAll", "(LPreimageAnalyzer$Rule;)I"⟩
abbrev cX4_countBetween : ByteArray := prog_6_method_4_code
def yX4_countBetween : MethodName := ⟨RX4, "countBetween", "(LPreimageAnalyzer$Rule;II)I"⟩
abbrev cX4_countClosed : ByteArray := prog_6_method_5_code
def yX4_countClosed : MethodName := ⟨RX4, "countClosed", "(LPreimageAnalyzer$Rule;)I"⟩
abbrev cX4_openWord : ByteArray := prog_6_method_6_code
def yX4_openWord : MethodName := ⟨RX4, "openWord", "(LPreimageAnalyzer$Rule;I)I"⟩
abbrev cX4_closedWord : ByteArray := prog_6_method_7_code
def yX4_closedWord : MethodName := ⟨RX4, "closedWord", "(LPreimageAnalyzer$Rule;I)I"⟩
abbrev cX4_withoutEnd : ByteArray := prog_6_method_8_code
def yX4_withoutEnd : MethodName := ⟨RX4, "withoutEnd", "(LPreimageAnalyzer$Rule;I)I"⟩
abbrev cX4_walk : ByteArray := prog_6_method_9_code
def yX4_walk : MethodName := ⟨RX4, "walk", "(LPreimageAnalyzer$Rule;II)I"⟩
abbrev cX4_countTo : ByteArray := prog_6_method_10_code
def yX4_countTo : MethodName := ⟨RX4, "countTo", "(LPreimageAnalyzer$Rule;I)V"⟩
abbrev cX4_countToAnywhere : ByteArray := prog_6_method_11_code
def yX4_countToAnywhere : MethodName := ⟨RX4, "countToAnywhere", "(LPreimageAnalyzer$Rule;)V"⟩
abbrev cX4_countBackwards : ByteArray := prog_6_method_12_code
def yX4_countBackwards : MethodName := ⟨RX4, "countBackwards", "(LPreimageAnalyzer$Rule;)V"⟩
abbrev cX4_waysBy : ByteArray := prog_6_method_13_code
def yX4_waysBy : MethodName := ⟨RX4, "waysBy", "(LPreimageAnalyzer$Rule;II)I"⟩
abbrev cX4_sumOf : ByteArray := prog_6_method_14_code
def yX4_sumOf : MethodName := ⟨RX4, "sumOf", "(LPreimageAnalyzer$Rule;[I)I"⟩
abbrev cX4_surveyWords : ByteArray := prog_6_method_15_code
def yX4_surveyWords : MethodName := ⟨RX4, "surveyWords", "(LPreimageAnalyzer$Rule;II)V"⟩
abbrev cX4_stepForward : ByteArray := prog_6_method_16_code
def yX4_stepForward : MethodName := ⟨RX4, "stepForward", "(LPreimageAnalyzer$Rule;I)V"⟩
abbrev cX4_moveToNextWord : ByteArray := prog_6_method_17_code
def yX4_moveToNextWord : MethodName := ⟨RX4, "moveToNextWord", "(LPreimageAnalyzer$Rule;I)I"⟩
abbrev cX4_countFixed : ByteArray := prog_6_method_18_code
def yX4_countFixed : MethodName := ⟨RX4, "countFixed", "(LPreimageAnalyzer$Rule;I)I"⟩
abbrev cX4_stepAlongFixed : ByteArray := prog_6_method_19_code
def yX4_stepAlongFixed : MethodName := ⟨RX4, "stepAlongFixed", "(LPreimageAnalyzer$Rule;[I[I)V"⟩
def RX5 : String := "PreimageAnalyzer$Registers"
def TX5 : u_T := fun k => match k with
  | 0 => ("PreimageAnalyzer$Registers", "lengths", "[I", true)
  | _ => ("PreimageAnalyzer$Registers", "indices", "[I", true)
def tyX5 : Nat → FieldType := fun k => match k with
  | 0 => .array .int
  | _ => .array .int
abbrev wsX50 : List Cond := u_ws RX5 TX5 2
theorem nmX5 : ∀ a, a < 2 → ∀ b, b < 2 → a ≠ b → (TX5 a).2.1 ≠ (TX5 b).2.1 := by decide +kernel
theorem tyX5_ok : ∀ k, k < 2 → parseFieldDescriptor (TX5 k).2.2.1 = some (tyX5 k) := by decide +kernel
abbrev cX5_init : ByteArray := prog_7_method_1_code
def yX5_init : MethodName := ⟨RX5, "<init>", "()V"⟩
abbrev cX5_empty : ByteArray := prog_7_method_2_code
def yX5_empty : MethodName := ⟨RX5, "empty", "()V"⟩
abbrev cX5_put : ByteArray := prog_7_method_3_code
def yX5_put : MethodName := ⟨RX5, "put", "(III)V"⟩
abbrev cX5_copyFrom : ByteArray := prog_7_method_4_code
def yX5_copyFrom : MethodName := ⟨RX5, "copyFrom", "(LPreimageAnalyzer$Registers;)V"⟩
def RX6 : String := "PreimageAnalyzer$Rule"
def TX6 : u_T := fun k => match k with
  | 0 => ("PreimageAnalyzer$Rule", "states", "I", false)
  | 1 => ("PreimageAnalyzer$Rule", "width", "I", false)
  | 2 => ("PreimageAnalyzer$Rule", "nodes", "I", false)
  | 3 => ("PreimageAnalyzer$Rule", "neighborhoods", "I", false)
  | 4 => ("PreimageAnalyzer$Rule", "table", "[I", true)
  | 5 => ("PreimageAnalyzer$Rule", "targets", "[I", true)
  | 6 => ("PreimageAnalyzer$Rule", "firstCells", "[I", true)
  | 7 => ("PreimageAnalyzer$Rule", "reversal", "[I", true)
  | _ => ("PreimageAnalyzer$Rule", "tally", "[I", true)
def tyX6 : Nat → FieldType := fun k => match k with
  | 0 => .int
  | 1 => .int
  | 2 => .int
  | 3 => .int
  | 4 => .array .int
  | 5 => .array .int
  | 6 => .array .int
  | 7 => .array .int
  | _ => .array .int
abbrev wsX60 : List Cond := u_ws RX6 TX6 9
theorem nmX6 : ∀ a, a < 9 → ∀ b, b < 9 → a ≠ b → (TX6 a).2.1 ≠ (TX6 b).2.1 := by decide +kernel
theorem tyX6_ok : ∀ k, k < 9 → parseFieldDescriptor (TX6 k).2.2.1 = some (tyX6 k) := by decide +kernel
abbrev cX6_init : ByteArray := prog_8_method_1_code
def yX6_init : MethodName := ⟨RX6, "<init>", "()V"⟩
abbrev cX6_exists : ByteArray := prog_8_method_2_code
def yX6_exists : MethodName := ⟨RX6, "exists", "(II)Z"⟩
abbrev cX6_resize : ByteArray := prog_8_method_3_code
def yX6_resize : MethodName := ⟨RX6, "resize", "(II)V"⟩
abbrev cX6_copyFrom : ByteArray := prog_8_method_4_code
def yX6_copyFrom : MethodName := ⟨RX6, "copyFrom", "(LPreimageAnalyzer$Rule;)V"⟩
abbrev cX6_takeTable : ByteArray := prog_8_method_5_code
def yX6_takeTable : MethodName := ⟨RX6, "takeTable", "([I)I"⟩
abbrev cX6_countOfWords : ByteArray := prog_8_method_6_code
def yX6_countOfWords : MethodName := ⟨RX6, "countOfWords", "(I)I"⟩
abbrev cX6_countOfRules : ByteArray := prog_8_method_7_code
def yX6_countOfRules : MethodName := ⟨RX6, "countOfRules", "()J"⟩
abbrev cX6_numberOf : ByteArray := prog_8_method_8_code
def yX6_numberOf : MethodName := ⟨RX6, "numberOf", "([I)J"⟩
abbrev cX6_spreadNumber : ByteArray := prog_8_method_9_code
def yX6_spreadNumber : MethodName := ⟨RX6, "spreadNumber", "(J[I)V"⟩
abbrev cX6_lastCell : ByteArray := prog_8_method_10_code
def yX6_lastCell : MethodName := ⟨RX6, "lastCell", "(I)I"⟩
abbrev cX6_withoutLastCell : ByteArray := prog_8_method_11_code
def yX6_withoutLastCell : MethodName := ⟨RX6, "withoutLastCell", "(I)I"⟩
abbrev cX6_cellOf : ByteArray := prog_8_method_12_code
def yX6_cellOf : MethodName := ⟨RX6, "cellOf", "(III)I"⟩
abbrev cX6_spreadWord : ByteArray := prog_8_method_13_code
def yX6_spreadWord : MethodName := ⟨RX6, "spreadWord", "(II[I)V"⟩
abbrev cX6_mirrorTable : ByteArray := prog_8_method_14_code
def yX6_mirrorTable : MethodName := ⟨RX6, "mirrorTable", "([I[I)V"⟩
abbrev cX6_complementTable : ByteArray := prog_8_method_15_code
def yX6_complementTable : MethodName := ⟨RX6, "complementTable", "([I[I)V"⟩
abbrev cX6_isLeftPermutive : ByteArray := prog_8_method_16_code
def yX6_isLeftPermutive : MethodName := ⟨RX6, "isLeftPermutive", "()Z"⟩
abbrev cX6_isRightPermutive : ByteArray := prog_8_method_17_code
def yX6_isRightPermutive : MethodName := ⟨RX6, "isRightPermutive", "()Z"⟩
abbrev cX6_areDifferent : ByteArray := prog_8_method_18_code
def yX6_areDifferent : MethodName := ⟨RX6, "areDifferent", "(II)Z"⟩
abbrev cX6_isBalanced : ByteArray := prog_8_method_19_code
def yX6_isBalanced : MethodName := ⟨RX6, "isBalanced", "()Z"⟩
def RX7 : String := "PreimageAnalyzer$SubsetAutomaton"
def TX7 : u_T := fun k => match k with
  | 0 => ("PreimageAnalyzer$SubsetAutomaton", "found", "I", false)
  | 1 => ("PreimageAnalyzer$SubsetAutomaton", "sets", "[I", true)
  | 2 => ("PreimageAnalyzer$SubsetAutomaton", "places", "[I", true)
  | 3 => ("PreimageAnalyzer$SubsetAutomaton", "depths", "[I", true)
  | 4 => ("PreimageAnalyzer$SubsetAutomaton", "words", "[I", true)
  | 5 => ("PreimageAnalyzer$SubsetAutomaton", "next", "[I", true)
  | 6 => ("PreimageAnalyzer$SubsetAutomaton", "single", "[I", true)
  | 7 => ("PreimageAnalyzer$SubsetAutomaton", "counts", "[I", true)
  | _ => ("PreimageAnalyzer$SubsetAutomaton", "newCounts", "[I", true)
def tyX7 : Nat → FieldType := fun k => match k with
  | 0 => .int
  | 1 => .array .int
  | 2 => .array .int
  | 3 => .array .int
  | 4 => .array .int
  | 5 => .array .int
  | 6 => .array .int
  | 7 => .array .int
  | _ => .array .int
abbrev wsX70 : List Cond := u_ws RX7 TX7 9
theorem nmX7 : ∀ a, a < 9 → ∀ b, b < 9 → a ≠ b → (TX7 a).2.1 ≠ (TX7 b).2.1 := by decide +kernel
theorem tyX7_ok : ∀ k, k < 9 → parseFieldDescriptor (TX7 k).2.2.1 = some (tyX7 k) := by decide +kernel
abbrev cX7_init : ByteArray := prog_9_method_1_code
def yX7_init : MethodName := ⟨RX7, "<init>", "()V"⟩
abbrev cX7_explore : ByteArray := prog_9_method_2_code
def yX7_explore : MethodName := ⟨RX7, "explore", "(LPreimageAnalyzer$Rule;)V"⟩
abbrev cX7_readSingle : ByteArray := prog_9_method_3_code
def yX7_readSingle : MethodName := ⟨RX7, "readSingle", "(LPreimageAnalyzer$Rule;)V"⟩
abbrev cX7_successors : ByteArray := prog_9_method_4_code
def yX7_successors : MethodName := ⟨RX7, "successors", "(LPreimageAnalyzer$Rule;II)I"⟩
abbrev cX7_placeOf : ByteArray := prog_9_method_5_code
def yX7_placeOf : MethodName := ⟨RX7, "placeOf", "(III)I"⟩
abbrev cX7_isWithoutOrphans : ByteArray := prog_9_method_6_code
def yX7_isWithoutOrphans : MethodName := ⟨RX7, "isWithoutOrphans", "()Z"⟩
abbrev cX7_orphanLength : ByteArray := prog_9_method_7_code
def yX7_orphanLength : MethodName := ⟨RX7, "orphanLength", "()I"⟩
abbrev cX7_orphanIndex : ByteArray := prog_9_method_8_code
def yX7_orphanIndex : MethodName := ⟨RX7, "orphanIndex", "()I"⟩
abbrev cX7_countOrphans : ByteArray := prog_9_method_9_code
def yX7_countOrphans : MethodName := ⟨RX7, "countOrphans", "(LPreimageAnalyzer$Rule;I)I"⟩
abbrev cX7_countNext : ByteArray := prog_9_method_10_code
def yX7_countNext : MethodName := ⟨RX7, "countNext", "(LPreimageAnalyzer$Rule;)V"⟩
def RX8 : String := "PreimageAnalyzer"
def TX8 : u_T := fun k => match k with
  | 0 => ("PreimageAnalyzer", "rule", "LPreimageAnalyzer$Rule;", true)
  | 1 => ("PreimageAnalyzer", "savedRule", "LPreimageAnalyzer$Rule;", true)
  | 2 => ("PreimageAnalyzer", "registers", "LPreimageAnalyzer$Registers;", true)
  | 3 => ("PreimageAnalyzer", "savedRegisters", "LPreimageAnalyzer$Registers;", true)
  | 4 => ("PreimageAnalyzer", "saved", "Z", false)
  | 5 => ("PreimageAnalyzer", "formula", "LPreimageAnalyzer$Formula;", true)
  | 6 => ("PreimageAnalyzer", "images", "LPreimageAnalyzer$Images;", true)
  | 7 => ("PreimageAnalyzer", "paths", "LPreimageAnalyzer$Paths;", true)
  | 8 => ("PreimageAnalyzer", "automaton", "LPreimageAnalyzer$SubsetAutomaton;", true)
  | 9 => ("PreimageAnalyzer", "pairs", "LPreimageAnalyzer$NodePairs;", true)
  | 10 => ("PreimageAnalyzer", "search", "LPreimageAnalyzer$InverseSearch;", true)
  | 11 => ("PreimageAnalyzer", "draft", "[I", true)
  | _ => ("PreimageAnalyzer", "mirrored", "[I", true)
def tyX8 : Nat → FieldType := fun k => match k with
  | 0 => .object "PreimageAnalyzer$Rule"
  | 1 => .object "PreimageAnalyzer$Rule"
  | 2 => .object "PreimageAnalyzer$Registers"
  | 3 => .object "PreimageAnalyzer$Registers"
  | 4 => .boolean
  | 5 => .object "PreimageAnalyzer$Formula"
  | 6 => .object "PreimageAnalyzer$Images"
  | 7 => .object "PreimageAnalyzer$Paths"
  | 8 => .object "PreimageAnalyzer$SubsetAutomaton"
  | 9 => .object "PreimageAnalyzer$NodePairs"
  | 10 => .object "PreimageAnalyzer$InverseSearch"
  | 11 => .array .int
  | _ => .array .int
abbrev wsX80 : List Cond := u_ws RX8 TX8 13
theorem nmX8 : ∀ a, a < 13 → ∀ b, b < 13 → a ≠ b → (TX8 a).2.1 ≠ (TX8 b).2.1 := by decide +kernel
theorem tyX8_ok : ∀ k, k < 13 → parseFieldDescriptor (TX8 k).2.2.1 = some (tyX8 k) := by decide +kernel
abbrev cX8_init : ByteArray := prog_1_method_1_code
def yX8_init : MethodName := ⟨RX8, "<init>", "()V"⟩
abbrev cX8_setSize : ByteArray := prog_1_method_2_code
def yX8_setSize : MethodName := ⟨RX8, "setSize", "(II)I"⟩
abbrev cX8_size : ByteArray := prog_1_method_3_code
def yX8_size : MethodName := ⟨RX8, "size", "(I)I"⟩
abbrev cX8_setOutput : ByteArray := prog_1_method_4_code
def yX8_setOutput : MethodName := ⟨RX8, "setOutput", "(II)I"⟩
abbrev cX8_output : ByteArray := prog_1_method_5_code
def yX8_output : MethodName := ⟨RX8, "output", "(I)I"⟩
abbrev cX8_setNumber : ByteArray := prog_1_method_6_code
def yX8_setNumber : MethodName := ⟨RX8, "setNumber", "(J)I"⟩
abbrev cX8_number : ByteArray := prog_1_method_7_code
def yX8_number : MethodName := ⟨RX8, "number", "()J"⟩
abbrev cX8_append : ByteArray := prog_1_method_8_code
def yX8_append : MethodName := ⟨RX8, "append", "(I)I"⟩
abbrev cX8_compile : ByteArray := prog_1_method_9_code
def yX8_compile : MethodName := ⟨RX8, "compile", "()I"⟩
abbrev cX8_error : ByteArray := prog_1_method_10_code
def yX8_error : MethodName := ⟨RX8, "error", "(I)I"⟩
abbrev cX8_mirror : ByteArray := prog_1_method_11_code
def yX8_mirror : MethodName := ⟨RX8, "mirror", "()I"⟩
abbrev cX8_complement : ByteArray := prog_1_method_12_code
def yX8_complement : MethodName := ⟨RX8, "complement", "()I"⟩
abbrev cX8_leastNumber : ByteArray := prog_1_method_13_code
def yX8_leastNumber : MethodName := ⟨RX8, "leastNumber", "()J"⟩
abbrev cX8_compose : ByteArray := prog_1_method_14_code
def yX8_compose : MethodName := ⟨RX8, "compose", "()I"⟩
abbrev cX8_setWord : ByteArray := prog_1_method_15_code
def yX8_setWord : MethodName := ⟨RX8, "setWord", "(III)I"⟩
abbrev cX8_wordLength : ByteArray := prog_1_method_16_code
def yX8_wordLength : MethodName := ⟨RX8, "wordLength", "(I)I"⟩
abbrev cX8_wordIndex : ByteArray := prog_1_method_17_code
def yX8_wordIndex : MethodName := ⟨RX8, "wordIndex", "(I)I"⟩
abbrev cX8_cell : ByteArray := prog_1_method_18_code
def yX8_cell : MethodName := ⟨RX8, "cell", "(II)I"⟩
abbrev cX8_apply : ByteArray := prog_1_method_19_code
def yX8_apply : MethodName := ⟨RX8, "apply", "(IZ)I"⟩
abbrev cX8_orbit : ByteArray := prog_1_method_20_code
def yX8_orbit : MethodName := ⟨RX8, "orbit", "(II)I"⟩
abbrev cX8_preimageCount : ByteArray := prog_1_method_21_code
def yX8_preimageCount : MethodName := ⟨RX8, "preimageCount", "(IZ)I"⟩
abbrev cX8_preimage : ByteArray := prog_1_method_22_code
def yX8_preimage : MethodName := ⟨RX8, "preimage", "(IZII)I"⟩
abbrev cX8_preimagesBetween : ByteArray := prog_1_method_23_code
def yX8_preimagesBetween : MethodName := ⟨RX8, "preimagesBetween", "(III)I"⟩
abbrev cX8_wordsWith : ByteArray := prog_1_method_24_code
def yX8_wordsWith : MethodName := ⟨RX8, "wordsWith", "(II)I"⟩
abbrev cX8_mostPreimages : ByteArray := prog_1_method_25_code
def yX8_mostPreimages : MethodName := ⟨RX8, "mostPreimages", "(I)I"⟩
abbrev cX8_fixedWords : ByteArray := prog_1_method_26_code
def yX8_fixedWords : MethodName := ⟨RX8, "fixedWords", "(I)I"⟩
abbrev cX8_edge : ByteArray := prog_1_method_27_code
def yX8_edge : MethodName := ⟨RX8, "edge", "(III)I"⟩
abbrev cX8_subsets : ByteArray := prog_1_method_28_code
def yX8_subsets : MethodName := ⟨RX8, "subsets", "()I"⟩
abbrev cX8_orphans : ByteArray := prog_1_method_29_code
def yX8_orphans : MethodName := ⟨RX8, "orphans", "(I)I"⟩
abbrev cX8_shortestOrphan : ByteArray := prog_1_method_30_code
def yX8_shortestOrphan : MethodName := ⟨RX8, "shortestOrphan", "(I)I"⟩
abbrev cX8_has : ByteArray := prog_1_method_31_code
def yX8_has : MethodName := ⟨RX8, "has", "(I)Z"⟩
abbrev cX8_cyclicPairs : ByteArray := prog_1_method_32_code
def yX8_cyclicPairs : MethodName := ⟨RX8, "cyclicPairs", "()I"⟩
abbrev cX8_inverse : ByteArray := prog_1_method_33_code
def yX8_inverse : MethodName := ⟨RX8, "inverse", "(I)I"⟩
abbrev cX8_inverseOutput : ByteArray := prog_1_method_34_code
def yX8_inverseOutput : MethodName := ⟨RX8, "inverseOutput", "(I)I"⟩
abbrev cX8_save : ByteArray := prog_1_method_35_code
def yX8_save : MethodName := ⟨RX8, "save", "()J"⟩
abbrev cX8_restore : ByteArray := prog_1_method_36_code
def yX8_restore : MethodName := ⟨RX8, "restore", "()J"⟩
abbrev cX8_needRegister : ByteArray := prog_1_method_37_code
def yX8_needRegister : MethodName := ⟨RX8, "needRegister", "(I)V"⟩
abbrev cX8_needBit : ByteArray := prog_1_method_38_code
def yX8_needBit : MethodName := ⟨RX8, "needBit", "(I)V"⟩
abbrev cX8_needLength : ByteArray := prog_1_method_39_code
def yX8_needLength : MethodName := ⟨RX8, "needLength", "(III)V"⟩
abbrev cX8_needNeighborhood : ByteArray := prog_1_method_40_code
def yX8_needNeighborhood : MethodName := ⟨RX8, "needNeighborhood", "(I)V"⟩
abbrev cX8_needNode : ByteArray := prog_1_method_41_code
def yX8_needNode : MethodName := ⟨RX8, "needNode", "(I)V"⟩
abbrev cX8_needInverse : ByteArray := prog_1_method_42_code
def yX8_needInverse : MethodName := ⟨RX8, "needInverse", "()V"⟩
abbrev cX8_byteAt : ByteArray := prog_1_method_43_code
def yX8_byteAt : MethodName := ⟨RX8, "byteAt", "(II)I"⟩
abbrev cX8_takeLabels : ByteArray := prog_1_method_44_code
def yX8_takeLabels : MethodName := ⟨RX8, "takeLabels", "(I)V"⟩
def RX9 : String := "PreimageAnalyzerModel"
def TX9 : u_T := fun k => match k with
  | 0 => ("PreimageAnalyzerModel", "thrown", "I", false)
  | 1 => ("PreimageAnalyzerModel", "k", "I", false)
  | 2 => ("PreimageAnalyzerModel", "w", "I", false)
  | 3 => ("PreimageAnalyzerModel", "table", "[I", true)
  | 4 => ("PreimageAnalyzerModel", "length", "[I", true)
  | 5 => ("PreimageAnalyzerModel", "index", "[I", true)
  | 6 => ("PreimageAnalyzerModel", "savedK", "I", false)
  | 7 => ("PreimageAnalyzerModel", "savedW", "I", false)
  | 8 => ("PreimageAnalyzerModel", "savedTable", "[I", true)
  | 9 => ("PreimageAnalyzerModel", "savedLength", "[I", true)
  | 10 => ("PreimageAnalyzerModel", "savedIndex", "[I", true)
  | 11 => ("PreimageAnalyzerModel", "buffer", "[I", true)
  | 12 => ("PreimageAnalyzerModel", "bufferN", "I", false)
  | 13 => ("PreimageAnalyzerModel", "errorKind", "I", false)
  | 14 => ("PreimageAnalyzerModel", "errorPlace", "I", false)
  | 15 => ("PreimageAnalyzerModel", "made", "[I", true)
  | 16 => ("PreimageAnalyzerModel", "other", "[I", true)
  | 17 => ("PreimageAnalyzerModel", "code", "[I", true)
  | 18 => ("PreimageAnalyzerModel", "waits", "[I", true)
  | 19 => ("PreimageAnalyzerModel", "codes", "I", false)
  | 20 => ("PreimageAnalyzerModel", "waiting", "I", false)
  | 21 => ("PreimageAnalyzerModel", "at", "I", false)
  | 22 => ("PreimageAnalyzerModel", "open", "Z", false)
  | 23 => ("PreimageAnalyzerModel", "worth", "[I", true)
  | 24 => ("PreimageAnalyzerModel", "failed", "I", false)
  | 25 => ("PreimageAnalyzerModel", "seen", "[I", true)
  | 26 => ("PreimageAnalyzerModel", "ways", "[I", true)
  | 27 => ("PreimageAnalyzerModel", "now", "[I", true)
  | 28 => ("PreimageAnalyzerModel", "then", "[I", true)
  | 29 => ("PreimageAnalyzerModel", "reached", "[I", true)
  | 30 => ("PreimageAnalyzerModel", "cameFrom", "[I", true)
  | 31 => ("PreimageAnalyzerModel", "cameBy", "[I", true)
  | 32 => ("PreimageAnalyzerModel", "far", "[I", true)
  | 33 => ("PreimageAnalyzerModel", "isReached", "[Z", true)
  | 34 => ("PreimageAnalyzerModel", "sets", "I", false)
  | 35 => ("PreimageAnalyzerModel", "empty", "I", false)
  | 36 => ("PreimageAnalyzerModel", "many", "[I", true)
  | 37 => ("PreimageAnalyzerModel", "manyThen", "[I", true)
  | 38 => ("PreimageAnalyzerModel", "leads", "[Z", true)
  | 39 => ("PreimageAnalyzerModel", "assigned", "[I", true)
  | 40 => ("PreimageAnalyzerModel", "inverseM", "I", false)
  | _ => ("PreimageAnalyzerModel", "inverseP", "I", false)
def tyX9 : Nat → FieldType := fun k => match k with
  | 0 => .int
  | 1 => .int
  | 2 => .int
  | 3 => .array .int
  | 4 => .array .int
  | 5 => .array .int
  | 6 => .int
  | 7 => .int
  | 8 => .array .int
  | 9 => .array .int
  | 10 => .array .int
  | 11 => .array .int
  | 12 => .int
  | 13 => .int
  | 14 => .int
  | 15 => .array .int
  | 16 => .array .int
  | 17 => .array .int
  | 18 => .array .int
  | 19 => .int
  | 20 => .int
  | 21 => .int
  | 22 => .boolean
  | 23 => .array .int
  | 24 => .int
  | 25 => .array .int
  | 26 => .array .int
  | 27 => .array .int
  | 28 => .array .int
  | 29 => .array .int
  | 30 => .array .int
  | 31 => .array .int
  | 32 => .array .int
  | 33 => .array .boolean
  | 34 => .int
  | 35 => .int
  | 36 => .array .int
  | 37 => .array .int
  | 38 => .array .boolean
  | 39 => .array .int
  | 40 => .int
  | _ => .int
abbrev wsX90 : List Cond := u_ws RX9 TX9 42
theorem nmX9 : ∀ a, a < 42 → ∀ b, b < 42 → a ≠ b → (TX9 a).2.1 ≠ (TX9 b).2.1 := by decide +kernel
theorem tyX9_ok : ∀ k, k < 42 → parseFieldDescriptor (TX9 k).2.2.1 = some (tyX9 k) := by decide +kernel
abbrev cX9_init : ByteArray := prog_11_method_1_code
def yX9_init : MethodName := ⟨RX9, "<init>", "()V"⟩
abbrev cX9_thrown : ByteArray := prog_11_method_2_code
def yX9_thrown : MethodName := ⟨RX9, "thrown", "()I"⟩
abbrev cX9_no : ByteArray := prog_11_method_3_code
def yX9_no : MethodName := ⟨RX9, "no", "(I)I"⟩
abbrev cX9_isIn : ByteArray := prog_11_method_4_code
def yX9_isIn : MethodName := ⟨RX9, "isIn", "(III)Z"⟩
abbrev cX9_power : ByteArray := prog_11_method_5_code
def yX9_power : MethodName := ⟨RX9, "power", "(I)I"⟩
abbrev cX9_all : ByteArray := prog_11_method_6_code
def yX9_all : MethodName := ⟨RX9, "all", "()I"⟩
abbrev cX9_nodes : ByteArray := prog_11_method_7_code
def yX9_nodes : MethodName := ⟨RX9, "nodes", "()I"⟩
abbrev cX9_isSize : ByteArray := prog_11_method_8_code
def yX9_isSize : MethodName := ⟨RX9, "isSize", "(II)Z"⟩
abbrev cX9_setSize : ByteArray := prog_11_method_9_code
def yX9_setSize : MethodName := ⟨RX9, "setSize", "(II)I"⟩
abbrev cX9_size : ByteArray := prog_11_method_10_code
def yX9_size : MethodName := ⟨RX9, "size", "(I)I"⟩
abbrev cX9_setOutput : ByteArray := prog_11_method_11_code
def yX9_setOutput : MethodName := ⟨RX9, "setOutput", "(II)I"⟩
abbrev cX9_output : ByteArray := prog_11_method_12_code
def yX9_output : MethodName := ⟨RX9, "output", "(I)I"⟩
abbrev cX9_becomes : ByteArray := prog_11_method_13_code
def yX9_becomes : MethodName := ⟨RX9, "becomes", "()I"⟩
abbrev cX9_numberOf : ByteArray := prog_11_method_14_code
def yX9_numberOf : MethodName := ⟨RX9, "numberOf", "([I)J"⟩
abbrev cX9_setNumber : ByteArray := prog_11_method_15_code
def yX9_setNumber : MethodName := ⟨RX9, "setNumber", "(J)I"⟩
abbrev cX9_number : ByteArray := prog_11_method_16_code
def yX9_number : MethodName := ⟨RX9, "number", "()J"⟩
abbrev cX9_turned : ByteArray := prog_11_method_17_code
def yX9_turned : MethodName := ⟨RX9, "turned", "(II)I"⟩
abbrev cX9_mirrors : ByteArray := prog_11_method_18_code
def yX9_mirrors : MethodName := ⟨RX9, "mirrors", "([I[I)V"⟩
abbrev cX9_complements : ByteArray := prog_11_method_19_code
def yX9_complements : MethodName := ⟨RX9, "complements", "([I[I)V"⟩
abbrev cX9_mirror : ByteArray := prog_11_method_20_code
def yX9_mirror : MethodName := ⟨RX9, "mirror", "()I"⟩
abbrev cX9_complement : ByteArray := prog_11_method_21_code
def yX9_complement : MethodName := ⟨RX9, "complement", "()I"⟩
abbrev cX9_leastNumber : ByteArray := prog_11_method_22_code
def yX9_leastNumber : MethodName := ⟨RX9, "leastNumber", "()J"⟩
abbrev cX9_compose : ByteArray := prog_11_method_23_code
def yX9_compose : MethodName := ⟨RX9, "compose", "()I"⟩
abbrev cX9_imageOf : ByteArray := prog_11_method_24_code
def yX9_imageOf : MethodName := ⟨RX9, "imageOf", "(II[II)I"⟩
abbrev cX9_cyclicImage : ByteArray := prog_11_method_25_code
def yX9_cyclicImage : MethodName := ⟨RX9, "cyclicImage", "(II)I"⟩
abbrev cX9_append : ByteArray := prog_11_method_26_code
def yX9_append : MethodName := ⟨RX9, "append", "(I)I"⟩
abbrev cX9_here : ByteArray := prog_11_method_27_code
def yX9_here : MethodName := ⟨RX9, "here", "()I"⟩
abbrev cX9_rank : ByteArray := prog_11_method_28_code
def yX9_rank : MethodName := ⟨RX9, "rank", "(I)I"⟩
abbrev cX9_emits : ByteArray := prog_11_method_29_code
def yX9_emits : MethodName := ⟨RX9, "emits", "(I)V"⟩
abbrev cX9_top : ByteArray := prog_11_method_30_code
def yX9_top : MethodName := ⟨RX9, "top", "()I"⟩
abbrev cX9_waitsFor : ByteArray := prog_11_method_31_code
def yX9_waitsFor : MethodName := ⟨RX9, "waitsFor", "(I)V"⟩
abbrev cX9_lets : ByteArray := prog_11_method_32_code
def yX9_lets : MethodName := ⟨RX9, "lets", "(I)V"⟩
abbrev cX9_fails : ByteArray := prog_11_method_33_code
def yX9_fails : MethodName := ⟨RX9, "fails", "(I)Z"⟩
abbrev cX9_isWrong : ByteArray := prog_11_method_34_code
def yX9_isWrong : MethodName := ⟨RX9, "isWrong", "()Z"⟩
abbrev cX9_isBegun : ByteArray := prog_11_method_35_code
def yX9_isBegun : MethodName := ⟨RX9, "isBegun", "()Z"⟩
abbrev cX9_isGone : ByteArray := prog_11_method_36_code
def yX9_isGone : MethodName := ⟨RX9, "isGone", "()Z"⟩
abbrev cX9_isFormula : ByteArray := prog_11_method_37_code
def yX9_isFormula : MethodName := ⟨RX9, "isFormula", "()Z"⟩
abbrev cX9_value : ByteArray := prog_11_method_38_code
def yX9_value : MethodName := ⟨RX9, "value", "(I)I"⟩
abbrev cX9_compile : ByteArray := prog_11_method_39_code
def yX9_compile : MethodName := ⟨RX9, "compile", "()I"⟩
abbrev cX9_error : ByteArray := prog_11_method_40_code
def yX9_error : MethodName := ⟨RX9, "error", "(I)I"⟩
abbrev cX9_isRegister : ByteArray := prog_11_method_41_code
def yX9_isRegister : MethodName := ⟨RX9, "isRegister", "(I)Z"⟩
abbrev cX9_isOne : ByteArray := prog_11_method_42_code
def yX9_isOne : MethodName := ⟨RX9, "isOne", "(I)Z"⟩
abbrev cX9_setWord : ByteArray := prog_11_method_43_code
def yX9_setWord : MethodName := ⟨RX9, "setWord", "(III)I"⟩
abbrev cX9_wordLength : ByteArray := prog_11_method_44_code
def yX9_wordLength : MethodName := ⟨RX9, "wordLength", "(I)I"⟩
abbrev cX9_wordIndex : ByteArray := prog_11_method_45_code
def yX9_wordIndex : MethodName := ⟨RX9, "wordIndex", "(I)I"⟩
abbrev cX9_cellOf : ByteArray := prog_11_method_46_code
def yX9_cellOf : MethodName := ⟨RX9, "cellOf", "(II)I"⟩
abbrev cX9_cell : ByteArray := prog_11_method_47_code
def yX9_cell : MethodName := ⟨RX9, "cell", "(II)I"⟩
abbrev cX9_apply : ByteArray := prog_11_method_48_code
def yX9_apply : MethodName := ⟨RX9, "apply", "(IZ)I"⟩
abbrev cX9_orbit : ByteArray := prog_11_method_49_code
def yX9_orbit : MethodName := ⟨RX9, "orbit", "(II)I"⟩
abbrev cX9_goal : ByteArray := prog_11_method_50_code
def yX9_goal : MethodName := ⟨RX9, "goal", "(II)I"⟩
abbrev cX9_label : ByteArray := prog_11_method_51_code
def yX9_label : MethodName := ⟨RX9, "label", "(II)I"⟩
abbrev cX9_findsWays : ByteArray := prog_11_method_52_code
def yX9_findsWays : MethodName := ⟨RX9, "findsWays", "(II)V"⟩
abbrev cX9_count : ByteArray := prog_11_method_53_code
def yX9_count : MethodName := ⟨RX9, "count", "(IZ)I"⟩
abbrev cX9_preimageCount : ByteArray := prog_11_method_54_code
def yX9_preimageCount : MethodName := ⟨RX9, "preimageCount", "(IZ)I"⟩
abbrev cX9_shortOne : ByteArray := prog_11_method_55_code
def yX9_shortOne : MethodName := ⟨RX9, "shortOne", "(II)I"⟩
abbrev cX9_longOne : ByteArray := prog_11_method_56_code
def yX9_longOne : MethodName := ⟨RX9, "longOne", "(IZI)I"⟩
abbrev cX9_preimage : ByteArray := prog_11_method_57_code
def yX9_preimage : MethodName := ⟨RX9, "preimage", "(IZII)I"⟩
abbrev cX9_preimagesBetween : ByteArray := prog_11_method_58_code
def yX9_preimagesBetween : MethodName := ⟨RX9, "preimagesBetween", "(III)I"⟩
abbrev cX9_preimages : ByteArray := prog_11_method_59_code
def yX9_preimages : MethodName := ⟨RX9, "preimages", "(II)I"⟩
abbrev cX9_wordsWith : ByteArray := prog_11_method_60_code
def yX9_wordsWith : MethodName := ⟨RX9, "wordsWith", "(II)I"⟩
abbrev cX9_mostPreimages : ByteArray := prog_11_method_61_code
def yX9_mostPreimages : MethodName := ⟨RX9, "mostPreimages", "(I)I"⟩
abbrev cX9_fixedWords : ByteArray := prog_11_method_62_code
def yX9_fixedWords : MethodName := ⟨RX9, "fixedWords", "(I)I"⟩
abbrev cX9_edge : ByteArray := prog_11_method_63_code
def yX9_edge : MethodName := ⟨RX9, "edge", "(III)I"⟩
abbrev cX9_successors : ByteArray := prog_11_method_64_code
def yX9_successors : MethodName := ⟨RX9, "successors", "(II)I"⟩
abbrev cX9_reaches : ByteArray := prog_11_method_65_code
def yX9_reaches : MethodName := ⟨RX9, "reaches", "(IIII)V"⟩
abbrev cX9_findsSets : ByteArray := prog_11_method_66_code
def yX9_findsSets : MethodName := ⟨RX9, "findsSets", "()V"⟩
abbrev cX9_subsets : ByteArray := prog_11_method_67_code
def yX9_subsets : MethodName := ⟨RX9, "subsets", "()I"⟩
abbrev cX9_orphans : ByteArray := prog_11_method_68_code
def yX9_orphans : MethodName := ⟨RX9, "orphans", "(I)I"⟩
abbrev cX9_shortestOrphan : ByteArray := prog_11_method_69_code
def yX9_shortestOrphan : MethodName := ⟨RX9, "shortestOrphan", "(I)I"⟩
abbrev cX9_pairs : ByteArray := prog_11_method_70_code
def yX9_pairs : MethodName := ⟨RX9, "pairs", "()I"⟩
abbrev cX9_cyclicPairs : ByteArray := prog_11_method_71_code
def yX9_cyclicPairs : MethodName := ⟨RX9, "cyclicPairs", "()I"⟩
abbrev cX9_isPermutive : ByteArray := prog_11_method_72_code
def yX9_isPermutive : MethodName := ⟨RX9, "isPermutive", "(I)Z"⟩
abbrev cX9_isBalanced : ByteArray := prog_11_method_73_code
def yX9_isBalanced : MethodName := ⟨RX9, "isBalanced", "()Z"⟩
abbrev cX9_isMade : ByteArray := prog_11_method_74_code
def yX9_isMade : MethodName := ⟨RX9, "isMade", "()Z"⟩
abbrev cX9_has : ByteArray := prog_11_method_75_code
def yX9_has : MethodName := ⟨RX9, "has", "(I)Z"⟩
abbrev cX9_isInverse : ByteArray := prog_11_method_76_code
def yX9_isInverse : MethodName := ⟨RX9, "isInverse", "(II)Z"⟩
abbrev cX9_hasInverse : ByteArray := prog_11_method_77_code
def yX9_hasInverse : MethodName := ⟨RX9, "hasInverse", "()Z"⟩
abbrev cX9_inverse : ByteArray := prog_11_method_78_code
def yX9_inverse : MethodName := ⟨RX9, "inverse", "(I)I"⟩
abbrev cX9_inverseOutput : ByteArray := prog_11_method_79_code
def yX9_inverseOutput : MethodName := ⟨RX9, "inverseOutput", "(I)I"⟩
abbrev cX9_copies : ByteArray := prog_11_method_80_code
def yX9_copies : MethodName := ⟨RX9, "copies", "([I[I)V"⟩
abbrev cX9_save : ByteArray := prog_11_method_81_code
def yX9_save : MethodName := ⟨RX9, "save", "()J"⟩
abbrev cX9_restore : ByteArray := prog_11_method_82_code
def yX9_restore : MethodName := ⟨RX9, "restore", "()J"⟩
def RJ6 : String := "java/lang/Integer"
def TJ6 : u_T := fun k => match k with
  | _ => ("", "", "", false)
def tyJ6 : Nat → FieldType := fun k => match k with
  | _ => .int
abbrev wsJ60 : List Cond := u_ws RJ6 TJ6 0
theorem nmJ6 : ∀ a, a < 0 → ∀ b, b < 0 → a ≠ b → (TJ6 a).2.1 ≠ (TJ6 b).2.1 := by decide +kernel
theorem tyJ6_ok : ∀ k, k < 0 → parseFieldDescriptor (TJ6 k).2.2.1 = some (tyJ6 k) := by decide +kernel
abbrev cJ6_getChars_ba4f3 : ByteArray := prog_24_method_12_code
def yJ6_getChars_ba4f3 : MethodName := ⟨RJ6, "getChars", "(II[B)I"⟩
abbrev cJ6_stringSize_0f7a4 : ByteArray := prog_24_method_13_code
def yJ6_stringSize_0f7a4 : MethodName := ⟨RJ6, "stringSize", "(I)I"⟩
abbrev cJ6_numberOfTrailingZeros_0f7a4 : ByteArray := prog_24_method_48_code
def yJ6_numberOfTrailingZeros_0f7a4 : MethodName := ⟨RJ6, "numberOfTrailingZeros", "(I)I"⟩
def RJ9 : String := "java/lang/Math"
def TJ9 : u_T := fun k => match k with
  | _ => ("", "", "", false)
def tyJ9 : Nat → FieldType := fun k => match k with
  | _ => .int
abbrev wsJ90 : List Cond := u_ws RJ9 TJ9 0
theorem nmJ9 : ∀ a, a < 0 → ∀ b, b < 0 → a ≠ b → (TJ9 a).2.1 ≠ (TJ9 b).2.1 := by decide +kernel
theorem tyJ9_ok : ∀ k, k < 0 → parseFieldDescriptor (TJ9 k).2.2.1 = some (tyJ9 k) := by decide +kernel
abbrev cJ9_floorMod_7cf53 : ByteArray := prog_25_method_50_code
def yJ9_floorMod_7cf53 : MethodName := ⟨RJ9, "floorMod", "(II)I"⟩
abbrev cJ9_max_7cf53 : ByteArray := prog_25_method_65_code
def yJ9_max_7cf53 : MethodName := ⟨RJ9, "max", "(II)I"⟩
abbrev cJ9_min_7cf53 : ByteArray := prog_25_method_69_code
def yJ9_min_7cf53 : MethodName := ⟨RJ9, "min", "(II)I"⟩
abbrev cJ9_min_f86c9 : ByteArray := prog_25_method_70_code
def yJ9_min_f86c9 : MethodName := ⟨RJ9, "min", "(JJ)J"⟩
def RJ7 : String := "java/util/Arrays"
def TJ7 : u_T := fun k => match k with
  | _ => ("", "", "", false)
def tyJ7 : Nat → FieldType := fun k => match k with
  | _ => .int
abbrev wsJ70 : List Cond := u_ws RJ7 TJ7 0
theorem nmJ7 : ∀ a, a < 0 → ∀ b, b < 0 → a ≠ b → (TJ7 a).2.1 ≠ (TJ7 b).2.1 := by decide +kernel
theorem tyJ7_ok : ∀ k, k < 0 → parseFieldDescriptor (TJ7 k).2.2.1 = some (tyJ7 k) := by decide +kernel
abbrev cJ7_rangeCheck_23922 : ByteArray := prog_36_method_30_code
def yJ7_rangeCheck_23922 : MethodName := ⟨RJ7, "rangeCheck", "(III)V"⟩
abbrev cJ7_fill_53178 : ByteArray := prog_36_method_103_code
def yJ7_fill_53178 : MethodName := ⟨RJ7, "fill", "([II)V"⟩
abbrev cJ7_fill_fda19 : ByteArray := prog_36_method_104_code
def yJ7_fill_fda19 : MethodName := ⟨RJ7, "fill", "([IIII)V"⟩
abbrev cJ7_copyOf_9075b : ByteArray := prog_36_method_121_code
def yJ7_copyOf_9075b : MethodName := ⟨RJ7, "copyOf", "([BI)[B"⟩
abbrev cJ7_checkLength_df160 : ByteArray := prog_36_method_131_code
def yJ7_checkLength_df160 : MethodName := ⟨RJ7, "checkLength", "(II)V"⟩
abbrev cJ7_copyOfRange_39247 : ByteArray := prog_36_method_132_code
def yJ7_copyOfRange_39247 : MethodName := ⟨RJ7, "copyOfRange", "([BII)[B"⟩
abbrev cJ7_copyOfRangeByte_39247 : ByteArray := prog_36_method_133_code
def yJ7_copyOfRangeByte_39247 : MethodName := ⟨RJ7, "copyOfRangeByte", "([BII)[B"⟩
def RL : String := "PreimageAnalyzerLaw"
abbrev cL_setSize : ByteArray := method_3_code
def yL_setSize : MethodName := ⟨RL, "setSize", "(LPreimageAnalyzer;II[J)I"⟩
abbrev cL_size : ByteArray := method_4_code
def yL_size : MethodName := ⟨RL, "size", "(LPreimageAnalyzer;I[J)I"⟩
abbrev cL_setOutput : ByteArray := method_5_code
def yL_setOutput : MethodName := ⟨RL, "setOutput", "(LPreimageAnalyzer;II[J)I"⟩
abbrev cL_output : ByteArray := method_6_code
def yL_output : MethodName := ⟨RL, "output", "(LPreimageAnalyzer;I[J)I"⟩
abbrev cL_setNumber : ByteArray := method_7_code
def yL_setNumber : MethodName := ⟨RL, "setNumber", "(LPreimageAnalyzer;J[J)I"⟩
abbrev cL_append : ByteArray := method_8_code
def yL_append : MethodName := ⟨RL, "append", "(LPreimageAnalyzer;I[J)I"⟩
abbrev cL_compile : ByteArray := method_9_code
def yL_compile : MethodName := ⟨RL, "compile", "(LPreimageAnalyzer;[J)I"⟩
abbrev cL_error : ByteArray := method_10_code
def yL_error : MethodName := ⟨RL, "error", "(LPreimageAnalyzer;I[J)I"⟩
abbrev cL_compose : ByteArray := method_11_code
def yL_compose : MethodName := ⟨RL, "compose", "(LPreimageAnalyzer;[J)I"⟩
abbrev cL_setWord : ByteArray := method_12_code
def yL_setWord : MethodName := ⟨RL, "setWord", "(LPreimageAnalyzer;III[J)I"⟩
abbrev cL_wordLength : ByteArray := method_13_code
def yL_wordLength : MethodName := ⟨RL, "wordLength", "(LPreimageAnalyzer;I[J)I"⟩
abbrev cL_wordIndex : ByteArray := method_14_code
def yL_wordIndex : MethodName := ⟨RL, "wordIndex", "(LPreimageAnalyzer;I[J)I"⟩
abbrev cL_cell : ByteArray := method_15_code
def yL_cell : MethodName := ⟨RL, "cell", "(LPreimageAnalyzer;II[J)I"⟩
abbrev cL_apply : ByteArray := method_16_code
def yL_apply : MethodName := ⟨RL, "apply", "(LPreimageAnalyzer;IZ[J)I"⟩
abbrev cL_orbit : ByteArray := method_17_code
def yL_orbit : MethodName := ⟨RL, "orbit", "(LPreimageAnalyzer;II[J)I"⟩
abbrev cL_preimageCount : ByteArray := method_18_code
def yL_preimageCount : MethodName := ⟨RL, "preimageCount", "(LPreimageAnalyzer;IZ[J)I"⟩
abbrev cL_preimage : ByteArray := method_19_code
def yL_preimage : MethodName := ⟨RL, "preimage", "(LPreimageAnalyzer;IZII[J)I"⟩
abbrev cL_preimagesBetween : ByteArray := method_20_code
def yL_preimagesBetween : MethodName := ⟨RL, "preimagesBetween", "(LPreimageAnalyzer;III[J)I"⟩
abbrev cL_wordsWith : ByteArray := method_21_code
def yL_wordsWith : MethodName := ⟨RL, "wordsWith", "(LPreimageAnalyzer;II[J)I"⟩
abbrev cL_mostPreimages : ByteArray := method_22_code
def yL_mostPreimages : MethodName := ⟨RL, "mostPreimages", "(LPreimageAnalyzer;I[J)I"⟩
abbrev cL_fixedWords : ByteArray := method_23_code
def yL_fixedWords : MethodName := ⟨RL, "fixedWords", "(LPreimageAnalyzer;I[J)I"⟩
abbrev cL_edge : ByteArray := method_24_code
def yL_edge : MethodName := ⟨RL, "edge", "(LPreimageAnalyzer;III[J)I"⟩
abbrev cL_orphans : ByteArray := method_25_code
def yL_orphans : MethodName := ⟨RL, "orphans", "(LPreimageAnalyzer;I[J)I"⟩
abbrev cL_shortestOrphan : ByteArray := method_26_code
def yL_shortestOrphan : MethodName := ⟨RL, "shortestOrphan", "(LPreimageAnalyzer;I[J)I"⟩
abbrev cL_has : ByteArray := method_27_code
def yL_has : MethodName := ⟨RL, "has", "(LPreimageAnalyzer;I[J)I"⟩
abbrev cL_inverse : ByteArray := method_28_code
def yL_inverse : MethodName := ⟨RL, "inverse", "(LPreimageAnalyzer;I[J)I"⟩
abbrev cL_inverseOutput : ByteArray := method_29_code
def yL_inverseOutput : MethodName := ⟨RL, "inverseOutput", "(LPreimageAnalyzer;I[J)I"⟩
abbrev cL_restore : ByteArray := method_30_code
def yL_restore : MethodName := ⟨RL, "restore", "(LPreimageAnalyzer;[J)I"⟩
abbrev cL_law : ByteArray := code
def yL_law : MethodName := ⟨RL, "law", "([I)Z"⟩
end
section
/-! ===== the pure world: cells by numbers, addresses by a map ===== -/
abbrev PE : Type := (Nat × vp_A) ⊕ (Nat × List Value)
abbrev Hp : Type := Nat → PE
abbrev Wt : Type := (Nat → Nat) × Nat
abbrev GG : Type := va_G × (Nat → ClassId)
abbrev Mi : Type := MethodName × ByteArray × Nat × Option FieldType × Nat
def hu (h : Hp) (q : Nat) (c : PE) : Hp := fun j => if j = q then c else h j
theorem hu_s (h : Hp) (q : Nat) (c : PE) : hu h q c q = c := if_pos rfl
theorem hu_n (h : Hp) {q j : Nat} (c : PE) (hj : j ≠ q) : hu h q c j = h j := if_neg hj
def junk : PE := .inr (1000, [])
abbrev io (n : Nat) (f : Nat → Int32) : PE := .inl (0, n, .inl f)
abbrev zo (n : Nat) (f : Nat → Int32) : PE := .inl (1, n, .inl f)
abbrev jo (n : Nat) (f : Nat → Int64) : PE := .inl (2, n, .inr (.inl f))
abbrev ao (n : Nat) (f : Nat → Option Nat) : PE := .inl (3, n, .inr (.inr (.inr (.inr f))))
abbrev ob (ci : Nat) (fs : List Value) : PE := .inr (ci, fs)
def cv (ad : Nat → Nat) : Value → Value
  | .ref a => .ref (ad a)
  | v => v
theorem cv_cat (ad : Nat → Nat) (v : Value) : (cv ad v).category = v.category := by cases v <;> rfl
def cx (ad : Nat → Nat) : vp_A → vp_A
  | (n, .inr (.inr (.inr (.inr f)))) => (n, .inr (.inr (.inr (.inr (fun j => (f j).map ad)))))
  | a => a
def cz (cA : Nat → ClassId) (ad : Nat → Nat) : PE → va_E
  | .inl (t, a) => .inl (cA t, cx ad a)
  | .inr (ci, fs) => .inr (ci, fs.map (cv ad))
abbrev cls10 : List vw_C := [(RX0, TX0, 10), (RX1, TX1, 4), (RX2, TX2, 4), (RX3, TX3, 1), (RX4, TX4, 5), (RX5, TX5, 2), (RX6, TX6, 9), (RX7, TX7, 9), (RX8, TX8, 13), (RX9, TX9, 42)]
abbrev AB (B : Nat) : Nat → Prop := fun q => B ≤ q
abbrev tysD (G : GG) : List (ClassId × FieldType) := [(G.2 0, .int), (G.2 1, .boolean), (G.2 2, .long), (G.2 3, .array .int)]
def wl (G : GG) (w : Wt) (h : Hp) : va_W := (List.range w.2).map (fun i => (w.1 i, cz G.2 w.1 (h i)))
def okv (N : Nat) : Value → Prop
  | .ref a => a < N
  | _ => True
def clo (N : Nat) : PE → Prop
  | .inl (_, _, .inr (.inr (.inr (.inr f)))) => ∀ j a, f j = some a → a < N
  | .inl _ => True
  | .inr (_, fs) => ∀ v ∈ fs, okv N v
def Wd (G : GG) (B : Nat) (w : Wt) (h : Hp) (H : Heap) : Prop :=
  va_P G.1 cls10 (wl G w h) H ∧ va_D (AB B) (wl G w h) ∧ (∀ q, w.2 ≤ q → h q = junk) ∧ ∀ q, q < w.2 → clo w.2 (h q)
theorem wl_get (G : GG) (w : Wt) (h : Hp) {q : Nat} (hq : q < w.2) : (wl G w h)[q]? = some (w.1 q, cz G.2 w.1 (h q)) := by
  simp [wl, hq]
theorem wl_set (G : GG) (w : Wt) (h : Hp) {q : Nat} (c : PE) (hq : q < w.2) : (wl G w h).set q (w.1 q, cz G.2 w.1 c) = wl G w (hu h q c) := by
  apply List.ext_getElem?
  intro i
  by_cases hi : i = q
  · subst hi
    rw [List.getElem?_set_self (by simp [wl, hq]), wl_get G w _ hq, hu_s]
  · rw [List.getElem?_set_ne (Ne.symm hi)]
    by_cases h2 : i < w.2
    · rw [wl_get G w _ h2, wl_get G w _ h2, hu_n _ _ hi]
    · rw [List.getElem?_eq_none (by simp [wl]; omega), List.getElem?_eq_none (by simp [wl]; omega)]
theorem Wd.lt {G : GG} {B : Nat} {w : Wt} {h : Hp} {H : Heap} (hW : Wd G B w h H) {q : Nat} (hq : h q ≠ junk) : q < w.2 := by
  rcases Nat.lt_or_ge q w.2 with h1 | h1
  · exact h1
  · exact absurd (hW.2.2.1 q h1) hq
theorem Wd.set {G : GG} {B : Nat} {w : Wt} {h : Hp} {H H1 : Heap} (hW : Wd G B w h H) {q : Nat} (hq : q < w.2) {c : PE} {e : va_E} (hc : cz G.2 w.1 c = e) (ho : clo w.2 c) (hP : va_P G.1 cls10 ((wl G w h).set q (w.1 q, e)) H1) (hD : va_D (AB B) ((wl G w h).set q (w.1 q, e))) : Wd G B w (hu h q c) H1 := by
  subst hc
  rw [wl_set G w h c hq] at hP hD
  refine ⟨hP, hD, fun j hj => ?_, fun j hj => ?_⟩
  · rw [hu_n _ _ (by omega)]
    exact hW.2.2.1 j hj
  · by_cases e : j = q
    · subst e; rw [hu_s]; exact ho
    · rw [hu_n _ _ e]; exact hW.2.2.2 j hj
theorem wl_ext (G : GG) {w w' : Wt} (h : Hp) (hN : w.2 = w'.2) (ha : ∀ i, i < w.2 → w'.1 i = w.1 i) (hcl : ∀ q, q < w.2 → clo w.2 (h q)) : wl G w' h = wl G w h := by
  unfold wl
  rw [← hN]
  refine List.map_congr_left fun i hi => ?_
  have hi' : i < w.2 := List.mem_range.mp hi
  rw [ha i hi']
  congr 1
  have hc := hcl i hi'
  revert hc
  generalize h i = c
  intro hc
  match c, hc with
  | .inl (t, n, .inl f), _ => rfl
  | .inl (t, n, .inr (.inl f)), _ => rfl
  | .inl (t, n, .inr (.inr (.inl f))), _ => rfl
  | .inl (t, n, .inr (.inr (.inr (.inl f)))), _ => rfl
  | .inl (t, n, .inr (.inr (.inr (.inr f)))), hc =>
    have hf : (fun j => (f j).map w'.1) = (fun j => (f j).map w.1) := by
      funext j
      cases hj : f j with
      | none => rfl
      | some a => simp only [Option.map_some]; rw [ha a (hc j a hj)]
    show (Sum.inl (G.2 t, (n, .inr (.inr (.inr (.inr (fun j => (f j).map w'.1)))))) : va_E) = .inl (G.2 t, (n, .inr (.inr (.inr (.inr (fun j => (f j).map w.1))))))
    rw [hf]
  | .inr (ci, fs), hc =>
    show (Sum.inr (ci, fs.map (cv w'.1)) : va_E) = .inr (ci, fs.map (cv w.1))
    congr 2
    refine List.map_congr_left fun v hv => ?_
    have := hc v hv
    cases v <;> first | rfl | (show Value.ref _ = Value.ref _; rw [ha _ this])
/-! the locals -/
def Lc (ad : Nat → Nat) (L : List (Option Value)) (ls : Array Slot) : Prop := ls.size = L.length ∧ lv_wf ls ∧ ∀ (i : Nat) (v : Value), L[i]? = some (some v) → ls[i]? = some (.val (cv ad v))
def rdL : List (Option Value) → Nat → Option Value
  | [], _ => none
  | a :: _, 0 => a
  | _ :: l, i + 1 => rdL l i
def killL : Option Value → Option Value
  | some (.long _) => none
  | some (.double _) => none
  | a => a
def sto1 : List (Option Value) → Nat → Value → List (Option Value)
  | [], _, _ => []
  | _ :: l, 0, v => some v :: l
  | a :: l, 1, v => killL a :: sto1 l 0 v
  | a :: l, i + 2, v => a :: sto1 l (i + 1) v
def sto2 : List (Option Value) → Nat → Value → List (Option Value)
  | [], _, _ => []
  | _ :: [], 0, v => [some v]
  | _ :: _ :: l, 0, v => some v :: none :: l
  | a :: l, 1, v => killL a :: sto2 l 0 v
  | a :: l, i + 2, v => a :: sto2 l (i + 1) v
theorem rdL_get : ∀ (L : List (Option Value)) (i : Nat) (v : Value), rdL L i = some v → L[i]? = some (some v)
  | [], _, _, h => by cases h
  | a :: _, 0, v, h => by
    have h : a = some v := h
    rw [h]; rfl
  | _ :: l, i + 1, v, h => by rw [List.getElem?_cons_succ]; exact rdL_get l i v h
theorem Lc.rd {ad : Nat → Nat} {L : List (Option Value)} {ls : Array Slot} (h : Lc ad L ls) {i : Nat} {v : Value} (hi : rdL L i = some v) : ls[i]? = some (.val (cv ad v)) := h.2.2 i v (rdL_get L i v hi)
def lvs (ad : Nat → Nat) (L : List (Option Value)) : List (Nat × Value) := (List.range L.length).filterMap (fun i => match L[i]? with
  | some (some v) => some (i, cv ad v)
  | _ => none)
theorem lvs_mem {ad : Nat → Nat} {L : List (Option Value)} {i : Nat} {v : Value} (h : L[i]? = some (some v)) : (i, cv ad v) ∈ lvs ad L := by
  refine List.mem_filterMap.mpr ⟨i, List.mem_range.mpr (List.getElem?_eq_some_iff.mp h).1, ?_⟩
  rw [h]
theorem Lc.has {ad : Nat → Nat} {L : List (Option Value)} {ls : Array Slot} (h : Lc ad L ls) : lv_has ls L.length (lvs ad L) := by
  refine ⟨h.1, h.2.1, fun q hq => ?_⟩
  obtain ⟨i, -, hi⟩ := List.mem_filterMap.mp hq
  split at hi
  · rename_i v hv
    cases hi
    exact h.2.2 i v hv
  · cases hi
theorem sto1_len : ∀ (L : List (Option Value)) (i : Nat) (v : Value), (sto1 L i v).length = L.length
  | [], _, _ => rfl
  | _ :: _, 0, _ => rfl
  | _ :: l, 1, v => by simp [sto1, sto1_len l 0 v]
  | _ :: l, i + 2, v => by simp [sto1, sto1_len l (i + 1) v]
theorem sto2_len : ∀ (L : List (Option Value)) (i : Nat) (v : Value), (sto2 L i v).length = L.length
  | [], _, _ => rfl
  | _ :: [], 0, _ => rfl
  | _ :: _ :: _, 0, _ => rfl
  | _ :: l, 1, v => by simp [sto2, sto2_len l 0 v]
  | _ :: l, i + 2, v => by simp [sto2, sto2_len l (i + 1) v]
theorem killL_some {a : Option Value} {u : Value} (h : killL a = some u) : a = some u ∧ u.category = 1 := by
  match a, h with
  | some (.int _), h => cases h; exact ⟨rfl, rfl⟩
  | some (.float _), h => cases h; exact ⟨rfl, rfl⟩
  | some .null, h => cases h; exact ⟨rfl, rfl⟩
  | some (.ref _), h => cases h; exact ⟨rfl, rfl⟩
  | some (.retAddr _), h => cases h; exact ⟨rfl, rfl⟩
theorem sto1_get : ∀ (L : List (Option Value)) (i : Nat) (v : Value) (j : Nat) (u : Value), (sto1 L i v)[j]? = some (some u) → (j = i ∧ u = v) ∨ (j ≠ i ∧ L[j]? = some (some u) ∧ ¬ (j + 1 = i ∧ u.category = 2))
  | [], _, _, _, _, h => by simp [sto1] at h
  | a :: l, 0, v, 0, u, h => by
    simp [sto1] at h
    exact Or.inl ⟨rfl, h.symm⟩
  | a :: l, 0, v, j + 1, u, h => by
    simp [sto1] at h
    exact Or.inr ⟨by omega, by simpa using h, by omega⟩
  | a :: l, 1, v, 0, u, h => by
    simp [sto1] at h
    obtain ⟨h1, h2⟩ := killL_some h
    exact Or.inr ⟨by omega, by simp [h1], by omega⟩
  | a :: l, 1, v, j + 1, u, h => by
    have h' : (sto1 l 0 v)[j]? = some (some u) := by simpa [sto1] using h
    rcases sto1_get l 0 v j u h' with ⟨h1, h2⟩ | ⟨h1, h2, h3⟩
    · exact Or.inl ⟨by omega, h2⟩
    · exact Or.inr ⟨by omega, by simpa using h2, by omega⟩
  | a :: l, i + 2, v, 0, u, h => by
    simp [sto1] at h
    exact Or.inr ⟨by omega, by simp [h], by omega⟩
  | a :: l, i + 2, v, j + 1, u, h => by
    have h' : (sto1 l (i + 1) v)[j]? = some (some u) := by simpa [sto1] using h
    rcases sto1_get l (i + 1) v j u h' with ⟨h1, h2⟩ | ⟨h1, h2, h3⟩
    · exact Or.inl ⟨by omega, h2⟩
    · exact Or.inr ⟨by omega, by simpa using h2, by omega⟩
theorem sto2_get : ∀ (L : List (Option Value)) (i : Nat) (v : Value) (j : Nat) (u : Value), (sto2 L i v)[j]? = some (some u) → (j = i ∧ u = v) ∨ (j ≠ i ∧ j ≠ i + 1 ∧ L[j]? = some (some u) ∧ ¬ (j + 1 = i ∧ u.category = 2))
  | [], _, _, _, _, h => by simp [sto2] at h
  | [a], 0, v, 0, u, h => by
    simp [sto2] at h
    exact Or.inl ⟨rfl, h.symm⟩
  | [a], 0, v, j + 1, u, h => by simp [sto2] at h
  | a :: b :: l, 0, v, 0, u, h => by
    simp [sto2] at h
    exact Or.inl ⟨rfl, h.symm⟩
  | a :: b :: l, 0, v, 1, u, h => by simp [sto2] at h
  | a :: b :: l, 0, v, j + 2, u, h => by
    simp [sto2] at h
    exact Or.inr ⟨by omega, by omega, by simpa using h, by omega⟩
  | a :: l, 1, v, 0, u, h => by
    simp [sto2] at h
    obtain ⟨h1, h2⟩ := killL_some h
    exact Or.inr ⟨by omega, by omega, by simp [h1], by omega⟩
  | a :: l, 1, v, j + 1, u, h => by
    have h' : (sto2 l 0 v)[j]? = some (some u) := by simpa [sto2] using h
    rcases sto2_get l 0 v j u h' with ⟨h1, h2⟩ | ⟨h1, h2, h3, h4⟩
    · exact Or.inl ⟨by omega, h2⟩
    · exact Or.inr ⟨by omega, by omega, by simpa using h3, by omega⟩
  | a :: l, i + 2, v, 0, u, h => by
    simp [sto2] at h
    exact Or.inr ⟨by omega, by omega, by simp [h], by omega⟩
  | a :: l, i + 2, v, j + 1, u, h => by
    have h' : (sto2 l (i + 1) v)[j]? = some (some u) := by simpa [sto2] using h
    rcases sto2_get l (i + 1) v j u h' with ⟨h1, h2⟩ | ⟨h1, h2, h3, h4⟩
    · exact Or.inl ⟨by omega, h2⟩
    · exact Or.inr ⟨by omega, by omega, by simpa using h3, by omega⟩
theorem Lc.sto1 {ad : Nat → Nat} {L : List (Option Value)} {ls' : Array Slot} {i : Nat} {v : Value} (h' : lv_has ls' L.length ((i, cv ad v) :: (lvs ad L).filter (fun q => !(q.1 == i) && !(q.1 + 1 == i && q.2.category == 2)))) : Lc ad (sto1 L i v) ls' := by
  refine ⟨by rw [sto1_len]; exact h'.1, h'.2.1, fun j u hj => ?_⟩
  rcases sto1_get L i v j u hj with ⟨h1, h2⟩ | ⟨h1, h2, h3⟩
  · subst h1; subst h2
    exact h'.2.2 _ List.mem_cons_self
  · refine h'.2.2 (j, cv ad u) (List.mem_cons_of_mem _ (List.mem_filter.mpr ⟨lvs_mem h2, ?_⟩))
    simp [h1, cv_cat]
    omega
theorem Lc.sto2 {ad : Nat → Nat} {L : List (Option Value)} {ls' : Array Slot} {i : Nat} {v : Value} (h' : lv_has ls' L.length ((i, cv ad v) :: (lvs ad L).filter (fun q => !(q.1 == i) && (!(q.1 == i + 1) && !(q.1 + 1 == i && q.2.category == 2))))) : Lc ad (sto2 L i v) ls' := by
  refine ⟨by rw [sto2_len]; exact h'.1, h'.2.1, fun j u hj => ?_⟩
  rcases sto2_get L i v j u hj with ⟨h1, h2⟩ | ⟨h1, h2, h3, h4⟩
  · subst h1; subst h2
    exact h'.2.2 _ List.mem_cons_self
  · refine h'.2.2 (j, cv ad u) (List.mem_cons_of_mem _ (List.mem_filter.mpr ⟨lvs_mem h3, ?_⟩))
    simp [h1, h2, cv_cat]
    omega
end
section
/-! ===== contexts, contracts, the judgement V ===== -/
def TSg : List Cond := lw_tbl.filter goodWord
theorem tsg {w : Cond} (h : w ∈ lw_tbl) (hg : goodWord w = true) : w ∈ TSg := List.mem_filter.mpr ⟨h, hg⟩
theorem tsg1 {w : Cond} (h : w ∈ tables_1) (hg : goodWord w = true) : w ∈ TSg := tsg (List.mem_append_right _ h) hg
theorem tsg_good {w : Cond} (h : w ∈ TSg) : goodWord w = true := (List.mem_filter.mp h).2
theorem tsg_in {Ts ws : List Cond} (h1 : ∀ w ∈ TSg, w ∈ Ts) (h2 : ∀ w ∈ ws, w ∈ TSg) : GoodIn Ts ws := fun w hw => ⟨h1 w (h2 w hw), good_of_word (tsg_good (h2 w hw))⟩
/-- words that aren't good but stay -/
def exOk : Cond → Bool
  | .castable .. => true
  | .declares .. => true
  | _ => false
def ncL : List (String × String) := [("java/lang/ArithmeticException", "java/lang/IllegalArgumentException"), ("java/lang/ArithmeticException", "java/lang/IllegalStateException"), ("java/lang/ArithmeticException", "java/lang/IndexOutOfBoundsException"), ("java/lang/ArithmeticException", "java/util/NoSuchElementException"), ("java/lang/IllegalArgumentException", "java/lang/ArithmeticException"), ("java/lang/IllegalArgumentException", "java/lang/IllegalStateException"), ("java/lang/IllegalArgumentException", "java/lang/IndexOutOfBoundsException"), ("java/lang/IllegalArgumentException", "java/util/NoSuchElementException"), ("java/lang/IllegalStateException", "java/lang/ArithmeticException"), ("java/lang/IllegalStateException", "java/lang/IllegalArgumentException"), ("java/lang/IllegalStateException", "java/lang/IndexOutOfBoundsException"), ("java/lang/IllegalStateException", "java/util/NoSuchElementException"), ("java/lang/IndexOutOfBoundsException", "java/lang/ArithmeticException"), ("java/lang/IndexOutOfBoundsException", "java/lang/IllegalArgumentException"), ("java/lang/IndexOutOfBoundsException", "java/lang/IllegalStateException"), ("java/lang/IndexOutOfBoundsException", "java/util/NoSuchElementException"), ("java/util/NoSuchElementException", "java/lang/ArithmeticException"), ("java/util/NoSuchElementException", "java/lang/IllegalArgumentException"), ("java/util/NoSuchElementException", "java/lang/IllegalStateException"), ("java/util/NoSuchElementException", "java/lang/IndexOutOfBoundsException")]
def ExD (U : State) : Prop := (∀ w ∈ lw_tbl, exOk w = true → va_Nw w U) ∧ (∀ own k tx, Cond.stringRef own k tx ∈ lw_tbl → ∃ a, vk_R own k tx a U) ∧ (∀ q ∈ ncL, va_Nc q.1 q.2 U) ∧ va_AOA .int U
def StD (B : Nat) (U : State) (H : Heap) : Prop := vx_Zq Bundle.tN "UNASSIGNED_STACK" Bundle.steD (AB B) U H ∧ vx_Zq Bundle.tN "SUPPRESSED_SENTINEL" Bundle.listD (AB B) U H
theorem aoa_moved {ty : FieldType} {u U : State} (hvm : u.vm.Alike U.vm) (h : va_AOA ty u) : va_AOA ty U := by
  unfold va_AOA at h ⊢
  have h1 := (Cond.arrayOver_setVmC (args := #[]) hvm (.array ty)).trans h
  exact h1
theorem ExD.warm {s U : State} (hW : s.WarmedH U.vm) (h : ExD s) : ExD U := by
  obtain ⟨h1, h2, h3, h4⟩ := h
  refine ⟨fun w hw he => ?_, fun own k tx hw => ?_, fun q hq => (h3 q hq).moved hW.alike, aoa_moved hW.alike h4⟩
  · have := h1 w hw he
    cases w with
    | castable C T => exact va_Nw.warmC hW this
    | declares x => exact va_Nw.warmD hW this
    | _ => cases he
  · obtain ⟨a, ha⟩ := h2 own k tx hw
    exact ⟨a, ha.warm hW⟩
def PreD (G : GG) (B : Nat) (w : Wt) (h : Hp) (U : State) : Prop := Wd G B w h U.heap ∧ va_K G.1 cls10 (tysD G) U ∧ B ≤ U.heap.size ∧ StD B U U.heap ∧ ExD U
abbrev Oc : Type := Option Value ⊕ String
def QcD (G : GG) (B : Nat) (o : Oc) (P : Wt → Hp → Prop) : Array Value → State → Outcome → State → Prop := fun _ st oc t => (∃ v w' h', oc = .returned v ∧ o = .inl v ∧ P w' h' ∧ Wd G B w' h' t.heap) ∧ va_F (AB B) st t
def XcD (G : GG) (B : Nat) (o : Oc) (P : Wt → Hp → Prop) : String → State → State → Prop := fun E st t => (∃ w' h', o = .inr E ∧ P w' h' ∧ Wd G B w' h' t.heap) ∧ va_F (AB B) st t
def rmD (d : Nat) (z : Nat × Nat) : Room := { frames := 20 + d, cells := z.1, slots := z.2, locals := 200 + 80 * d }
/-- a method's contract: from the heap h it comes to the outcome o with P of world and heap; at most z new cells and slots -/
def Con (μ : Mi) (d : Nat) (z : Nat × Nat) (w : Wt) (as : List Value) (h : Hp) (o : Oc) (P : Wt → Hp → Prop) : Prop :=
  ∀ (l : Launch) (G : GG) (B : Nat), l.stackTraces = false → vx_Met l μ.1 (.code μ.1 μ.2.1 μ.2.2.1 μ.2.2.2.1 :: TSg) (rmD d z) (va_Pc (as.map (cv w.1)) (PreD G B w h)) (QcD G B o P) (XcD G B o P) z.1 z.2 (AB B)
abbrev CT : Type := Program × Launch × Env × Room × State × MethodId × Array Value × List Frame × Method × Code × GG × Nat × (State → Prop)
def Cx (X : CT) (μ : Mi) (tab : List ExceptionTableEntry) (d : Nat) (zR : Nat × Nat) (o : Oc) (P : Wt → Hp → Prop) : Prop := match X with
  | (p, l, _, R, s, m, args, below, meth, c, G, B, Q) => p.tables.exec = Jvm.exec ∧ c.code = μ.2.1 ∧ c.maxLocals = μ.2.2.1 ∧ s.vm.findClass μ.1.cls = some m.cls ∧ (∀ w ∈ TSg, w.before args s = true) ∧ meth.locks = false ∧ l.stackTraces = false ∧ va_K G.1 cls10 (tysD G) s ∧ B ≤ s.heap.size ∧ StD B s s.heap ∧ ExD s ∧ (20 + d ≤ R.frames ∧ 200 + 80 * d ≤ R.locals ∧ zR.1 ≤ R.cells ∧ zR.2 ≤ R.slots) ∧ c.exceptionTable.toList = tab ∧ meth.sig.returnType = μ.2.2.2.1 ∧ meth.name = μ.1.name ∧ Q = vx_MQ below (QcD G B o P) (XcD G B o P) args s zR.1 zR.2 (AB B)
def V (X : CT) (z : Nat × Nat) (w : Wt) (h : Hp) (pc : Nat) (L : List (Option Value)) (st : List Value) : Prop := match X with
  | (p, l, e, R, s, m, args, below, meth, c, G, B, Q) => ∀ (H : Heap) (locs : List Loc) (ls : Array Slot), Wd G B w h H → va_S (AB B) s.heap H locs → Lc w.1 L ls → W p l e R s m args below meth c H locs z.1 z.2 Q (F0 m pc ls (st.map (cv w.1)))
def entL : Nat → List Value → List (Option Value)
  | n, [] => List.replicate n none
  | n + 2, .long x :: vs => some (.long x) :: none :: entL n vs
  | n + 1, v :: vs => some v :: entL n vs
  | 0, _ :: _ => []
end
section
/-! ===== the rules of V: straight instructions ===== -/
section VR
variable {X : CT} {μ : Mi} {tab : List ExceptionTableEntry} {d : Nat} {zR : Nat × Nat} {o : Oc} {P : Wt → Hp → Prop} {z : Nat × Nat} {w : Wt} {h : Hp} {pc : Nat} {L : List (Option Value)} {st : List Value}
theorem v_code (C : Cx X μ tab d zR o P) {Vn : Prop} (k : X.1.tables.exec = Jvm.exec → (X.2.2.2.2.2.2.2.2.2.1).code = μ.2.1 → Vn) : Vn := by
  rcases X with ⟨p, l, e, R, s, m, args, below, meth, c, G, B, Q⟩
  exact k C.1 C.2.1
theorem v_iconst (C : Cx X μ tab d zR o P) {n : Int} {v : Int32} (hd : decode μ.2.1 pc = .ok (.iconst n, 1)) (hv : Int32.ofInt n = v) (k : V X z w h (pc + 1) L (.int v :: st)) : V X z w h pc L st := by
  rcases X with ⟨p, l, e, R, s, m, args, below, meth, c, G, B, Q⟩
  intro H locs ls hW hS hl
  exact lv_iconst C.1 C.2.1 hd hv (k H locs ls hW hS hl)
theorem v_bipush (C : Cx X μ tab d zR o P) {n : Int} {v : Int32} (hd : decode μ.2.1 pc = .ok (.bipush n, 2)) (hv : (Int8.ofInt n).toInt32 = v) (k : V X z w h (pc + 2) L (.int v :: st)) : V X z w h pc L st := by
  rcases X with ⟨p, l, e, R, s, m, args, below, meth, c, G, B, Q⟩
  intro H locs ls hW hS hl
  exact lv_bipush C.1 C.2.1 hd hv (k H locs ls hW hS hl)
theorem v_sipush (C : Cx X μ tab d zR o P) {n : Int} {v : Int32} (hd : decode μ.2.1 pc = .ok (.sipush n, 3)) (hv : (Int16.ofInt n).toInt32 = v) (k : V X z w h (pc + 3) L (.int v :: st)) : V X z w h pc L st := by
  rcases X with ⟨p, l, e, R, s, m, args, below, meth, c, G, B, Q⟩
  intro H locs ls hW hS hl
  exact lv_sipush C.1 C.2.1 hd hv (k H locs ls hW hS hl)
theorem v_lconst (C : Cx X μ tab d zR o P) {n : Fin 2} {v : Int64} (hd : decode μ.2.1 pc = .ok (.lconst n, 1)) (hv : Int64.ofNat (n : Nat) = v) (k : V X z w h (pc + 1) L (.long v :: st)) : V X z w h pc L st := by
  rcases X with ⟨p, l, e, R, s, m, args, below, meth, c, G, B, Q⟩
  intro H locs ls hW hS hl
  exact lv_lconst C.1 C.2.1 hd hv (k H locs ls hW hS hl)
theorem v_iload_n (C : Cx X μ tab d zR o P) {n : Fin 4} {x : Int32} (hd : decode μ.2.1 pc = .ok (.iload_n n, 1)) (hr : rdL L (n : Nat) = some (.int x)) (k : V X z w h (pc + 1) L (.int x :: st)) : V X z w h pc L st := by
  rcases X with ⟨p, l, e, R, s, m, args, below, meth, c, G, B, Q⟩
  intro H locs ls hW hS hl
  exact lv_iload_n C.1 C.2.1 hd rfl (hl.rd hr) (k H locs ls hW hS hl)
theorem v_iload (C : Cx X μ tab d zR o P) {i : Nat} {x : Int32} (hd : decode μ.2.1 pc = .ok (.iload i, 2)) (hr : rdL L i = some (.int x)) (k : V X z w h (pc + 2) L (.int x :: st)) : V X z w h pc L st := by
  rcases X with ⟨p, l, e, R, s, m, args, below, meth, c, G, B, Q⟩
  intro H locs ls hW hS hl
  exact lv_iload C.1 C.2.1 hd (hl.rd hr) (k H locs ls hW hS hl)
theorem v_lload_n (C : Cx X μ tab d zR o P) {n : Fin 4} {x : Int64} (hd : decode μ.2.1 pc = .ok (.lload_n n, 1)) (hr : rdL L (n : Nat) = some (.long x)) (k : V X z w h (pc + 1) L (.long x :: st)) : V X z w h pc L st := by
  rcases X with ⟨p, l, e, R, s, m, args, below, meth, c, G, B, Q⟩
  intro H locs ls hW hS hl
  exact lv_lload_n C.1 C.2.1 hd rfl (hl.rd hr) (k H locs ls hW hS hl)
theorem v_lload (C : Cx X μ tab d zR o P) {i : Nat} {x : Int64} (hd : decode μ.2.1 pc = .ok (.lload i, 2)) (hr : rdL L i = some (.long x)) (k : V X z w h (pc + 2) L (.long x :: st)) : V X z w h pc L st := by
  rcases X with ⟨p, l, e, R, s, m, args, below, meth, c, G, B, Q⟩
  intro H locs ls hW hS hl
  exact lv_lload C.1 C.2.1 hd (hl.rd hr) (k H locs ls hW hS hl)
theorem v_aload_n (C : Cx X μ tab d zR o P) {n : Fin 4} {x : Nat} (hd : decode μ.2.1 pc = .ok (.aload_n n, 1)) (hr : rdL L (n : Nat) = some (.ref x)) (k : V X z w h (pc + 1) L (.ref x :: st)) : V X z w h pc L st := by
  rcases X with ⟨p, l, e, R, s, m, args, below, meth, c, G, B, Q⟩
  intro H locs ls hW hS hl
  exact lv_aload_n C.1 C.2.1 hd rfl (hl.rd hr) (k H locs ls hW hS hl)
theorem v_aload (C : Cx X μ tab d zR o P) {i : Nat} {x : Nat} (hd : decode μ.2.1 pc = .ok (.aload i, 2)) (hr : rdL L i = some (.ref x)) (k : V X z w h (pc + 2) L (.ref x :: st)) : V X z w h pc L st := by
  rcases X with ⟨p, l, e, R, s, m, args, below, meth, c, G, B, Q⟩
  intro H locs ls hW hS hl
  exact lv_aload C.1 C.2.1 hd (hl.rd hr) (k H locs ls hW hS hl)
theorem v_istore_n (C : Cx X μ tab d zR o P) {n : Fin 4} {x : Int32} (hd : decode μ.2.1 pc = .ok (.istore_n n, 1)) (hn : (n : Nat) < L.length) (k : V X z w h (pc + 1) (sto1 L (n : Nat) (.int x)) st) : V X z w h pc L (.int x :: st) := by
  rcases X with ⟨p, l, e, R, s, m, args, below, meth, c, G, B, Q⟩
  intro H locs ls hW hS hl
  exact lv_istore_n C.1 C.2.1 hd rfl hl.has hn rfl (fun ls' h' => k H locs ls' hW hS (Lc.sto1 (v := .int x) h'))
theorem v_istore (C : Cx X μ tab d zR o P) {i : Nat} {x : Int32} (hd : decode μ.2.1 pc = .ok (.istore i, 2)) (hn : i < L.length) (k : V X z w h (pc + 2) (sto1 L i (.int x)) st) : V X z w h pc L (.int x :: st) := by
  rcases X with ⟨p, l, e, R, s, m, args, below, meth, c, G, B, Q⟩
  intro H locs ls hW hS hl
  exact lv_istore C.1 C.2.1 hd hl.has hn rfl (fun ls' h' => k H locs ls' hW hS (Lc.sto1 (v := .int x) h'))
theorem v_astore_n (C : Cx X μ tab d zR o P) {n : Fin 4} {x : Nat} (hd : decode μ.2.1 pc = .ok (.astore_n n, 1)) (hn : (n : Nat) < L.length) (k : V X z w h (pc + 1) (sto1 L (n : Nat) (.ref x)) st) : V X z w h pc L (.ref x :: st) := by
  rcases X with ⟨p, l, e, R, s, m, args, below, meth, c, G, B, Q⟩
  intro H locs ls hW hS hl
  exact lv_astore_n C.1 C.2.1 hd rfl hl.has hn rfl (fun ls' h' => k H locs ls' hW hS (Lc.sto1 (v := .ref x) h'))
theorem v_astore (C : Cx X μ tab d zR o P) {i : Nat} {x : Nat} (hd : decode μ.2.1 pc = .ok (.astore i, 2)) (hn : i < L.length) (k : V X z w h (pc + 2) (sto1 L i (.ref x)) st) : V X z w h pc L (.ref x :: st) := by
  rcases X with ⟨p, l, e, R, s, m, args, below, meth, c, G, B, Q⟩
  intro H locs ls hW hS hl
  exact lv_astore C.1 C.2.1 hd hl.has hn rfl (fun ls' h' => k H locs ls' hW hS (Lc.sto1 (v := .ref x) h'))
theorem v_lstore_n (C : Cx X μ tab d zR o P) {n : Fin 4} {x : Int64} (hd : decode μ.2.1 pc = .ok (.lstore_n n, 1)) (hn : (n : Nat) + 1 < L.length) (k : V X z w h (pc + 1) (sto2 L (n : Nat) (.long x)) st) : V X z w h pc L (.long x :: st) := by
  rcases X with ⟨p, l, e, R, s, m, args, below, meth, c, G, B, Q⟩
  intro H locs ls hW hS hl
  exact lv_lstore_n C.1 C.2.1 hd rfl hl.has hn rfl (fun ls' h' => k H locs ls' hW hS (Lc.sto2 (v := .long x) h'))
theorem v_lstore (C : Cx X μ tab d zR o P) {i : Nat} {x : Int64} (hd : decode μ.2.1 pc = .ok (.lstore i, 2)) (hn : i + 1 < L.length) (k : V X z w h (pc + 2) (sto2 L i (.long x)) st) : V X z w h pc L (.long x :: st) := by
  rcases X with ⟨p, l, e, R, s, m, args, below, meth, c, G, B, Q⟩
  intro H locs ls hW hS hl
  exact lv_lstore C.1 C.2.1 hd hl.has hn rfl (fun ls' h' => k H locs ls' hW hS (Lc.sto2 (v := .long x) h'))
theorem v_iinc (C : Cx X μ tab d zR o P) {i : Nat} {n : Int} {x v : Int32} (hd : decode μ.2.1 pc = .ok (.iinc i n, 3)) (hr : rdL L i = some (.int x)) (hv : x + Int32.ofInt n = v) (k : V X z w h (pc + 3) (sto1 L i (.int v)) st) : V X z w h pc L st := by
  rcases X with ⟨p, l, e, R, s, m, args, below, meth, c, G, B, Q⟩
  intro H locs ls hW hS hl
  have hi := rdL_get L i _ hr
  have hn : i < L.length := (List.getElem?_eq_some_iff.mp hi).1
  obtain ⟨kk, hk⟩ := List.getElem?_of_mem (lvs_mem (ad := w.1) hi)
  exact lv_iinc C.1 C.2.1 hd hl.has hk hv hn rfl (fun ls' h' => k H locs ls' hW hS (Lc.sto1 (v := .int v) h'))
theorem v_iadd (C : Cx X μ tab d zR o P) {x y : Int32} (hd : decode μ.2.1 pc = .ok (.iadd, 1)) (k : V X z w h (pc + 1) L (.int (x + y) :: st)) : V X z w h pc L (.int y :: .int x :: st) := by
  rcases X with ⟨p, l, e, R, s, m, args, below, meth, c, G, B, Q⟩
  intro H locs ls hW hS hl
  exact lv_iadd C.1 C.2.1 hd (k H locs ls hW hS hl)
theorem v_ladd (C : Cx X μ tab d zR o P) {x y : Int64} (hd : decode μ.2.1 pc = .ok (.ladd, 1)) (k : V X z w h (pc + 1) L (.long (x + y) :: st)) : V X z w h pc L (.long y :: .long x :: st) := by
  rcases X with ⟨p, l, e, R, s, m, args, below, meth, c, G, B, Q⟩
  intro H locs ls hW hS hl
  exact lv_ladd C.1 C.2.1 hd (k H locs ls hW hS hl)
theorem v_isub (C : Cx X μ tab d zR o P) {x y : Int32} (hd : decode μ.2.1 pc = .ok (.isub, 1)) (k : V X z w h (pc + 1) L (.int (x - y) :: st)) : V X z w h pc L (.int y :: .int x :: st) := by
  rcases X with ⟨p, l, e, R, s, m, args, below, meth, c, G, B, Q⟩
  intro H locs ls hW hS hl
  exact lv_isub C.1 C.2.1 hd (k H locs ls hW hS hl)
theorem v_lsub (C : Cx X μ tab d zR o P) {x y : Int64} (hd : decode μ.2.1 pc = .ok (.lsub, 1)) (k : V X z w h (pc + 1) L (.long (x - y) :: st)) : V X z w h pc L (.long y :: .long x :: st) := by
  rcases X with ⟨p, l, e, R, s, m, args, below, meth, c, G, B, Q⟩
  intro H locs ls hW hS hl
  exact lv_lsub C.1 C.2.1 hd (k H locs ls hW hS hl)
theorem v_imul (C : Cx X μ tab d zR o P) {x y : Int32} (hd : decode μ.2.1 pc = .ok (.imul, 1)) (k : V X z w h (pc + 1) L (.int (x * y) :: st)) : V X z w h pc L (.int y :: .int x :: st) := by
  rcases X with ⟨p, l, e, R, s, m, args, below, meth, c, G, B, Q⟩
  intro H locs ls hW hS hl
  exact lv_imul C.1 C.2.1 hd (k H locs ls hW hS hl)
theorem v_lmul (C : Cx X μ tab d zR o P) {x y : Int64} (hd : decode μ.2.1 pc = .ok (.lmul, 1)) (k : V X z w h (pc + 1) L (.long (x * y) :: st)) : V X z w h pc L (.long y :: .long x :: st) := by
  rcases X with ⟨p, l, e, R, s, m, args, below, meth, c, G, B, Q⟩
  intro H locs ls hW hS hl
  exact lv_lmul C.1 C.2.1 hd (k H locs ls hW hS hl)
theorem v_iand (C : Cx X μ tab d zR o P) {x y : Int32} (hd : decode μ.2.1 pc = .ok (.iand, 1)) (k : V X z w h (pc + 1) L (.int (x &&& y) :: st)) : V X z w h pc L (.int y :: .int x :: st) := by
  rcases X with ⟨p, l, e, R, s, m, args, below, meth, c, G, B, Q⟩
  intro H locs ls hW hS hl
  exact lv_iand C.1 C.2.1 hd (k H locs ls hW hS hl)
theorem v_land (C : Cx X μ tab d zR o P) {x y : Int64} (hd : decode μ.2.1 pc = .ok (.land, 1)) (k : V X z w h (pc + 1) L (.long (x &&& y) :: st)) : V X z w h pc L (.long y :: .long x :: st) := by
  rcases X with ⟨p, l, e, R, s, m, args, below, meth, c, G, B, Q⟩
  intro H locs ls hW hS hl
  exact lv_land C.1 C.2.1 hd (k H locs ls hW hS hl)
theorem v_ior (C : Cx X μ tab d zR o P) {x y : Int32} (hd : decode μ.2.1 pc = .ok (.ior, 1)) (k : V X z w h (pc + 1) L (.int (x ||| y) :: st)) : V X z w h pc L (.int y :: .int x :: st) := by
  rcases X with ⟨p, l, e, R, s, m, args, below, meth, c, G, B, Q⟩
  intro H locs ls hW hS hl
  exact lv_ior C.1 C.2.1 hd (k H locs ls hW hS hl)
theorem v_lor (C : Cx X μ tab d zR o P) {x y : Int64} (hd : decode μ.2.1 pc = .ok (.lor, 1)) (k : V X z w h (pc + 1) L (.long (x ||| y) :: st)) : V X z w h pc L (.long y :: .long x :: st) := by
  rcases X with ⟨p, l, e, R, s, m, args, below, meth, c, G, B, Q⟩
  intro H locs ls hW hS hl
  exact lv_lor C.1 C.2.1 hd (k H locs ls hW hS hl)
theorem v_ixor (C : Cx X μ tab d zR o P) {x y : Int32} (hd : decode μ.2.1 pc = .ok (.ixor, 1)) (k : V X z w h (pc + 1) L (.int (x ^^^ y) :: st)) : V X z w h pc L (.int y :: .int x :: st) := by
  rcases X with ⟨p, l, e, R, s, m, args, below, meth, c, G, B, Q⟩
  intro H locs ls hW hS hl
  exact lv_ixor C.1 C.2.1 hd (k H locs ls hW hS hl)
theorem v_lxor (C : Cx X μ tab d zR o P) {x y : Int64} (hd : decode μ.2.1 pc = .ok (.lxor, 1)) (k : V X z w h (pc + 1) L (.long (x ^^^ y) :: st)) : V X z w h pc L (.long y :: .long x :: st) := by
  rcases X with ⟨p, l, e, R, s, m, args, below, meth, c, G, B, Q⟩
  intro H locs ls hW hS hl
  exact lv_lxor C.1 C.2.1 hd (k H locs ls hW hS hl)
theorem v_idiv (C : Cx X μ tab d zR o P) {x y : Int32} (hd : decode μ.2.1 pc = .ok (.idiv, 1)) (hne : ¬ y = 0) (k : V X z w h (pc + 1) L (.int (x / y) :: st)) : V X z w h pc L (.int y :: .int x :: st) := by
  rcases X with ⟨p, l, e, R, s, m, args, below, meth, c, G, B, Q⟩
  intro H locs ls hW hS hl
  exact lv_idiv C.1 C.2.1 hd hne (k H locs ls hW hS hl)
theorem v_irem (C : Cx X μ tab d zR o P) {x y : Int32} (hd : decode μ.2.1 pc = .ok (.irem, 1)) (hne : ¬ y = 0) (k : V X z w h (pc + 1) L (.int (x - x / y * y) :: st)) : V X z w h pc L (.int y :: .int x :: st) := by
  rcases X with ⟨p, l, e, R, s, m, args, below, meth, c, G, B, Q⟩
  intro H locs ls hW hS hl
  exact lv_irem C.1 C.2.1 hd hne (k H locs ls hW hS hl)
theorem v_ldiv (C : Cx X μ tab d zR o P) {x y : Int64} (hd : decode μ.2.1 pc = .ok (.ldiv, 1)) (hne : ¬ y = 0) (k : V X z w h (pc + 1) L (.long (x / y) :: st)) : V X z w h pc L (.long y :: .long x :: st) := by
  rcases X with ⟨p, l, e, R, s, m, args, below, meth, c, G, B, Q⟩
  intro H locs ls hW hS hl
  exact lv_ldiv C.1 C.2.1 hd hne (k H locs ls hW hS hl)
theorem v_lrem (C : Cx X μ tab d zR o P) {x y : Int64} (hd : decode μ.2.1 pc = .ok (.lrem, 1)) (hne : ¬ y = 0) (k : V X z w h (pc + 1) L (.long (x - x / y * y) :: st)) : V X z w h pc L (.long y :: .long x :: st) := by
  rcases X with ⟨p, l, e, R, s, m, args, below, meth, c, G, B, Q⟩
  intro H locs ls hW hS hl
  exact lv_lrem C.1 C.2.1 hd hne (k H locs ls hW hS hl)
theorem v_ishl (C : Cx X μ tab d zR o P) {x y : Int32} (hd : decode μ.2.1 pc = .ok (.ishl, 1)) (k : V X z w h (pc + 1) L (.int (x <<< (y &&& 31)) :: st)) : V X z w h pc L (.int y :: .int x :: st) := by
  rcases X with ⟨p, l, e, R, s, m, args, below, meth, c, G, B, Q⟩
  intro H locs ls hW hS hl
  exact lv_ishl C.1 C.2.1 hd (k H locs ls hW hS hl)
theorem v_ishr (C : Cx X μ tab d zR o P) {x y : Int32} (hd : decode μ.2.1 pc = .ok (.ishr, 1)) (k : V X z w h (pc + 1) L (.int (x >>> (y &&& 31)) :: st)) : V X z w h pc L (.int y :: .int x :: st) := by
  rcases X with ⟨p, l, e, R, s, m, args, below, meth, c, G, B, Q⟩
  intro H locs ls hW hS hl
  exact lv_ishr C.1 C.2.1 hd (k H locs ls hW hS hl)
theorem v_iushr (C : Cx X μ tab d zR o P) {x y : Int32} (hd : decode μ.2.1 pc = .ok (.iushr, 1)) (k : V X z w h (pc + 1) L (.int ((x.toUInt32 >>> (y.toUInt32 &&& Int32.toUInt32 31)).toInt32) :: st)) : V X z w h pc L (.int y :: .int x :: st) := by
  rcases X with ⟨p, l, e, R, s, m, args, below, meth, c, G, B, Q⟩
  intro H locs ls hW hS hl
  exact lv_iushr C.1 C.2.1 hd rfl (k H locs ls hW hS hl)
theorem v_lushr (C : Cx X μ tab d zR o P) {x : Int64} {y : Int32} (hd : decode μ.2.1 pc = .ok (.lushr, 1)) (k : V X z w h (pc + 1) L (.long ((x.toUInt64 >>> (y.toInt64.toUInt64 &&& Int64.toUInt64 63)).toInt64) :: st)) : V X z w h pc L (.int y :: .long x :: st) := by
  rcases X with ⟨p, l, e, R, s, m, args, below, meth, c, G, B, Q⟩
  intro H locs ls hW hS hl
  exact lv_lushr C.1 C.2.1 hd rfl (k H locs ls hW hS hl)
theorem v_lshl (C : Cx X μ tab d zR o P) {x : Int64} {y : Int32} (hd : decode μ.2.1 pc = .ok (.lshl, 1)) (k : V X z w h (pc + 1) L (.long (x <<< (y.toInt64 &&& 63)) :: st)) : V X z w h pc L (.int y :: .long x :: st) := by
  rcases X with ⟨p, l, e, R, s, m, args, below, meth, c, G, B, Q⟩
  intro H locs ls hW hS hl
  exact lv_lshl C.1 C.2.1 hd rfl (k H locs ls hW hS hl)
theorem v_i2l (C : Cx X μ tab d zR o P) {x : Int32} (hd : decode μ.2.1 pc = .ok (.i2l, 1)) (k : V X z w h (pc + 1) L (.long x.toInt64 :: st)) : V X z w h pc L (.int x :: st) := by
  rcases X with ⟨p, l, e, R, s, m, args, below, meth, c, G, B, Q⟩
  intro H locs ls hW hS hl
  exact lv_i2l C.1 C.2.1 hd rfl (k H locs ls hW hS hl)
theorem v_l2i (C : Cx X μ tab d zR o P) {x : Int64} (hd : decode μ.2.1 pc = .ok (.l2i, 1)) (k : V X z w h (pc + 1) L (.int x.toInt32 :: st)) : V X z w h pc L (.long x :: st) := by
  rcases X with ⟨p, l, e, R, s, m, args, below, meth, c, G, B, Q⟩
  intro H locs ls hW hS hl
  exact lv_l2i C.1 C.2.1 hd rfl (k H locs ls hW hS hl)
theorem v_lcmp (C : Cx X μ tab d zR o P) {x y : Int64} (hd : decode μ.2.1 pc = .ok (.lcmp, 1)) (k : V X z w h (pc + 1) L (.int (lg_cmp x y) :: st)) : V X z w h pc L (.long y :: .long x :: st) := by
  rcases X with ⟨p, l, e, R, s, m, args, below, meth, c, G, B, Q⟩
  intro H locs ls hW hS hl
  exact W.lcmp C.1 C.2.1 hd (k H locs ls hW hS hl)
theorem v_dup (C : Cx X μ tab d zR o P) {v : Value} (hd : decode μ.2.1 pc = .ok (.dup, 1)) (hv : v.category = 1) (k : V X z w h (pc + 1) L (v :: v :: st)) : V X z w h pc L (v :: st) := by
  rcases X with ⟨p, l, e, R, s, m, args, below, meth, c, G, B, Q⟩
  intro H locs ls hW hS hl
  exact lv_dup C.1 C.2.1 hd ((cv_cat _ _).trans hv) (k H locs ls hW hS hl)
theorem v_dup2 (C : Cx X μ tab d zR o P) {u v : Value} (hd : decode μ.2.1 pc = .ok (.dup2, 1)) (hu : u.category = 1) (hv : v.category = 1) (k : V X z w h (pc + 1) L (u :: v :: u :: v :: st)) : V X z w h pc L (u :: v :: st) := by
  rcases X with ⟨p, l, e, R, s, m, args, below, meth, c, G, B, Q⟩
  intro H locs ls hW hS hl
  exact lv_dup2_11 C.1 C.2.1 hd ((cv_cat _ _).trans hu) ((cv_cat _ _).trans hv) (k H locs ls hW hS hl)
theorem v_pop (C : Cx X μ tab d zR o P) {v : Value} (hd : decode μ.2.1 pc = .ok (.pop, 1)) (hv : v.category = 1) (k : V X z w h (pc + 1) L st) : V X z w h pc L (v :: st) := by
  rcases X with ⟨p, l, e, R, s, m, args, below, meth, c, G, B, Q⟩
  intro H locs ls hW hS hl
  exact lv_pop C.1 C.2.1 hd ((cv_cat _ _).trans hv) (k H locs ls hW hS hl)
theorem v_goto (C : Cx X μ tab d zR o P) {off : Int} {tgt : Nat} (hd : decode μ.2.1 pc = .ok (.goto off, 3)) (ht : (pc : Int) + off = (tgt : Int)) (k : V X z w h tgt L st) : V X z w h pc L st := by
  rcases X with ⟨p, l, e, R, s, m, args, below, meth, c, G, B, Q⟩
  intro H locs ls hW hS hl
  exact lv_goto C.1 C.2.1 hd ht (k H locs ls hW hS hl)
theorem v_ldc2 (C : Cx X μ tab d zR o P) {ix : Nat} {v : Int64} (hc : Cond.constantLong μ.1.cls ix v ∈ TSg) (hd : decode μ.2.1 pc = .ok (.ldc2_w ix, 3)) (k : V X z w h (pc + 3) L (.long v :: st)) : V X z w h pc L st := by
  rcases X with ⟨p, l, e, R, s, m, args, below, meth, c, G, B, Q⟩
  intro H locs ls hW hS hl
  exact lv_ldc2 C.1 C.2.1 C.2.2.2.1 (C.2.2.2.2.1 _ hc) hd (k H locs ls hW hS hl)
theorem v_if_eq (C : Cx X μ tab d zR o P) {x : Int32} {off : Int} {tgt : Nat} (hd : decode μ.2.1 pc = .ok (.ifCond .eq off, 3)) (ht : (pc : Int) + off = (tgt : Int)) (kt : x = 0 → V X z w h tgt L st) (kf : ¬ (x = 0) → V X z w h (pc + 3) L st) : V X z w h pc L (.int x :: st) := by
  rcases X with ⟨p, l, e, R, s, m, args, below, meth, c, G, B, Q⟩
  intro H locs ls hW hS hl
  exact lv_if_eq C.1 C.2.1 hd ht (fun q => kt q H locs ls hW hS hl) (fun q => kf q H locs ls hW hS hl)
theorem v_icmp_eq (C : Cx X μ tab d zR o P) {x y : Int32} {off : Int} {tgt : Nat} (hd : decode μ.2.1 pc = .ok (.if_icmp .eq off, 3)) (ht : (pc : Int) + off = (tgt : Int)) (kt : x = y → V X z w h tgt L st) (kf : ¬ (x = y) → V X z w h (pc + 3) L st) : V X z w h pc L (.int y :: .int x :: st) := by
  rcases X with ⟨p, l, e, R, s, m, args, below, meth, c, G, B, Q⟩
  intro H locs ls hW hS hl
  exact lv_icmp_eq C.1 C.2.1 hd ht (fun q => kt q H locs ls hW hS hl) (fun q => kf q H locs ls hW hS hl)
theorem v_if_ne (C : Cx X μ tab d zR o P) {x : Int32} {off : Int} {tgt : Nat} (hd : decode μ.2.1 pc = .ok (.ifCond .ne off, 3)) (ht : (pc : Int) + off = (tgt : Int)) (kt : ¬ x = 0 → V X z w h tgt L st) (kf : x = 0 → V X z w h (pc + 3) L st) : V X z w h pc L (.int x :: st) := by
  rcases X with ⟨p, l, e, R, s, m, args, below, meth, c, G, B, Q⟩
  intro H locs ls hW hS hl
  exact lv_if_ne C.1 C.2.1 hd ht (fun q => kt q H locs ls hW hS hl) (fun q => kf q H locs ls hW hS hl)
theorem v_icmp_ne (C : Cx X μ tab d zR o P) {x y : Int32} {off : Int} {tgt : Nat} (hd : decode μ.2.1 pc = .ok (.if_icmp .ne off, 3)) (ht : (pc : Int) + off = (tgt : Int)) (kt : ¬ x = y → V X z w h tgt L st) (kf : x = y → V X z w h (pc + 3) L st) : V X z w h pc L (.int y :: .int x :: st) := by
  rcases X with ⟨p, l, e, R, s, m, args, below, meth, c, G, B, Q⟩
  intro H locs ls hW hS hl
  exact lv_icmp_ne C.1 C.2.1 hd ht (fun q => kt q H locs ls hW hS hl) (fun q => kf q H locs ls hW hS hl)
theorem v_if_lt (C : Cx X μ tab d zR o P) {x : Int32} {off : Int} {tgt : Nat} (hd : decode μ.2.1 pc = .ok (.ifCond .lt off, 3)) (ht : (pc : Int) + off = (tgt : Int)) (kt : x < 0 → V X z w h tgt L st) (kf : ¬ (x < 0) → V X z w h (pc + 3) L st) : V X z w h pc L (.int x :: st) := by
  rcases X with ⟨p, l, e, R, s, m, args, below, meth, c, G, B, Q⟩
  intro H locs ls hW hS hl
  exact lv_if_lt C.1 C.2.1 hd ht (fun q => kt q H locs ls hW hS hl) (fun q => kf q H locs ls hW hS hl)
theorem v_icmp_lt (C : Cx X μ tab d zR o P) {x y : Int32} {off : Int} {tgt : Nat} (hd : decode μ.2.1 pc = .ok (.if_icmp .lt off, 3)) (ht : (pc : Int) + off = (tgt : Int)) (kt : x < y → V X z w h tgt L st) (kf : ¬ (x < y) → V X z w h (pc + 3) L st) : V X z w h pc L (.int y :: .int x :: st) := by
  rcases X with ⟨p, l, e, R, s, m, args, below, meth, c, G, B, Q⟩
  intro H locs ls hW hS hl
  exact lv_icmp_lt C.1 C.2.1 hd ht (fun q => kt q H locs ls hW hS hl) (fun q => kf q H locs ls hW hS hl)
theorem v_if_ge (C : Cx X μ tab d zR o P) {x : Int32} {off : Int} {tgt : Nat} (hd : decode μ.2.1 pc = .ok (.ifCond .ge off, 3)) (ht : (pc : Int) + off = (tgt : Int)) (kt : 0 ≤ x → V X z w h tgt L st) (kf : ¬ (0 ≤ x) → V X z w h (pc + 3) L st) : V X z w h pc L (.int x :: st) := by
  rcases X with ⟨p, l, e, R, s, m, args, below, meth, c, G, B, Q⟩
  intro H locs ls hW hS hl
  exact lv_if_ge C.1 C.2.1 hd ht (fun q => kt q H locs ls hW hS hl) (fun q => kf q H locs ls hW hS hl)
theorem v_icmp_ge (C : Cx X μ tab d zR o P) {x y : Int32} {off : Int} {tgt : Nat} (hd : decode μ.2.1 pc = .ok (.if_icmp .ge off, 3)) (ht : (pc : Int) + off = (tgt : Int)) (kt : y ≤ x → V X z w h tgt L st) (kf : ¬ (y ≤ x) → V X z w h (pc + 3) L st) : V X z w h pc L (.int y :: .int x :: st) := by
  rcases X with ⟨p, l, e, R, s, m, args, below, meth, c, G, B, Q⟩
  intro H locs ls hW hS hl
  exact lv_icmp_ge C.1 C.2.1 hd ht (fun q => kt q H locs ls hW hS hl) (fun q => kf q H locs ls hW hS hl)
theorem v_if_gt (C : Cx X μ tab d zR o P) {x : Int32} {off : Int} {tgt : Nat} (hd : decode μ.2.1 pc = .ok (.ifCond .gt off, 3)) (ht : (pc : Int) + off = (tgt : Int)) (kt : 0 < x → V X z w h tgt L st) (kf : ¬ (0 < x) → V X z w h (pc + 3) L st) : V X z w h pc L (.int x :: st) := by
  rcases X with ⟨p, l, e, R, s, m, args, below, meth, c, G, B, Q⟩
  intro H locs ls hW hS hl
  exact lv_if_gt C.1 C.2.1 hd ht (fun q => kt q H locs ls hW hS hl) (fun q => kf q H locs ls hW hS hl)
theorem v_icmp_gt (C : Cx X μ tab d zR o P) {x y : Int32} {off : Int} {tgt : Nat} (hd : decode μ.2.1 pc = .ok (.if_icmp .gt off, 3)) (ht : (pc : Int) + off = (tgt : Int)) (kt : y < x → V X z w h tgt L st) (kf : ¬ (y < x) → V X z w h (pc + 3) L st) : V X z w h pc L (.int y :: .int x :: st) := by
  rcases X with ⟨p, l, e, R, s, m, args, below, meth, c, G, B, Q⟩
  intro H locs ls hW hS hl
  exact lv_icmp_gt C.1 C.2.1 hd ht (fun q => kt q H locs ls hW hS hl) (fun q => kf q H locs ls hW hS hl)
theorem v_if_le (C : Cx X μ tab d zR o P) {x : Int32} {off : Int} {tgt : Nat} (hd : decode μ.2.1 pc = .ok (.ifCond .le off, 3)) (ht : (pc : Int) + off = (tgt : Int)) (kt : x ≤ 0 → V X z w h tgt L st) (kf : ¬ (x ≤ 0) → V X z w h (pc + 3) L st) : V X z w h pc L (.int x :: st) := by
  rcases X with ⟨p, l, e, R, s, m, args, below, meth, c, G, B, Q⟩
  intro H locs ls hW hS hl
  exact lv_if_le C.1 C.2.1 hd ht (fun q => kt q H locs ls hW hS hl) (fun q => kf q H locs ls hW hS hl)
theorem v_icmp_le (C : Cx X μ tab d zR o P) {x y : Int32} {off : Int} {tgt : Nat} (hd : decode μ.2.1 pc = .ok (.if_icmp .le off, 3)) (ht : (pc : Int) + off = (tgt : Int)) (kt : x ≤ y → V X z w h tgt L st) (kf : ¬ (x ≤ y) → V X z w h (pc + 3) L st) : V X z w h pc L (.int y :: .int x :: st) := by
  rcases X with ⟨p, l, e, R, s, m, args, below, meth, c, G, B, Q⟩
  intro H locs ls hW hS hl
  exact lv_icmp_le C.1 C.2.1 hd ht (fun q => kt q H locs ls hW hS hl) (fun q => kf q H locs ls hW hS hl)
theorem v_tableOut (C : Cx X μ tab d zR o P) {dflt lo hi : Int} {offs : Array Int} {len : Nat} {x : Int32} {tgt : Nat} (hd : decode μ.2.1 pc = .ok (.tableswitch dflt lo hi offs, len)) (hx : x.toInt < lo ∨ hi < x.toInt) (ht : (pc : Int) + dflt = (tgt : Int)) (k : V X z w h tgt L st) : V X z w h pc L (.int x :: st) := by
  rcases X with ⟨p, l, e, R, s, m, args, below, meth, c, G, B, Q⟩
  intro H locs ls hW hS hl
  exact lv_tableOut C.1 C.2.1 hd hx ht (k H locs ls hW hS hl)
theorem v_tableIn (C : Cx X μ tab d zR o P) {dflt lo hi : Int} {offs : Array Int} {len : Nat} {x : Int32} {off : Int} {tgt : Nat} (hd : decode μ.2.1 pc = .ok (.tableswitch dflt lo hi offs, len)) (h1 : ¬ x.toInt < lo) (h2 : ¬ hi < x.toInt) (ho : offs[(x.toInt - lo).toNat]? = some off) (ht : (pc : Int) + off = (tgt : Int)) (k : V X z w h tgt L st) : V X z w h pc L (.int x :: st) := by
  rcases X with ⟨p, l, e, R, s, m, args, below, meth, c, G, B, Q⟩
  intro H locs ls hW hS hl
  exact lv_tableIn C.1 C.2.1 hd h1 h2 ho ht (k H locs ls hW hS hl)
theorem v_lookup (C : Cx X μ tab d zR o P) {dflt : Int} {ps : Array (Int × Int)} {len : Nat} {x : Int32} {off : Int} {tgt : Nat} (hd : decode μ.2.1 pc = .ok (.lookupswitch dflt ps, len)) (hp : (ps.toList.zip (ps.toList.drop 1)).all (fun (a, next) => a.1 < next.1) = true) (ho : Op.lookupswitch.offset ps.toList dflt x.toInt = off) (ht : (pc : Int) + off = (tgt : Int)) (k : V X z w h tgt L st) : V X z w h pc L (.int x :: st) := by
  rcases X with ⟨p, l, e, R, s, m, args, below, meth, c, G, B, Q⟩
  intro H locs ls hW hS hl
  exact lv_lookup C.1 C.2.1 hd hp ho ht (k H locs ls hW hS hl)
end VR
end
section
/-! ===== the rules of V: fields and arrays ===== -/
def tyC : Nat → Nat → FieldType
  | 0 => tyX0
  | 1 => tyX1
  | 2 => tyX2
  | 3 => tyX3
  | 4 => tyX4
  | 5 => tyX5
  | 6 => tyX6
  | 7 => tyX7
  | 8 => tyX8
  | _ => tyX9
theorem inX0 : ∀ w ∈ u_ws RX0 TX0 10, w ∈ TSg := by decide +kernel
theorem inX1 : ∀ w ∈ u_ws RX1 TX1 4, w ∈ TSg := by decide +kernel
theorem inX2 : ∀ w ∈ u_ws RX2 TX2 4, w ∈ TSg := by decide +kernel
theorem inX3 : ∀ w ∈ u_ws RX3 TX3 1, w ∈ TSg := by decide +kernel
theorem inX4 : ∀ w ∈ u_ws RX4 TX4 5, w ∈ TSg := by decide +kernel
theorem inX5 : ∀ w ∈ u_ws RX5 TX5 2, w ∈ TSg := by decide +kernel
theorem inX6 : ∀ w ∈ u_ws RX6 TX6 9, w ∈ TSg := by decide +kernel
theorem inX7 : ∀ w ∈ u_ws RX7 TX7 9, w ∈ TSg := by decide +kernel
theorem inX8 : ∀ w ∈ u_ws RX8 TX8 13, w ∈ TSg := by decide +kernel
theorem inX9 : ∀ w ∈ u_ws RX9 TX9 42, w ∈ TSg := by decide +kernel
theorem inC : ∀ (ci : Nat) (C : String) (T : u_T) (N : Nat), cls10[ci]? = some (C, T, N) → (∀ w ∈ u_ws C T N, w ∈ TSg) ∧ (∀ k, k < N → parseFieldDescriptor (T k).2.2.1 = some (tyC ci k)) ∧ (∀ a, a < N → ∀ b, b < N → a ≠ b → (T a).2.1 ≠ (T b).2.1)
  | 0, _, _, _, h => by cases h; exact ⟨inX0, tyX0_ok, nmX0⟩
  | 1, _, _, _, h => by cases h; exact ⟨inX1, tyX1_ok, nmX1⟩
  | 2, _, _, _, h => by cases h; exact ⟨inX2, tyX2_ok, nmX2⟩
  | 3, _, _, _, h => by cases h; exact ⟨inX3, tyX3_ok, nmX3⟩
  | 4, _, _, _, h => by cases h; exact ⟨inX4, tyX4_ok, nmX4⟩
  | 5, _, _, _, h => by cases h; exact ⟨inX5, tyX5_ok, nmX5⟩
  | 6, _, _, _, h => by cases h; exact ⟨inX6, tyX6_ok, nmX6⟩
  | 7, _, _, _, h => by cases h; exact ⟨inX7, tyX7_ok, nmX7⟩
  | 8, _, _, _, h => by cases h; exact ⟨inX8, tyX8_ok, nmX8⟩
  | 9, _, _, _, h => by cases h; exact ⟨inX9, tyX9_ok, nmX9⟩
  | n + 10, _, _, _, h => by simp at h
/-- the constant ix of the class own names the field k of the class ci -/
def FLk (own : String) (ix ci k : Nat) : Prop := ∃ C T N, cls10[ci]? = some (C, T, N) ∧ k < N ∧ Cond.fieldLink own ix (T k).1 (T k).2.1 (T k).2.2.1 ∈ TSg
/-- .. and it is an int's, not final -/
def FPt (ci k : Nat) (ty : FieldType) (fin : Bool) : Prop := ∃ C T N, cls10[ci]? = some (C, T, N) ∧ parseFieldDescriptor (T k).2.2.1 = some ty ∧ (T k).2.2.2 = fin
theorem ob_nj {ci : Nat} {fs : List Value} {C : vw_C} (hc : cls10[ci]? = some C) : (ob ci fs) ≠ junk := by
  intro e
  have e2 : (Sum.inr (ci, fs) : PE) = Sum.inr (1000, []) := e
  cases e2
  simp at hc
theorem ar_nj {x : Nat × vp_A} : (Sum.inl x : PE) ≠ junk := fun e => by
  have e2 : (Sum.inl x : PE) = Sum.inr (1000, []) := e
  cases e2
section VH
variable {X : CT} {μ : Mi} {tab : List ExceptionTableEntry} {d : Nat} {zR : Nat × Nat} {o : Oc} {P : Wt → Hp → Prop} {z : Nat × Nat} {w : Wt} {h : Hp} {pc : Nat} {L : List (Option Value)} {st : List Value}
theorem v_getf (C : Cx X μ tab d zR o P) {ix ci kf q : Nat} {fs : List Value} {v : Value} (hd : decode μ.2.1 pc = .ok (.getfield ix, 3)) (hF : FLk μ.1.cls ix ci kf) (hh : h q = .inr (ci, fs)) (hv : fs[kf]? = some v) (k : V X z w h (pc + 3) L (v :: st)) : V X z w h pc L (.ref q :: st) := by
  rcases X with ⟨p, l, e, R, s, m, args, below, meth, c, G, B, Q⟩
  intro H locs ls hW hS hl
  obtain ⟨C1, T, N, hc, hk, hm⟩ := hF
  have hq : q < w.2 := hW.lt (by rw [hh]; exact ob_nj hc)
  have he : (wl G w h)[q]? = some (w.1 q, .inr (ci, fs.map (cv w.1))) := by rw [wl_get G w h hq, hh]; rfl
  exact va_get (ref := (T kf).1) C.1 C.2.1 C.2.2.2.2.1 (inC ci C1 T N hc).1 C.2.2.2.1 C.2.2.2.2.2.2.2.1 hW.1 q he hc kf hk (C.2.2.2.2.1 _ hm) (fun x hx => hx) (by rw [List.getElem?_map, hv]; rfl) hd (k H locs ls hW hS hl)
theorem v_putf (C : Cx X μ tab d zR o P) {ix ci kf q : Nat} {fs : List Value} {v : Value} {ty : FieldType} (hd : decode μ.2.1 pc = .ok (.putfield ix, 3)) (hF : FLk μ.1.cls ix ci kf) (hT : FPt ci kf ty false) (hh : h q = .inr (ci, fs)) (hn : ∀ ad, narrow ty (cv ad v) = cv ad v) (hf : ∀ ad, fits ty (cv ad v) = true) (hok : ∀ N, okv N v) (hl : kf < fs.length) (k : V X z w (hu h q (.inr (ci, fs.set kf v))) (pc + 3) L st) : V X z w h pc L (v :: .ref q :: st) := by
  rcases X with ⟨p, l, e, R, s, m, args, below, meth, c, G, B, Q⟩
  intro H locs ls hW hS hL
  obtain ⟨C1, T, N, hc, hk, hm⟩ := hF
  obtain ⟨C2, T2, N2, hc2, hp, hfin⟩ := hT
  cases hc.symm.trans hc2
  have hq : q < w.2 := hW.lt (by rw [hh]; exact ob_nj hc)
  have he : (wl G w h)[q]? = some (w.1 q, .inr (ci, fs.map (cv w.1))) := by rw [wl_get G w h hq, hh]; rfl
  refine va_put (ref := (T kf).1) C.1 C.2.1 C.2.2.2.2.1 (inC ci C1 T N hc).1 (tyC ci) (inC ci C1 T N hc).2.1 (inC ci C1 T N hc).2.2 C.2.2.2.1 C.2.2.2.2.2.2.2.1 hW.1 hW.2.1 hS q he hc kf hk (C.2.2.2.2.1 _ hm) (fun x hx => hx) hfin hp (hn _) (hf _) (by rw [List.length_map]; exact hl) hd (fun H1 locs1 hP1 hD1 hS1 => k H1 locs1 ls (hW.set hq (c := .inr (ci, fs.set kf v)) ?_ ?_ hP1 hD1) hS1 hL)
  · show (Sum.inr (ci, (fs.set kf v).map (cv w.1)) : va_E) = _
    rw [List.map_set]
  · intro v' hv'
    have hcl := hW.2.2.2 q hq
    rw [hh] at hcl
    rcases List.mem_or_eq_of_mem_set hv' with h1 | h1
    · exact hcl v' h1
    · rw [h1]; exact hok _
theorem v_putI (C : Cx X μ tab d zR o P) {ix ci kf q : Nat} {fs : List Value} {x : Int32} (hd : decode μ.2.1 pc = .ok (.putfield ix, 3)) (hF : FLk μ.1.cls ix ci kf) (hT : FPt ci kf .int false) (hh : h q = .inr (ci, fs)) (hl : Nat.blt kf fs.length = true) (k : V X z w (hu h q (.inr (ci, fs.set kf (.int x)))) (pc + 3) L st) : V X z w h pc L (.int x :: .ref q :: st) :=
  v_putf C hd hF hT hh (fun _ => rfl) (fun _ => rfl) (fun _ => trivial) (by simpa using hl) k
def bI (b : Bool) : Int32 := if b then 1 else 0
theorem v_putZ (C : Cx X μ tab d zR o P) {ix ci kf q : Nat} {fs : List Value} {b : Bool} (hd : decode μ.2.1 pc = .ok (.putfield ix, 3)) (hF : FLk μ.1.cls ix ci kf) (hT : FPt ci kf .boolean false) (hh : h q = .inr (ci, fs)) (hl : Nat.blt kf fs.length = true) (k : V X z w (hu h q (.inr (ci, fs.set kf (.int (bI b))))) (pc + 3) L st) : V X z w h pc L (.int (bI b) :: .ref q :: st) :=
  v_putf C hd hF hT hh (fun _ => by cases b <;> rfl) (fun _ => by cases b <;> rfl) (fun _ => trivial) (by simpa using hl) k
theorem v_iald (C : Cx X μ tab d zR o P) {q n j : Nat} {f : Nat → Int32} {i v : Int32} (hd : decode μ.2.1 pc = .ok (.iaload, 1)) (hh : h q = io n f) (hn : n < 2 ^ 31) (hi : i = nI j) (hj : j < n) (hv : f j = v) (k : V X z w h (pc + 1) L (.int v :: st)) : V X z w h pc L (.int i :: .ref q :: st) := by
  rcases X with ⟨p, l, e, R, s, m, args, below, meth, c, G, B, Q⟩
  intro H locs ls hW hS hl
  have hq : q < w.2 := hW.lt (by rw [hh]; exact ar_nj)
  have he : (wl G w h)[q]? = some (w.1 q, .inl (G.2 0, n, .inl f)) := by rw [wl_get G w h hq, hh]; rfl
  subst hi
  refine va_iald C.1 C.2.1 C.2.2.2.2.2.2.2.1 hW.1 q 0 he rfl (vp_in_nI hj hn) hd ?_
  rw [nI_clamp (by omega), hv]
  exact k H locs ls hW hS hl
theorem v_iast (C : Cx X μ tab d zR o P) {q n j : Nat} {f : Nat → Int32} {i x : Int32} (hd : decode μ.2.1 pc = .ok (.iastore, 1)) (hh : h q = io n f) (hn : n < 2 ^ 31) (hi : i = nI j) (hj : j < n) (k : V X z w (hu h q (io n (upd f j x))) (pc + 1) L st) : V X z w h pc L (.int x :: .int i :: .ref q :: st) := by
  rcases X with ⟨p, l, e, R, s, m, args, below, meth, c, G, B, Q⟩
  intro H locs ls hW hS hl
  have hq : q < w.2 := hW.lt (by rw [hh]; exact ar_nj)
  have he : (wl G w h)[q]? = some (w.1 q, .inl (G.2 0, n, .inl f)) := by rw [wl_get G w h hq, hh]; rfl
  subst hi
  refine va_iast C.1 C.2.1 C.2.2.2.2.2.2.2.1 hW.1 hW.2.1 hS q 0 he rfl (vp_in_nI hj hn) hd (fun H1 locs1 hP1 hD1 hS1 => ?_)
  rw [nI_clamp (by omega)] at hP1 hD1
  exact k H1 locs1 ls (hW.set hq (c := io n (upd f j x)) rfl trivial hP1 hD1) hS1 hl
theorem v_lald (C : Cx X μ tab d zR o P) {q n j : Nat} {f : Nat → Int64} {i : Int32} {v : Int64} (hd : decode μ.2.1 pc = .ok (.laload, 1)) (hh : h q = jo n f) (hn : n < 2 ^ 31) (hi : i = nI j) (hj : j < n) (hv : f j = v) (k : V X z w h (pc + 1) L (.long v :: st)) : V X z w h pc L (.int i :: .ref q :: st) := by
  rcases X with ⟨p, l, e, R, s, m, args, below, meth, c, G, B, Q⟩
  intro H locs ls hW hS hl
  have hq : q < w.2 := hW.lt (by rw [hh]; exact ar_nj)
  have he : (wl G w h)[q]? = some (w.1 q, .inl (G.2 2, n, .inr (.inl f))) := by rw [wl_get G w h hq, hh]; rfl
  subst hi
  refine va_lald C.1 C.2.1 C.2.2.2.2.2.2.2.1 hW.1 q 2 he rfl (vp_in_nI hj hn) hd ?_
  rw [nI_clamp (by omega), hv]
  exact k H locs ls hW hS hl
theorem v_last (C : Cx X μ tab d zR o P) {q n j : Nat} {f : Nat → Int64} {i : Int32} {x : Int64} (hd : decode μ.2.1 pc = .ok (.lastore, 1)) (hh : h q = jo n f) (hn : n < 2 ^ 31) (hi : i = nI j) (hj : j < n) (k : V X z w (hu h q (jo n (vp_updL f j x))) (pc + 1) L st) : V X z w h pc L (.long x :: .int i :: .ref q :: st) := by
  rcases X with ⟨p, l, e, R, s, m, args, below, meth, c, G, B, Q⟩
  intro H locs ls hW hS hl
  have hq : q < w.2 := hW.lt (by rw [hh]; exact ar_nj)
  have he : (wl G w h)[q]? = some (w.1 q, .inl (G.2 2, n, .inr (.inl f))) := by rw [wl_get G w h hq, hh]; rfl
  subst hi
  refine va_last C.1 C.2.1 C.2.2.2.2.2.2.2.1 hW.1 hW.2.1 hS q 2 he rfl (vp_in_nI hj hn) hd (fun H1 locs1 hP1 hD1 hS1 => ?_)
  rw [nI_clamp (by omega)] at hP1 hD1
  exact k H1 locs1 ls (hW.set hq (c := jo n (vp_updL f j x)) rfl trivial hP1 hD1) hS1 hl
theorem v_zald (C : Cx X μ tab d zR o P) {q n j : Nat} {f : Nat → Int32} {i v : Int32} (hd : decode μ.2.1 pc = .ok (.baload, 1)) (hh : h q = zo n f) (hn : n < 2 ^ 31) (hi : i = nI j) (hj : j < n) (hv : f j = v) (k : V X z w h (pc + 1) L (.int v :: st)) : V X z w h pc L (.int i :: .ref q :: st) := by
  rcases X with ⟨p, l, e, R, s, m, args, below, meth, c, G, B, Q⟩
  intro H locs ls hW hS hl
  have hq : q < w.2 := hW.lt (by rw [hh]; exact ar_nj)
  have he : (wl G w h)[q]? = some (w.1 q, .inl (G.2 1, n, .inl f)) := by rw [wl_get G w h hq, hh]; rfl
  subst hi
  refine va_zald C.1 C.2.1 C.2.2.2.2.2.2.2.1 hW.1 q 1 he rfl (vp_in_nI hj hn) hd ?_
  rw [nI_clamp (by omega), hv]
  exact k H locs ls hW hS hl
theorem nar_bI (b : Bool) : vp_nar .boolean (bI b) = bI b := by cases b <;> rfl
theorem v_zast (C : Cx X μ tab d zR o P) {q n j : Nat} {f : Nat → Int32} {i : Int32} {b : Bool} (hd : decode μ.2.1 pc = .ok (.bastore, 1)) (hh : h q = zo n f) (hn : n < 2 ^ 31) (hi : i = nI j) (hj : j < n) (k : V X z w (hu h q (zo n (upd f j (bI b)))) (pc + 1) L st) : V X z w h pc L (.int (bI b) :: .int i :: .ref q :: st) := by
  rcases X with ⟨p, l, e, R, s, m, args, below, meth, c, G, B, Q⟩
  intro H locs ls hW hS hl
  have hq : q < w.2 := hW.lt (by rw [hh]; exact ar_nj)
  have he : (wl G w h)[q]? = some (w.1 q, .inl (G.2 1, n, .inl f)) := by rw [wl_get G w h hq, hh]; rfl
  subst hi
  refine va_zast C.1 C.2.1 C.2.2.2.2.2.2.2.1 hW.1 hW.2.1 hS q 1 he rfl (vp_in_nI hj hn) hd (fun H1 locs1 hP1 hD1 hS1 => ?_)
  rw [nI_clamp (by omega), nar_bI] at hP1 hD1
  exact k H1 locs1 ls (hW.set hq (c := zo n (upd f j (bI b))) rfl trivial hP1 hD1) hS1 hl
theorem v_alen (C : Cx X μ tab d zR o P) {q t : Nat} {a : vp_A} (hd : decode μ.2.1 pc = .ok (.arraylength, 1)) (hh : h q = .inl (t, a)) (ht : Nat.blt t 4 = true) (k : V X z w h (pc + 1) L (.int (nI a.1) :: st)) : V X z w h pc L (.ref q :: st) := by
  rcases X with ⟨p, l, e, R, s, m, args, below, meth, c, G, B, Q⟩
  intro H locs ls hW hS hl
  have hq : q < w.2 := hW.lt (by rw [hh]; exact ar_nj)
  have he : (wl G w h)[q]? = some (w.1 q, .inl (G.2 t, cx w.1 a)) := by rw [wl_get G w h hq, hh]; rfl
  have ha : (cx w.1 a).1 = a.1 := by
    obtain ⟨n, f | f | f | f | f⟩ := a <;> rfl
  have ht' : ∃ ty, (tysD G)[t]? = some (G.2 t, ty) := by
    have : t < 4 := by simpa using ht
    rcases (by omega : t = 0 ∨ t = 1 ∨ t = 2 ∨ t = 3) with rfl | rfl | rfl | rfl <;> exact ⟨_, rfl⟩
  obtain ⟨ty, ht'⟩ := ht'
  exact va_alen C.1 C.2.1 C.2.2.2.2.2.2.2.1 hW.1 q t he ht' (by rw [ha]; rfl) hd (k H locs ls hW hS hl)
theorem v_aald (C : Cx X μ tab d zR o P) {q n j r : Nat} {f : Nat → Option Nat} {i : Int32} (hd : decode μ.2.1 pc = .ok (.aaload, 1)) (hh : h q = ao n f) (hn : n < 2 ^ 31) (hi : i = nI j) (hj : j < n) (hv : f j = some r) (k : V X z w h (pc + 1) L (.ref r :: st)) : V X z w h pc L (.int i :: .ref q :: st) := by
  rcases X with ⟨p, l, e, R, s, m, args, below, meth, c, G, B, Q⟩
  intro H locs ls hW hS hl
  have hq : q < w.2 := hW.lt (by rw [hh]; exact ar_nj)
  have he : (wl G w h)[q]? = some (w.1 q, .inl (G.2 3, n, .inr (.inr (.inr (.inr (fun j => (f j).map w.1)))))) := by rw [wl_get G w h hq, hh]; rfl
  subst hi
  have hlt : (nI j).toNatClampNeg < n := by rw [nI_clamp (by omega)]; exact hj
  exact W.aald (v := .ref (w.1 r)) (ty := .array .int) C.1 C.2.1 (hW.1 q _ he) ((C.2.2.2.2.2.2.2.1.2 3 _ rfl).1 n (fun j => va_rf ((f j).map w.1))) rfl (fun q => by cases q) (by show ¬ (nI j < 0 ∨ (arrV _ _ _).slots.size ≤ _); rw [arrV_size]; exact vp_in_nI hj hn) (by show (arrV _ _ _).slots[_]? = _; rw [arrV_read _ _ hlt, nI_clamp (by omega)]; dsimp only; rw [hv]; rfl) rfl rfl hd (k H locs ls hW hS hl)
end VH
end
section
/-! ===== the rules of V: ends, entries, calls, throws ===== -/
theorem entL_mem (ad : Nat → Nat) : ∀ (n : Nat) (vs : List Value) (k i : Nat) (v : Value), (entL n vs)[i]? = some (some v) → (∀ u ∈ vs, ∀ x, u ≠ .double x) → (k + i, cv ad v) ∈ lv_args k (vs.map (cv ad))
  | n, [], k, i, v, h, _ => by
    simp [entL] at h
    have := List.mem_of_getElem? h
    simp at this
  | 0, u :: vs, k, i, v, h, _ => by
    cases u <;> simp [entL] at h
  | 1, u :: vs, k, i, v, h, hd => by
    have e : entL 1 (u :: vs) = some u :: entL 0 vs := by cases u <;> rfl
    rw [e] at h
    cases i with
    | zero => simp at h; subst h; exact List.mem_cons_self
    | succ i =>
      cases vs with
      | nil => simp [entL] at h
      | cons a b => cases a <;> simp [entL] at h
  | n + 2, u :: vs, k, i, v, h, hd => by
    cases u with
    | double x => exact absurd rfl (hd _ List.mem_cons_self x)
    | long x =>
      simp only [entL] at h
      cases i with
      | zero => simp at h; subst h; exact List.mem_cons_self
      | succ i =>
        cases i with
        | zero => simp at h
        | succ i =>
          have := entL_mem ad n vs (k + 2) i v (by simpa using h) (fun u hu => hd u (List.mem_cons_of_mem _ hu))
          rw [show k + (i + 1 + 1) = k + 2 + i by omega]
          exact List.mem_cons_of_mem _ (by simpa [cv, Value.category] using this)
    | int x =>
      simp only [entL] at h
      cases i with
      | zero => simp at h; subst h; exact List.mem_cons_self
      | succ i =>
        have := entL_mem ad (n + 1) vs (k + 1) i v (by simpa using h) (fun u hu => hd u (List.mem_cons_of_mem _ hu))
        rw [show k + (i + 1) = k + 1 + i by omega]
        exact List.mem_cons_of_mem _ (by simpa [cv, Value.category] using this)
    | float x =>
      simp only [entL] at h
      cases i with
      | zero => simp at h; subst h; exact List.mem_cons_self
      | succ i =>
        have := entL_mem ad (n + 1) vs (k + 1) i v (by simpa using h) (fun u hu => hd u (List.mem_cons_of_mem _ hu))
        rw [show k + (i + 1) = k + 1 + i by omega]
        exact List.mem_cons_of_mem _ (by simpa [cv, Value.category] using this)
    | null =>
      simp only [entL] at h
      cases i with
      | zero => simp at h; subst h; exact List.mem_cons_self
      | succ i =>
        have := entL_mem ad (n + 1) vs (k + 1) i v (by simpa using h) (fun u hu => hd u (List.mem_cons_of_mem _ hu))
        rw [show k + (i + 1) = k + 1 + i by omega]
        exact List.mem_cons_of_mem _ (by simpa [cv, Value.category] using this)
    | ref x =>
      simp only [entL] at h
      cases i with
      | zero => simp at h; subst h; exact List.mem_cons_self
      | succ i =>
        have := entL_mem ad (n + 1) vs (k + 1) i v (by simpa using h) (fun u hu => hd u (List.mem_cons_of_mem _ hu))
        rw [show k + (i + 1) = k + 1 + i by omega]
        exact List.mem_cons_of_mem _ (by simpa [cv, Value.category] using this)
    | retAddr x =>
      simp only [entL] at h
      cases i with
      | zero => simp at h; subst h; exact List.mem_cons_self
      | succ i =>
        have := entL_mem ad (n + 1) vs (k + 1) i v (by simpa using h) (fun u hu => hd u (List.mem_cons_of_mem _ hu))
        rw [show k + (i + 1) = k + 1 + i by omega]
        exact List.mem_cons_of_mem _ (by simpa [cv, Value.category] using this)
/-- the arguments fit the locals -/
def ent_ok (n : Nat) (vs : List Value) : Prop := (∀ ad : Nat → Nat, Nat.ble (lg_sl (vs.map (cv ad))).length n = true) ∧ (entL n vs).length = n ∧ ∀ u ∈ vs, ∀ x, u ≠ .double x
theorem conI {μ : Mi} {d : Nat} {z : Nat × Nat} {w : Wt} {as : List Value} {h : Hp} {o : Oc} {P : Wt → Hp → Prop} (hy : plainName μ.1.cls = true) (he : ent_ok μ.2.2.1 as) (body : ∀ X, Cx X μ [] d z o P → V X (0, 0) w h 0 (entL μ.2.2.1 as) []) : Con μ d z w as h o P := by
  intro l G B hl0
  refine vx_ofW hy rfl ?_
  intro p e s m args below meth c s₁ B' hml htab hv
  obtain ⟨rfl, hWd, hK, hB, hSt, hEx⟩ := hv
  have hts := atoms_spec (ws := .code μ.1 μ.2.1 μ.2.2.1 μ.2.2.2.1 :: TSg) B'.pre
  have ht : c.exceptionTable.toList = [] := by
    cases hc : c.exceptionTable.toList with
    | nil => rfl
    | cons a b => exact absurd (htab a (by rw [hc]; exact List.mem_cons_self)) id
  have hC : Cx (p, l, e, (headSpec (.code μ.1 μ.2.1 μ.2.2.1 μ.2.2.2.1 :: TSg) (rmD d z)).room, s, m, (as.map (cv w.1)).toArray, below, meth, c, G, B, vx_MQ below (QcD G B o P) (XcD G B o P) (as.map (cv w.1)).toArray s z.1 z.2 (AB B)) μ [] d z o P :=
    ⟨B'.exec, B'.bytes, hml, findClass_of_methodNamed B'.named, fun w hw => hts w (List.mem_cons_of_mem _ hw), B'.notSynchronized, hl0, hK, hB, hSt, hEx, ⟨Nat.le_refl _, Nat.le_refl _, Nat.le_refl _, Nat.le_refl _⟩, ht, B'.returns, (name_of_methodNamed B'.named B'.method).1, rfl⟩
  have hV := body _ hC
  have hl := lv_entry (as.map (cv w.1)) (n := μ.2.2.1) (Nat.le_of_ble_eq_true (he.1 _))
  rw [lg_entry_eq]
  refine hV s.heap [] _ hWd va_S.rf ⟨hl.1.trans he.2.1.symm, hl.2.1, fun i v hi => ?_⟩
  have := hl.2.2 (0 + i, cv w.1 v) (entL_mem w.1 μ.2.2.1 as 0 i v hi he.2.2)
  simpa using this
section VC
variable {X : CT} {μ : Mi} {tab : List ExceptionTableEntry} {d : Nat} {zR : Nat × Nat} {o : Oc} {P : Wt → Hp → Prop} {z : Nat × Nat} {w : Wt} {h : Hp} {pc : Nat} {L : List (Option Value)} {st : List Value}
theorem v_iret (C : Cx X μ tab d zR o P) {x : Int32} (hd : decode μ.2.1 pc = .ok (.ireturn, 1)) (hr : μ.2.2.2.1 = some .int) (ho : o = .inl (some (.int x))) (hz : z.1 ≤ zR.1 ∧ z.2 ≤ zR.2) (hP : P w h) : V X z w h pc L [.int x] := by
  rcases X with ⟨p, l, e, R, s, m, args, below, meth, c, G, B, Q⟩
  intro H locs ls hW hS hl
  have hQ := C.2.2.2.2.2.2.2.2.2.2.2.2.2.2.2
  subst hQ
  exact W.widen hz.1 hz.2 (vx_ret (W.widen (Nat.le_refl _) (Nat.le_refl _) (W.iret C.1 C.2.1 (C.2.2.2.2.2.2.2.2.2.2.2.2.2.1.trans hr) (fun t ht hWm => ⟨⟨some (.int x), w, h, rfl, ho, hP, by rw [ht]; exact hW⟩, hS.F ht⟩) hS.2.2 hd C.2.2.2.2.2.1)))
theorem v_zret (C : Cx X μ tab d zR o P) {b : Bool} (hd : decode μ.2.1 pc = .ok (.ireturn, 1)) (hr : μ.2.2.2.1 = some .boolean) (ho : o = .inl (some (.int (bI b)))) (hz : z.1 ≤ zR.1 ∧ z.2 ≤ zR.2) (hP : P w h) : V X z w h pc L [.int (bI b)] := by
  rcases X with ⟨p, l, e, R, s, m, args, below, meth, c, G, B, Q⟩
  intro H locs ls hW hS hl
  have hQ := C.2.2.2.2.2.2.2.2.2.2.2.2.2.2.2
  subst hQ
  exact W.widen hz.1 hz.2 (vx_ret (W.zret C.1 C.2.1 (C.2.2.2.2.2.2.2.2.2.2.2.2.2.1.trans hr) (by cases b <;> rfl) (fun t ht hWm => ⟨⟨some (.int (bI b)), w, h, rfl, ho, hP, by rw [ht]; exact hW⟩, hS.F ht⟩) hS.2.2 hd C.2.2.2.2.2.1))
theorem v_lret (C : Cx X μ tab d zR o P) {x : Int64} (hd : decode μ.2.1 pc = .ok (.lreturn, 1)) (hr : μ.2.2.2.1 = some .long) (ho : o = .inl (some (.long x))) (hz : z.1 ≤ zR.1 ∧ z.2 ≤ zR.2) (hP : P w h) : V X z w h pc L [.long x] := by
  rcases X with ⟨p, l, e, R, s, m, args, below, meth, c, G, B, Q⟩
  intro H locs ls hW hS hl
  have hQ := C.2.2.2.2.2.2.2.2.2.2.2.2.2.2.2
  subst hQ
  exact W.widen hz.1 hz.2 (vx_ret (W.lret C.1 C.2.1 (C.2.2.2.2.2.2.2.2.2.2.2.2.2.1.trans hr) (fun t ht hWm => ⟨⟨some (.long x), w, h, rfl, ho, hP, by rw [ht]; exact hW⟩, hS.F ht⟩) hS.2.2 hd C.2.2.2.2.2.1))
theorem v_vret (C : Cx X μ tab d zR o P) (hd : decode μ.2.1 pc = .ok (.return_, 1)) (hr : μ.2.2.2.1 = none) (ho : o = .inl none) (hz : z.1 ≤ zR.1 ∧ z.2 ≤ zR.2) (hP : P w h) : V X z w h pc L [] := by
  rcases X with ⟨p, l, e, R, s, m, args, below, meth, c, G, B, Q⟩
  intro H locs ls hW hS hl
  have hQ := C.2.2.2.2.2.2.2.2.2.2.2.2.2.2.2
  subst hQ
  exact W.widen hz.1 hz.2 (vx_ret (W.vret C.1 C.2.1 (C.2.2.2.2.2.2.2.2.2.2.2.2.2.1.trans hr) (fun t ht hWm => ⟨⟨none, w, h, rfl, ho, hP, by rw [ht]; exact hW⟩, hS.F ht⟩) hS.2.2 hd C.2.2.2.2.2.1))
/-- the state behind a throw in this frame -/
def VT (X : CT) (z : Nat × Nat) (w : Wt) (h : Hp) (pc : Nat) (L : List (Option Value)) (st : List Value) (E : String) : Prop := match X with
  | (p, l, e, R, s, m, args, below, meth, c, G, B, Q) => ∀ (H : Heap) (locs : List Loc) (ls : Array Slot) (q : Addr) (ce : Cell), Wd G B w h H → va_S (AB B) s.heap H locs → Lc w.1 L ls → H[q]? = some ce → ce.vm = .none → s.vm.findClass E = some ce.cls → vx_W p l e R s m args below meth c H locs z.1 z.2 Q (F0 m pc ls (st.map (cv w.1))) q
/-- what a method must have to be called -/
def MK (μ : Mi) : Prop := Cond.code μ.1 μ.2.1 μ.2.2.1 μ.2.2.2.1 ∈ TSg ∧ Cond.initialized μ.1.cls ∈ TSg ∧ (μ.1.cls ≠ "java/lang/invoke/MethodHandle" ∧ μ.1.cls ≠ "java/lang/invoke/VarHandle") ∧ (parseMethodDescriptor μ.1.desc).map (fun d => d.parameters.length) = some μ.2.2.2.2 ∧ μ.2.2.1 ≤ 60
def MKv (μ : Mi) (ci : Nat) : Prop := Cond.instanceMethod μ.1 ∈ TSg ∧ Cond.selects μ.1.cls μ.1 μ.1 ∈ TSg ∧ ∃ T N, cls10[ci]? = some (μ.1.cls, T, N)
theorem preD_of {p : Program} {l : Launch} {e : Env} {R : Room} {s : State} {m : MethodId} {args : Array Value} {below : List Frame} {meth : Method} {c : Code} {G : GG} {B : Nat} {Q : State → Prop} (C : Cx (p, l, e, R, s, m, args, below, meth, c, G, B, Q) μ tab d zR o P) {H : Heap} {locs : List Loc} (hW : Wd G B w h H) (hS : va_S (AB B) s.heap H locs) {U : State} (hU : U.heap = H) (hWm : s.WarmedH U.vm) : PreD G B w h U := by
  obtain ⟨-, -, -, -, -, -, -, hK, hB, hSt, hEx, -⟩ := C
  refine ⟨by rw [hU]; exact hW, hK.moved hWm.alike, by rw [hU]; exact Nat.le_trans hB hS.1, ?_, hEx.warm hWm⟩
  rw [hU]
  exact ⟨vx_Zq.moved hWm.alike (hSt.1.kept hS.2.1), vx_Zq.moved hWm.alike (hSt.2.kept hS.2.1)⟩
theorem blindD (G : GG) (B : Nat) (as : List Value) (w : Wt) (h : Hp) : FrameBlind (va_Pc as (PreD G B w h)) := fun a U g mk q => by
  obtain ⟨q0, q1, q2, q3, q4, q5⟩ := q
  exact ⟨q0, q1, va_K.moved (u := U) (U := U.calling g mk a) (Vm.Alike.refl U.vm) q2, q3, ⟨vx_Zq.moved (u := U) (U := U.calling g mk a) (Vm.Alike.refl U.vm) q4.1, vx_Zq.moved (u := U) (U := U.calling g mk a) (Vm.Alike.refl U.vm) q4.2⟩, ExD.warm (s := U) (U := U.calling g mk a) (State.WarmedH.refl U) q5⟩
theorem tsg_code (μ' : Mi) (hM : MK μ') : GoodIn TSg (.code μ'.1 μ'.2.1 μ'.2.2.1 μ'.2.2.2.1 :: TSg) := tsg_in (fun _ h => h) (fun w hw => by
  rcases List.mem_cons.mp hw with h1 | h1
  · rw [h1]; exact hM.1
  · exact h1)
/-- behind a run of a callee -/
theorem v_after {p : Program} {l : Launch} {e : Env} {R : Room} {s : State} {m : MethodId} {args : Array Value} {below : List Frame} {meth : Method} {c : Code} {G : GG} {B : Nat} {Q : State → Prop} {H : Heap} {locs : List Loc} {ls : Array Slot} {z' : Nat × Nat} {as : Array Value} {o' : Oc} {P' : Hp → Prop} {g0 : List Value} (hS : va_S (AB B) s.heap H locs) (hl : Lc w.1 L ls)
    (hr : vx_Run p l e R s m args below meth c H locs z.1 z.2 z'.1 z'.2 (F0 m pc ls g0) (st.map (cv w.1)) (QcD G B o' (fun w' h' => w' = w ∧ P' h') as) (XcD G B o' (fun w' h' => w' = w ∧ P' h')) (AB B))
    (kr : ∀ v h', o' = .inl v → P' h' → (∀ ad : Nat → Nat, v.toList.map (cv ad) = v.toList) ∧ V (p, l, e, R, s, m, args, below, meth, c, G, B, Q) (z.1 + z'.1, z.2 + z'.2) w h' (pc + 3) L (v.toList ++ st)) (kt : ∀ E h', o' = .inr E → P' h' → VT (p, l, e, R, s, m, args, below, meth, c, G, B, Q) (z.1 + z'.1, z.2 + z'.2) w h' pc L st E) : W p l e R s m args below meth c H locs z.1 z.2 Q (F0 m pc ls g0) := by
  intro T hT Xs
  rcases hr T hT Xs with ⟨v, st₀, t, T', L1, h0, X', hL, e1, e2, ⟨⟨v', w', h', hv, ho, ⟨rfl, hP⟩, hWd⟩, hF⟩, stp⟩ | ⟨q, st₀, t, T', L1, E, ce, h0, X', hL, e1, e2, ⟨⟨w', h', ho, ⟨rfl, hP⟩, hWd⟩, hF⟩, hce, hcv, hcl, stp⟩
  · cases hv
    obtain ⟨k1, k2, k3⟩ := vx_keep h0 e1 hS (fun q _ h => h) (fun q h => h) hL hF
    obtain ⟨hn, hV⟩ := kr v h' ho hP
    have hV2 := hV T'.heap (locs ++ L1) ls (by rw [e1]; exact hWd) k3 hl
    rw [List.map_append, hn] at hV2
    obtain ⟨t2, a1, b1⟩ := hV2 T' rfl X'
    exact ⟨t2, stp t2 a1, b1⟩
  · obtain ⟨k1, k2, k3⟩ := vx_keep h0 e1 hS (fun q _ h => h) (fun q h => h) hL hF
    obtain ⟨t2, a1, b1⟩ := kt E h' ho hP T'.heap (locs ++ L1) ls q ce (by rw [e1]; exact hWd) k3 hl (by rw [e1]; exact hce) hcv hcl T' rfl X'
    exact ⟨t2, stp.trans a1, b1⟩
theorem cv_sum (ad : Nat → Nat) (st : List Value) : ((st.map (cv ad)).map fun v => v.category).sum = (st.map fun v => v.category).sum := by
  rw [List.map_map]
  congr 1
  refine List.map_congr_left fun v _ => cv_cat ad v
/-- a normal contract: the addresses stay -/
abbrev ConN (μ : Mi) (d : Nat) (z : Nat × Nat) (w : Wt) (as : List Value) (h : Hp) (o : Oc) (P : Hp → Prop) : Prop := Con μ d z w as h o (fun w' h' => w' = w ∧ P h')
theorem v_callV0 (C : Cx X μ tab d zR o P) {ix ci q d' : Nat} {μ' : Mi} {z' : Nat × Nat} {as : List Value} {fs : List Value} {o' : Oc} {P' : Hp → Prop} {stk : List Value} (hd : decode μ.2.1 pc = .ok (.invokevirtual ix, 3)) (hM : MK μ') (hMv : MKv μ' ci) (hml : Cond.methodLink μ.1.cls ix μ'.1 ∈ TSg) (hh : h q = .inr (ci, fs)) (hc : ConN μ' d' z' w (.ref q :: as) h o' P') (hs : stk = as.reverse ++ .ref q :: st) (hdd : Nat.blt d' d = true) (hn : as.length = μ'.2.2.2.2) (hz : Nat.ble (z.1 + z'.1) zR.1 = true ∧ Nat.ble (z.2 + z'.2) zR.2 = true) (hcat : Nat.ble (st.map fun v => v.category).sum 8 = true) (hLn : L.length = μ.2.2.1)
    (kr : ∀ v h', o' = .inl v → P' h' → (∀ ad : Nat → Nat, v.toList.map (cv ad) = v.toList) ∧ V X (z.1 + z'.1, z.2 + z'.2) w h' (pc + 3) L (v.toList ++ st)) (kt : ∀ E h', o' = .inr E → P' h' → VT X (z.1 + z'.1, z.2 + z'.2) w h' pc L st E) : V X z w h pc L stk := by
  rcases X with ⟨p, l, e, R, s, m, args, below, meth, c, G, B, Q⟩
  intro H locs ls hW hS hl
  obtain ⟨hin, hsel, T, N, hci⟩ := hMv
  have hdd : d' < d := by simpa using hdd
  have hq : q < w.2 := hW.lt (by rw [hh]; exact ob_nj hci)
  have he : (wl G w h)[q]? = some (w.1 q, .inr (ci, fs.map (cv w.1))) := by rw [wl_get G w h hq, hh]; rfl
  have hrec := va_recv C.2.2.2.2.2.2.2.1 hW.1 hci he
  obtain ⟨r1, r2, r3, r4⟩ := C.2.2.2.2.2.2.2.2.2.2.2.1
  obtain ⟨z1, z2⟩ := hz
  have hts := C.2.2.2.2.1
  refine v_after (st := st) hS hl (vx_runV (As := as.map (cv w.1)) (rest := st.map (cv w.1)) (C := μ'.1.cls) (bytes := μ'.2.1) (maxL := μ'.2.2.1) (ret := μ'.2.2.2.1) (n := μ'.2.2.2.2) ⟨C.1, C.2.1, C.2.2.1, C.2.2.2.1, hts⟩ (hc l G B C.2.2.2.2.2.2.1) ⟨callB_of _ hts (tsg_code μ' hM) rfl rfl rfl (hts _ hM.2.1) (hts _ hml) ⟨hM.2.2.1.1, hM.2.2.1.2, hM.2.2.2.1⟩ ⟨?_, ?_⟩, hts _ hin, hts _ hsel⟩ ⟨blindD G B _ w h, hrec, fun U hU hWm => ⟨rfl, preD_of C hW hS hU hWm⟩⟩ rfl (by rw [List.length_map]; exact hn) (hl.1.trans hLn) ?_ (lv_room (by rw [cv_sum]; exact Nat.le_of_ble_eq_true hcat)) hd ⟨?_, ?_⟩) kr kt
  · show 20 + d' + 1 ≤ R.frames
    omega
  · show 8 + (μ'.2.2.1 + 11) + (200 + 80 * d') ≤ R.locals
    have := hM.2.2.2.2
    omega
  · show stk.map (cv w.1) = _
    rw [hs]
    simp [cv]
  · exact Nat.le_trans (Nat.le_of_ble_eq_true z1) r3
  · exact Nat.le_trans (Nat.le_of_ble_eq_true z2) r4
theorem v_callS0 (C : Cx X μ tab d zR o P) {ix d' : Nat} {μ' : Mi} {z' : Nat × Nat} {as : List Value} {o' : Oc} {P' : Hp → Prop} {stk : List Value} (hd : decode μ.2.1 pc = .ok (.invokestatic ix, 3)) (hM : MK μ') (hMs : Cond.static μ'.1 ∈ TSg) (hml : Cond.methodLink μ.1.cls ix μ'.1 ∈ TSg) (hc : ConN μ' d' z' w as h o' P') (hs : stk = as.reverse ++ st) (hdd : Nat.blt d' d = true) (hn : as.length = μ'.2.2.2.2) (hz : Nat.ble (z.1 + z'.1) zR.1 = true ∧ Nat.ble (z.2 + z'.2) zR.2 = true) (hcat : Nat.ble (st.map fun v => v.category).sum 8 = true) (hLn : L.length = μ.2.2.1)
    (kr : ∀ v h', o' = .inl v → P' h' → (∀ ad : Nat → Nat, v.toList.map (cv ad) = v.toList) ∧ V X (z.1 + z'.1, z.2 + z'.2) w h' (pc + 3) L (v.toList ++ st)) (kt : ∀ E h', o' = .inr E → P' h' → VT X (z.1 + z'.1, z.2 + z'.2) w h' pc L st E) : V X z w h pc L stk := by
  rcases X with ⟨p, l, e, R, s, m, args, below, meth, c, G, B, Q⟩
  intro H locs ls hW hS hl
  have hdd : d' < d := by simpa using hdd
  obtain ⟨r1, r2, r3, r4⟩ := C.2.2.2.2.2.2.2.2.2.2.2.1
  obtain ⟨z1, z2⟩ := hz
  have hts := C.2.2.2.2.1
  refine v_after (st := st) hS hl (vx_runS (As := as.map (cv w.1)) (rest := st.map (cv w.1)) (bytes := μ'.2.1) (maxL := μ'.2.2.1) (ret := μ'.2.2.2.1) (n := μ'.2.2.2.2) ⟨C.1, C.2.1, C.2.2.1, C.2.2.2.1, hts⟩ (hc l G B C.2.2.2.2.2.2.1) ⟨callB_of _ hts (tsg_code μ' hM) rfl rfl rfl (hts _ hM.2.1) (hts _ hml) ⟨hM.2.2.1.1, hM.2.2.1.2, hM.2.2.2.1⟩ ⟨?_, ?_⟩, hts _ hMs⟩ ⟨blindD G B _ w h, fun U hU hWm => ⟨rfl, preD_of C hW hS hU hWm⟩⟩ rfl (by rw [List.length_map]; exact hn) (hl.1.trans hLn) ?_ (lv_room (by rw [cv_sum]; exact Nat.le_of_ble_eq_true hcat)) hd ⟨?_, ?_⟩) kr kt
  · show 20 + d' + 1 ≤ R.frames
    omega
  · show 8 + (μ'.2.2.1 + 11) + (200 + 80 * d') ≤ R.locals
    have := hM.2.2.2.2
    omega
  · show stk.map (cv w.1) = _
    rw [hs]
    simp
  · exact Nat.le_trans (Nat.le_of_ble_eq_true z1) r3
  · exact Nat.le_trans (Nat.le_of_ble_eq_true z2) r4
/-- a throw that no handler of this method takes -/
theorem vt_out (C : Cx X μ [] d zR o P) {E : String} (ho : o = .inr E) (hz : z.1 ≤ zR.1 ∧ z.2 ≤ zR.2) (hP : P w h) : VT X z w h pc L st E := by
  rcases X with ⟨p, l, e, R, s, m, args, below, meth, c, G, B, Q⟩
  intro H locs ls q ce hW hS hl hce hcv hcl
  have hQ := C.2.2.2.2.2.2.2.2.2.2.2.2.2.2.2
  subst hQ
  have ht := C.2.2.2.2.2.2.2.2.2.2.2.2.1
  exact vx_out (E := E) (by rw [ht]; exact fun x hx => by cases hx) C.2.2.2.2.2.1 hce hcv hcl (fun t ht hv => ⟨⟨w, h, ho, hP, by rw [ht]; exact hW⟩, hS.F ht⟩) hS.2.2 hz.1 hz.2
end VC
end
