section
/-! ===== BEGIN words of one list among another's, by their places ===== -/
theorem goodIn_r {big : List Cond} (ws : List Cond) (ps : List Nat) (hp : ws = ps.filterMap (fun i => big[i]?)) (h : ws.all goodWord = true) : GoodIn big ws := by
  intro w hw
  have h1 := List.all_eq_true.mp h w hw
  rw [hp] at hw
  obtain ⟨i, -, hi⟩ := List.mem_filterMap.mp hw
  have hm : w ∈ big := by first | exact List.mem_of_getElem? hi | exact List.getElem?_mem hi
  exact ⟨hm, good_of_word h1⟩
theorem goodIn_app {big a b : List Cond} (ha : GoodIn big a) (hb : GoodIn big b) : GoodIn big (a ++ b) := fun w h => (List.mem_append.mp h).elim (ha w) (hb w)
theorem goodIn_ca {big a b : List Cond} {c : Cond} (ha : GoodIn big (c :: a)) (hb : GoodIn big b) : GoodIn big (c :: (a ++ b)) := fun w h => (List.mem_cons.mp h).elim (fun e => ha w (List.mem_cons.mpr (Or.inl e))) (fun h => (List.mem_append.mp h).elim (fun h => ha w (List.mem_cons.mpr (Or.inr h))) (hb w))
theorem goodIn_sub {big ws : List Cond} (hm : ∀ w ∈ ws, w ∈ big) (h : ws.all goodWord = true) : GoodIn big ws := fun w hw => ⟨hm w hw, good_of_word (List.all_eq_true.mp h w hw)⟩
/-! ===== END ===== -/

/-! ===== BEGIN new T[n][m]: the outer array a place, the inner ones among the pooled ===== -/
/-- f, but v at every address of l -/
def vr_up {α : Type} (f : Nat → α) (l : List Nat) (v : α) : Nat → α := fun a => if a ∈ l then v else f a
theorem vr_up_in {α : Type} {f : Nat → α} {l : List Nat} {v : α} {a : Nat} (h : a ∈ l) : vr_up f l v a = v := if_pos h
theorem vr_up_ne {α : Type} {f : Nat → α} {l : List Nat} {v : α} {a : Nat} (h : a ∉ l) : vr_up f l v a = f a := if_neg h
theorem vr_rows {L l : List Nat} {f : Nat → va_E} {e : va_E} (h : ∀ a, a ∈ l → a ∉ L) : va_pl L f ++ l.map (fun a => (a, e)) = va_pl (L ++ l) (vr_up f l e) := by
  unfold va_pl
  rw [List.map_append]
  congr 1
  · apply List.map_congr_left
    intro a ha
    rw [vr_up_ne (fun q => h a q ha)]
  · apply List.map_congr_left
    intro a ha
    rw [vr_up_in ha]
theorem vr_lay {X rows : va_W} {x : Nat × va_E} {pl : va_W} {D : va_G} {cl : List vw_C} {H : Heap} (hP : va_P D cl (((X ++ pl) ++ [x]) ++ rows) H) : va_P D cl ((X ++ [x]) ++ (pl ++ rows)) H := by
  rw [List.append_assoc (X ++ pl)] at hP
  have h := va_P.swap hP
  rw [← List.append_assoc X] at h
  have h2 := va_P.swap h
  rw [List.append_assoc (X ++ [x])] at h2
  exact h2
theorem vr_layD {X rows : va_W} {x : Nat × va_E} {pl : va_W} {A : Nat → Prop} (hD : va_D A (((X ++ pl) ++ [x]) ++ rows)) : va_D A ((X ++ [x]) ++ (pl ++ rows)) := by
  rw [List.append_assoc (X ++ pl)] at hD
  have h := va_D.swap hD
  rw [← List.append_assoc X] at h
  have h2 := va_D.swap h
  rw [List.append_assoc (X ++ [x])] at h2
  exact h2
theorem vr_outer (c : ClassId) (N h0 : Nat) : ∀ i : Nat, Jvm.Free.Multi.outerC c N h0 i = arrV c N (fun j => va_rf (if j < i then some (h0 + 1 + j) else none))
  | 0 => by
    show ({ cls := c, slots := Array.replicate N .null, vm := .none } : Cell) = _
    rw [arrV_new]
    refine congrArg (arrV c N) (funext fun j => ?_)
    simp [va_rf]
  | i + 1 => by
    show (Jvm.Free.Multi.outerC c N h0 i).setSlot i (.ref (h0 + 1 + i)) = _
    rw [vr_outer c N h0 i, arrV_store]
    refine congrArg (arrV c N) (funext fun j => ?_)
    by_cases e : j = i
    · subst e
      simp [updV, va_rf]
    · by_cases h : j < i
      · simp [updV, e, h, Nat.lt_succ_of_lt h]
      · simp [updV, e, h, show ¬ j < i + 1 by omega]
def va_AOA (ty : FieldType) (U : State) : Prop := (Cond.arrayOver (.array ty)).before #[] U = true
theorem va_AOA.use {ty : FieldType} {A : Array Value} {U : State} (h : va_AOA ty U) : (Cond.arrayOver (.array ty)).before A U = true := h
section VGM
variable {p : Program} {l : Launch} {e : Env} {R : Room} {s : State} {m : MethodId} {args : Array Value} {below : List Frame} {meth : Method} {c : Code} {H : Heap} {locs : List Loc} {cells slots : Nat} {Q : State → Prop}
variable {cc : ByteArray} {pc : Nat} {ls : Array Slot} {rest : List Value} {D : va_G} {cl : List vw_C} {A : Nat → Prop} {a : Nat} {tys : List (ClassId × FieldType)} {ws : va_W} {H0 : Heap}
theorem va_mna {X : va_W} {L : List Nat} {f : Nat → va_E} {cc : ByteArray} (hexec : p.tables.exec = Jvm.exec) (hb : c.code = cc) {own : String} {index : Nat} {ty : FieldType} {cy : ClassId} (hown : s.vm.findClass own = some m.cls) (hclink : (Cond.classLink own index ("[" ++ (FieldType.array ty).toString)).before args s = true) (hover : va_AOA ty s) (harr : (Cond.arrayClass ty).before args s = true) (hcy : s.vm.findClass (FieldType.array ty).toString = some cy)
    (hK : va_K D cl tys s) (hP : va_P D cl (X ++ va_pl L f) H) (hD : va_D A (X ++ va_pl L f)) (hS : va_S A H0 H locs) (hA : ∀ q, H0.size ≤ q → A q) {n k : Int32} {N' K' : Nat} {z : vp_A} (hn : ¬ n < 0) (hk : ¬ k < 0) (hN : n.toNatClampNeg = N') (hM : k.toNatClampNeg = K')
    (hb1 : N' * 4 ≤ 536870912) (hb2 : K' * componentBytes ty ≤ 536870912) (hb3 : K' ≤ 536870912) (hdf : fits ty (defaultValue ty) = true) (hdd : (defaultValue ty).isDefault = true) (hcells : cells + (1 + N') ≤ R.cells) (hslots : slots + (N' + N' * K') ≤ R.slots) (hz : ∀ c : ClassId, Jvm.Free.Multi.innerC c K' (defaultValue ty) = vp_cell c z) (hdg : decode cc pc = .ok (.multianewarray index 2, 4))
    (kk : ∀ (q : Nat) (r : Nat → Nat) (cA : ClassId) (H1 : Heap), (∀ i j : Nat, i < N' → j < N' → r i = r j → i = j) → (∀ i : Nat, i < N' → r i ∉ L) → va_K D cl (tys ++ [(cA, .array ty)]) s →
      va_P D cl ((X ++ [(q, .inl (cA, N', .inr (.inr (.inr (.inr (fun i => if i < N' then some (r i) else none))))))]) ++ va_pl (L ++ (List.range N').map r) (vr_up f ((List.range N').map r) (.inl (cy, z)))) H1 → va_D A ((X ++ [(q, .inl (cA, N', .inr (.inr (.inr (.inr (fun i => if i < N' then some (r i) else none))))))]) ++ va_pl (L ++ (List.range N').map r) (vr_up f ((List.range N').map r) (.inl (cy, z)))) → va_S A H0 H1 locs →
      W p l e R s m args below meth c H1 locs (cells + 1 + N') (slots + N' + N' * K') Q (F0 m (pc + 4) ls (.ref q :: rest))) : W p l e R s m args below meth c H locs cells slots Q (F0 m pc ls (.int k :: .int n :: rest)) := by
  subst hN
  subst hM
  intro T hT Xs
  obtain ⟨vm₁, cA, comp, -, fA, fC, hO, -, X', step⟩ := Xs.multianewarray2F hexec hown hclink (va_AOA.use hover) harr (g := F0 m pc ls (.int k :: .int n :: rest)) rfl (by rw [hb]; exact hdg) rfl hn hk hb1 hb2 hb3 hdf hdd hcells hslots
  have ec : some cy = some comp := hcy.symm.trans fC
  cases ec
  generalize hF : Jvm.Free.Multi.fill (T.setVm vm₁) cA cy n.toNatClampNeg k.toNatClampNeg (defaultValue ty) n.toNatClampNeg = F at X' step
  have hTh : (T.setVm vm₁).heap = H := hT
  obtain ⟨f1, f2, -, -⟩ := Jvm.Free.Multi.fill_facts (T.setVm vm₁) cA cy n.toNatClampNeg k.toNatClampNeg (defaultValue ty) n.toNatClampNeg
  rw [hF, hTh] at f1 f2
  have hold : ∀ x : Nat, x < H.size → F.heap[x]? = H[x]? := fun x hx => by
    have := Jvm.Free.Multi.fill_old (T.setVm vm₁) cA cy n.toNatClampNeg k.toNatClampNeg (defaultValue ty) (a := x) (by rw [hTh]; exact hx) n.toNatClampNeg
    rw [hF, hTh] at this
    exact this
  have hrow : ∀ j : Nat, j < n.toNatClampNeg → F.heap[H.size + 1 + j]? = some (vp_cell cy z) := fun j hj => by
    have := Jvm.Free.Multi.fill_inner (T.setVm vm₁) cA cy n.toNatClampNeg k.toNatClampNeg (defaultValue ty) n.toNatClampNeg j hj
    rw [hF, hTh, hz] at this
    exact this
  have hout : Jvm.Free.Multi.outerC cA n.toNatClampNeg H.size n.toNatClampNeg = vp_cell cA (n.toNatClampNeg, .inr (.inr (.inr (.inr (fun i => if i < n.toNatClampNeg then some (H.size + 1 + i) else none))))) := by
    rw [vp_cell_q]
    exact vr_outer cA n.toNatClampNeg H.size n.toNatClampNeg
  rw [hout] at f2
  have hlt : ∀ a, a ∈ L → a < H.size := fun a ha => by
    obtain ⟨k9, hk9⟩ := va_pl_get (X := X) (f := f) ha
    exact (hP k9 _ hk9).lt
  have hnl : ∀ i : Nat, i < n.toNatClampNeg → H.size + 1 + i ∉ L := fun i _ h => by
    have := hlt _ h
    omega
  have hnm : ∀ a, a ∈ (List.range n.toNatClampNeg).map (fun i => H.size + 1 + i) → a ∉ L := fun a ha h => by
    obtain ⟨i, -, rfl⟩ := List.mem_map.mp ha
    have := hlt _ h
    omega
  have hP0 : va_P D cl (X ++ va_pl L f) F.heap := hP.kept (fun k9 x hx => hold x.1 ((hP k9 x hx).lt))
  have hP1 : va_P D cl ((X ++ va_pl L f) ++ [(H.size, .inl (cA, n.toNatClampNeg, .inr (.inr (.inr (.inr (fun i => if i < n.toNatClampNeg then some (H.size + 1 + i) else none))))))]) F.heap := hP0.app (fun k9 x hx => by
    have h0 : k9 < 1 := (List.getElem?_eq_some_iff.mp hx).1
    rw [show k9 = 0 by omega] at hx
    cases hx
    exact f2)
  have hP2 : va_P D cl (((X ++ va_pl L f) ++ [(H.size, .inl (cA, n.toNatClampNeg, .inr (.inr (.inr (.inr (fun i => if i < n.toNatClampNeg then some (H.size + 1 + i) else none))))))]) ++ ((List.range n.toNatClampNeg).map (fun i => H.size + 1 + i)).map (fun a => (a, .inl (cy, z)))) F.heap := hP1.app (fun k9 x hx => by
    obtain ⟨a, ha, rfl⟩ := List.mem_map.mp (List.mem_of_getElem? hx)
    obtain ⟨i, hi, rfl⟩ := List.mem_map.mp ha
    exact hrow i (List.mem_range.mp hi))
  have hD2 : va_D A (((X ++ va_pl L f) ++ [(H.size, .inl (cA, n.toNatClampNeg, .inr (.inr (.inr (.inr (fun i => if i < n.toNatClampNeg then some (H.size + 1 + i) else none))))))]) ++ ((List.range n.toNatClampNeg).map (fun i => H.size + 1 + i)).map (fun a => (a, .inl (cy, z)))) := by
    have hD1 := hD.push (e := .inl (cA, n.toNatClampNeg, .inr (.inr (.inr (.inr (fun i => if i < n.toNatClampNeg then some (H.size + 1 + i) else none)))))) hP rfl (hA _ hS.1)
    generalize hW1 : (X ++ va_pl L f) ++ [(H.size, .inl (cA, n.toNatClampNeg, .inr (.inr (.inr (.inr (fun i => if i < n.toNatClampNeg then some (H.size + 1 + i) else none))))))] = W1 at hD1 hP1 ⊢
    have hle : ∀ (k9 : Nat) (x : Nat × va_E), W1[k9]? = some x → x.1 ≤ H.size := fun k9 x hx => by
      rw [← hW1] at hx
      by_cases hl : k9 < (X ++ va_pl L f).length
      · rw [List.getElem?_append_left hl] at hx
        exact Nat.le_of_lt ((hP k9 x hx).lt)
      · rw [List.getElem?_append_right (by omega)] at hx
        have h0 : k9 - (X ++ va_pl L f).length < 1 := (List.getElem?_eq_some_iff.mp hx).1
        rw [show k9 - (X ++ va_pl L f).length = 0 by omega] at hx
        cases hx
        exact Nat.le_refl _
    have hr : ∀ (k9 : Nat) (x : Nat × va_E), (((List.range n.toNatClampNeg).map (fun i => H.size + 1 + i)).map (fun a => ((a, .inl (cy, z)) : Nat × va_E)))[k9]? = some x → x.1 = H.size + 1 + k9 := fun k9 x hx => by
      rw [List.getElem?_map, List.getElem?_map] at hx
      by_cases h9 : k9 < n.toNatClampNeg
      · rw [List.getElem?_range h9] at hx
        cases hx
        rfl
      · have hn0 : (List.range n.toNatClampNeg)[k9]? = none := List.getElem?_eq_none (by rw [List.length_range]; omega)
        rw [hn0] at hx
        cases hx
    refine ⟨fun i j x y hi hj hxy => ?_, fun k9 x hx => ?_⟩
    · by_cases h1 : i < W1.length <;> by_cases h2 : j < W1.length
      · rw [List.getElem?_append_left h1] at hi
        rw [List.getElem?_append_left h2] at hj
        exact hD1.1 i j x y hi hj hxy
      · rw [List.getElem?_append_left h1] at hi
        rw [List.getElem?_append_right (by omega)] at hj
        have := hle _ _ hi
        have := hr _ _ hj
        omega
      · rw [List.getElem?_append_right (by omega)] at hi
        rw [List.getElem?_append_left h2] at hj
        have := hle _ _ hj
        have := hr _ _ hi
        omega
      · rw [List.getElem?_append_right (by omega)] at hi hj
        have := hr _ _ hi
        have := hr _ _ hj
        omega
    · by_cases h1 : k9 < W1.length
      · rw [List.getElem?_append_left h1] at hx
        exact hD1.2 k9 x hx
      · rw [List.getElem?_append_right (by omega)] at hx
        have := hr _ _ hx
        exact hA _ (by have := hS.1; omega)
  have hAr : ArrOfT s cA (.array ty) := fun N9 z9 => by
    obtain ⟨-, k9, hk9, cm9, hkk9⟩ := (hO 0 0 0).1
    exact ⟨(fun q hq => by cases hq), k9, hk9, cm9, hkk9⟩
  have hK2 : va_K D cl (tys ++ [(cA, .array ty)]) s := ⟨hK.1, fun k9 x hx => by
    by_cases hl : k9 < tys.length
    · rw [List.getElem?_append_left hl] at hx
      exact hK.2 k9 x hx
    · rw [List.getElem?_append_right (by omega)] at hx
      have h0 : k9 - tys.length < 1 := (List.getElem?_eq_some_iff.mp hx).1
      rw [show k9 - tys.length = 0 by omega] at hx
      cases hx
      exact ⟨hAr, fA⟩⟩
  obtain ⟨t, a1, b1⟩ := kk H.size (fun i => H.size + 1 + i) cA F.heap (fun i j _ _ h => by have h9 : H.size + 1 + i = H.size + 1 + j := h; omega) hnl hK2 (by rw [← vr_rows hnm]; exact vr_lay hP2) (by rw [← vr_rows hnm]; exact vr_layD hD2) ⟨by rw [f1]; have := hS.1; omega, fun x h1 h2 => (hold x (Nat.lt_of_lt_of_le h1 hS.1)).trans (hS.2.1 x h1 h2), hS.2.2⟩ F rfl X'
  refine ⟨t, step t ?_, b1⟩
  have e : T.heap.size = H.size := by rw [hT]
  rw [e]
  exact a1
end VGM
/-! ===== END ===== -/

/-! ===== BEGIN exceptions that leave a method, and their catching by the caller (launches without stack traces) ===== -/
section VXA
/-! The laws vx_back, vx_callV, vx_callS, vx_callSW, vx_throw0, vx_throwS follow proofs of the library, with one case more: JvmDerived/Free/Laws.lean (Back.of_free), Shelf42/LK1.lean (callV, callS), Shelf/KitTraced.lean (throwNew0V, throwNewS). -/
/-- where a method has thrown q: the class by its name, the cell, what was written, the world -/
def vx_T (XC : String → State → State → Prop) (st : State) (q : Addr) (t : State) (mc ms : Nat) (free : Addr → Prop) : Prop :=
  ∃ (E : String) (ce : Cell) (L : List Loc), XC E st t ∧ t.heap[q]? = some ce ∧ ce.vm = .none ∧ st.vm.findClass E = some ce.cls ∧ st.WarmedH t.vm ∧ st.sameButNew ({ t with vm := st.vm } : State) L mc ms ∧ ∀ z ∈ L, free z.base
def vx_Q (Qc : Array Value → State → Outcome → State → Prop) (XC : String → State → State → Prop) (mc ms : Nat) (free : Addr → Prop) : Array Value → State → Outcome → State → Prop := fun a st o t =>
  (Qc a st o t ∧ ∃ L, FrameEnd st o t L mc ms ∧ ∀ q ∈ L, free q.base) ∨ ∃ q, o = .threw q ∧ vx_T XC st q t mc ms free
/-- a callee that returns or throws -/
def vx_Met (l : Launch) (y : MethodName) (ws : List Cond) (rm : Room) (Pc : Array Value → State → Prop) (Qc : Array Value → State → Outcome → State → Prop) (XC : String → State → State → Prop) (mc ms : Nat) (free : Addr → Prop) : Prop :=
  MetFree l y (headSpec ws rm) Pc (fun _ _ _ _ _ => True) (vx_Q Qc XC mc ms free)
def vx_Post (XC : String → State → State → Prop) (mc ms : Nat) (free : Addr → Prop) : Pt → Array Value → Addr → Pt → Prop := fun A a q B =>
  ∃ (g : JFrame) (mk : MethodId) (t : State) (L : List Loc) (E : String) (ce : Cell), B.U.heap = t.heap ∧ B.U.vm = t.vm ∧ XC E (A.U.calling g mk a) t ∧ t.heap[q]? = some ce ∧ ce.vm = .none ∧ A.U.vm.findClass E = some ce.cls ∧ B.locs = A.locs ++ L ∧ (∀ z ∈ L, free z.base) ∧ B.cells = A.cells + mc ∧ B.slots = A.slots + ms
def vx_Back (l : Launch) (R : Room) (p : Program) (e : Env) (below : List Frame) (s : State) (sargs : Array Value) (y : MethodName) (len W9 : Nat)
    (Pre : Pt → Array Value → Prop) (Post : Pt → Array Value → Option Value → Pt → Prop) (PostX : Pt → Array Value → Addr → Pt → Prop) : Prop :=
  ∀ (m : MethodId) (meth : Method) (c : Code) (A : Pt) (g : JFrame) (ig : Instr) (mk : MethodId) (a : Array Value),
    Stand p l e R s m sargs below meth c A.U A.locs A.cells A.slots → g.method = m → g.locals.size = c.maxLocals → decode c.code g.pc = .ok (ig, len) →
    2 * g.monitorRoom + (g.stack.map fun v => v.category).sum ≤ W9 → A.U.methodNamed? y = some mk → Pre A a →
    (∃ (v : Option Value) (B : Pt), Stand p l e R s m sargs below meth c B.U B.locs B.cells B.slots ∧ Post A a v B ∧
      Steps p.tables e below (doInvoke e (A.U.setTop g) [] mk a).1 (B.U.setTop { g with pc := g.pc + len, stack := v.toList ++ g.stack })) ∨
    (∃ (q : Addr) (B : Pt), Stand p l e R s m sargs below meth c B.U B.locs B.cells B.slots ∧ PostX A a q B ∧
      Steps p.tables e below (doInvoke e (A.U.setTop g) [] mk a).1 ((B.U.setTop g).pushFrame (.throwing q)))
section Payer
variable {l : Launch} {R : Room} {p : Program} {e : Env} {below : List Frame} {s : State} {sargs : Array Value} {y : MethodName} {len W9 : Nat}
theorem vx_back {ws : List Cond} {rm : Room} {Pc : Array Value → State → Prop} {Qc : Array Value → State → Outcome → State → Prop} {XC : String → State → State → Prop} {mc ms : Nat} {free : Addr → Prop} {bytes : ByteArray} {maxL : Nat} {ret : Option FieldType}
    (hM : vx_Met l y ws rm Pc Qc XC mc ms free) (hblind : FrameBlind Pc) (hrc : rm.cells = mc) (hrs : rm.slots = ms)
    (hframes : rm.frames + 1 ≤ R.frames) (hlocals : W9 + (maxL + 11) + rm.locals ≤ R.locals)
    (hws : ∀ w ∈ ws, ∀ a' U, s.WarmedH U.vm → w.before a' U = true) (hcode : Cond.code y bytes maxL ret ∈ ws) (hinit : ∀ a' U, s.WarmedH U.vm → (Cond.initialized y.cls).before a' U = true) :
    vx_Back l R p e below s sargs y len W9 (PreOf R mc ms Pc) (PostOf Qc mc ms free) (vx_Post XC mc ms free) := by
  intro m meth c A g ig mk a X hg hsize hdg hW hn hp
  have h1 : (headSpec ws rm).pre.before a A.U = true := atoms_intro fun w hw => hws w hw _ _ X.warmed
  have h2 : (Cond.code y bytes maxL ret).before a A.U = true := hws _ hcode _ _ X.warmed
  have h3 : (Cond.initialized y.cls).before a A.U = true := hinit _ _ X.warmed
  have h4 : A.cells + (headSpec ws rm).room.cells ≤ R.cells := by rw [show (headSpec ws rm).room.cells = mc from hrc]; exact hp.1
  have h5 : A.slots + (headSpec ws rm).room.slots ≤ R.slots := by rw [show (headSpec ws rm).room.slots = ms from hrs]; exact hp.2.1
  have hPc : Pc a (A.U.calling g mk a) := hblind _ _ _ _ hp.2.2
  obtain ⟨U, Ls, c0, s0⟩ := A
  dsimp only [Pt.U, Pt.locs, Pt.cells, Pt.slots] at h1 h2 h3 h4 h5 X hn hPc ⊢
  obtain ⟨methY, cY, hmY, hcY, -, hlY, -, -, -, -⟩ := Cond.code_spec hn h2
  obtain ⟨kY, hkY, -⟩ := className_of_methodNamed hn
  have hinitY : kY.init = .initialized := Cond.initialized_spec (findClass_of_methodNamed hn) hkY h3
  have h : At U g.method c below := by rw [hg]; exact X.here
  have hlocals9 : W9 + (maxL + 11) + (headSpec ws rm).room.locals ≤ R.locals := hlocals
  have happ : (headSpec ws rm).appliesLoose y e.platform (U.calling g mk a) = true :=
    Spec.appliesLoose_calling (g := g) h hdg hn hkY hinitY
      (X.room_calling (g := g) (R' := (headSpec ws rm).room) hsize hmY hcY hframes (by rw [hlY]; omega) h4 h5) h1
  obtain ⟨mid, hmid⟩ := h.above
  have hfr : (U.setTop g).frames = (.java g :: mid) ++ below := by rw [State.frames_setTop' g h.top, hmid]; rfl
  obtain ⟨o, s₂, hsteps, -, hend, hq⟩ := Steps.callFree hM p X.admits X.cas X.clock (acts := []) hfr happ hPc trivial
  have hq' : vx_Q Qc XC mc ms free a (U.calling g mk a) o s₂ := hq
  rw [State.frames_setTop' g h.top] at hend
  obtain ⟨g₀, hg0⟩ := Option.isSome_iff_exists.mp h.top
  obtain ⟨r, hr⟩ := State.topJava?_eq_some.mp hg0
  have hr' : (({ U with heap := s₂.heap, slotsUsed := s₂.slotsUsed } : State).setVm s₂.vm).frames = .java g₀ :: r := hr
  rcases hq' with ⟨hqc, L, hfe, hL⟩ | ⟨q, rfl, E, ce, L, hx, hce, hcv, hcl, hW₂, hsm, hL⟩
  · obtain ⟨⟨v, rfl⟩, hW₂, e2, q2, q3, q4, q5, q6⟩ := id hfe
    have e3 : s₂ = ({ (U.calling g mk a).setFrames s₂.frames with heap := s₂.heap, slotsUsed := s₂.slotsUsed } : State).setVm s₂.vm := by
      have : s₂ = ({ s₂ with vm := (U.calling g mk a).vm } : State).setVm s₂.vm := rfl
      rw [e2] at this
      exact this
    obtain ⟨c₂, i₂, len₂, hc₂, hd₂, hf₂⟩ := hend
    have hW' : U.WarmedH s₂.vm := hW₂
    have hcc : c₂ = c := by
      have h1 : s₂.code? g.method = U.code? g.method := by
        rw [State.code?_eq, State.code?_eq, hW'.alike.method?]
      exact Option.some.inj (hc₂.symm.trans (h1.trans h.code))
    subst hcc
    have hlen : len₂ = len := by rw [hdg] at hd₂; cases hd₂; rfl
    subst hlen
    have hs₂ : s₂ = (({ U with heap := s₂.heap, slotsUsed := s₂.slotsUsed } : State).setVm s₂.vm).setTop { g with pc := g.pc + len₂, stack := v.toList ++ g.stack } := by
      refine e3.trans ?_
      rw [hf₂, State.calling_eq h.top, State.setFrames_setFrames, State.setTop_of_frames _ hr', hr]
      rfl
    have hsame : U.sameButNew ({ U with heap := s₂.heap, slotsUsed := s₂.slotsUsed } : State) L mc ms := by
      refine ⟨?_, q2, q3, q4, q5, q6⟩
      obtain ⟨t, ht, -⟩ := State.frames_cons hr
      show ({ U with heap := s₂.heap, slotsUsed := s₂.slotsUsed } : State) = { U.setFrames U.frames with heap := s₂.heap, slotsUsed := s₂.slotsUsed }
      rw [State.setFrames_self ht]
    subst hg
    refine Or.inl ⟨v, ⟨(({ U with heap := s₂.heap, slotsUsed := s₂.slotsUsed } : State).setVm s₂.vm), Ls ++ L, c0 + mc, s0 + ms⟩,
      ⟨X.admits, X.cas, X.clock, X.frames, X.room, X.hears, X.method, X.code, (X.here.setHeapUsed s₂.heap s₂.slotsUsed).setVm hW'.alike, X.tail, State.WarmedH.trans X.warmed hW', X.limits, X.bytes, X.same.trans (hsame.setVm s.vm)⟩,
      ⟨g, mk, s₂, L, rfl, rfl, hqc, rfl, hL, rfl, rfl⟩, ?_⟩
    show Steps p.tables e below _ ((({ U with heap := s₂.heap, slotsUsed := s₂.slotsUsed } : State).setVm s₂.vm).setTop { g with pc := g.pc + len₂, stack := v.toList ++ g.stack })
    rw [← hs₂]
    exact hsteps
  · obtain ⟨e2, q2, q3, q4, q5, q6⟩ := id hsm
    have e3 : s₂ = ({ (U.calling g mk a).setFrames s₂.frames with heap := s₂.heap, slotsUsed := s₂.slotsUsed } : State).setVm s₂.vm := by
      have : s₂ = ({ s₂ with vm := (U.calling g mk a).vm } : State).setVm s₂.vm := rfl
      rw [e2] at this
      exact this
    have hf₂ : s₂.frames = .throwing q :: .java g :: U.frames.tail := hend
    have hW' : U.WarmedH s₂.vm := hW₂
    have hs₂ : s₂ = ((({ U with heap := s₂.heap, slotsUsed := s₂.slotsUsed } : State).setVm s₂.vm).setTop g).pushFrame (.throwing q) := by
      refine e3.trans ?_
      rw [hf₂, State.calling_eq h.top, State.setFrames_setFrames, State.pushFrame, State.frames_setTop _ hr', State.setTop_of_frames _ hr', State.setFrames_setFrames, hr]
      rfl
    have hsame : U.sameButNew ({ U with heap := s₂.heap, slotsUsed := s₂.slotsUsed } : State) L mc ms := by
      refine ⟨?_, q2, q3, q4, q5, q6⟩
      obtain ⟨t, ht, -⟩ := State.frames_cons hr
      show ({ U with heap := s₂.heap, slotsUsed := s₂.slotsUsed } : State) = { U.setFrames U.frames with heap := s₂.heap, slotsUsed := s₂.slotsUsed }
      rw [State.setFrames_self ht]
    subst hg
    refine Or.inr ⟨q, ⟨(({ U with heap := s₂.heap, slotsUsed := s₂.slotsUsed } : State).setVm s₂.vm), Ls ++ L, c0 + mc, s0 + ms⟩,
      ⟨X.admits, X.cas, X.clock, X.frames, X.room, X.hears, X.method, X.code, (X.here.setHeapUsed s₂.heap s₂.slotsUsed).setVm hW'.alike, X.tail, State.WarmedH.trans X.warmed hW', X.limits, X.bytes, X.same.trans (hsame.setVm s.vm)⟩,
      ⟨g, mk, s₂, L, E, ce, rfl, rfl, hx, hce, hcv, hcl, rfl, hL, rfl, rfl⟩, ?_⟩
    show Steps p.tables e below _ (((({ U with heap := s₂.heap, slotsUsed := s₂.slotsUsed } : State).setVm s₂.vm).setTop g).pushFrame (.throwing q))
    rw [← hs₂]
    exact hsteps
end Payer
section Calls
variable {p : Program} {l : Launch} {e : Env} {R : Room} {s : State} {m : MethodId} {args : Array Value} {below : List Frame} {meth : Method} {c : Code} {T : State} {locs : List Loc} {cells slots : Nat}
theorem vx_callV (X : Stand p l e R s m args below meth c T locs cells slots) (hexec : p.tables.exec = Jvm.exec) {own C : String} {index : Nat} {y : MethodName} {bytes : ByteArray} {maxL : Nat} {ret : Option FieldType}
    (hown : s.vm.findClass own = some m.cls) (hlink : (Cond.methodLink own index y).before args s = true) (hinst : (Cond.instanceMethod y).before args s = true) (hsel : (Cond.selects C y y).before args s = true)
    (hcode : (Cond.code y bytes maxL ret).before args s = true) (hy : y.cls ≠ "java/lang/invoke/MethodHandle" ∧ y.cls ≠ "java/lang/invoke/VarHandle")
    {W9 : Nat} {Pre : Pt → Array Value → Prop} {Post : Pt → Array Value → Option Value → Pt → Prop} {PostX : Pt → Array Value → Addr → Pt → Prop} (hK : vx_Back l R p e below s args y 3 W9 Pre Post PostX)
    {b : Addr} {cellB : Cell} (hcell : T.heap[b]? = some cellB) (hobj : cellB.vm.isStatics = false) (hcls : s.vm.findClass C = some cellB.cls)
    {g : JFrame} (hg : g.method = m) (hsize : g.locals.size = c.maxLocals) {argsL rest : List Value} (hlen : ∀ sig, parseMethodDescriptor y.desc = some sig → argsL.length = sig.parameters.length)
    (hstack : g.stack = argsL.reverse ++ .ref b :: rest) (hW : 2 * g.monitorRoom + (rest.map fun v => v.category).sum ≤ W9) (hdg : decode c.code g.pc = .ok (.invokevirtual index, 3))
    (hpre : ∀ vm₁, s.WarmedH vm₁ → Pre ⟨T.setVm vm₁, locs, cells, slots⟩ (Value.ref b :: argsL).toArray) :
    (∃ (v : Option Value) (vm₁ : Vm) (B : Pt), s.WarmedH vm₁ ∧ Stand p l e R s m args below meth c B.U B.locs B.cells B.slots ∧ Post ⟨T.setVm vm₁, locs, cells, slots⟩ (Value.ref b :: argsL).toArray v B ∧
      ∀ target, Steps p.tables e below (B.U.setTop { g with pc := g.pc + 3, stack := v.toList ++ rest }) target → Steps p.tables e below (T.setTop g) target) ∨
    (∃ (q : Addr) (vm₁ : Vm) (B : Pt), s.WarmedH vm₁ ∧ Stand p l e R s m args below meth c B.U B.locs B.cells B.slots ∧ PostX ⟨T.setVm vm₁, locs, cells, slots⟩ (Value.ref b :: argsL).toArray q B ∧
      Steps p.tables e below (T.setTop g) ((B.U.setTop { g with stack := rest }).pushFrame (.throwing q))) := by
  obtain ⟨mk, methM, hnamed, hmethM, hstM, habM⟩ := Cond.instanceMethod_spec hinst
  obtain ⟨methM', cM, hmethM', -, -, -, -, -, -, hsigM⟩ := Cond.code_spec hnamed hcode
  cases hmethM.symm.trans hmethM'
  obtain ⟨c2, r2, m2, q1, q2, q3, q4, kP, hkP, hkPi⟩ := Cond.selects_spec hsel
  cases hcls.symm.trans q1
  cases (State.methodFound?_of_named hnamed hy).symm.trans q2
  cases hnamed.symm.trans q3
  have hselP : selectMethod e.platform s.vm cellB.cls mk = .method mk := by rw [Launch.admits_selectMethod X.admits]; exact q4
  obtain ⟨vm₁, X₁, hstep₁⟩ := X.invokevirtual hexec hown hlink hnamed hmethM hstM hkP hkPi hy (a := b) (cell := cellB) hcell
    (fun z h => by rw [h] at hobj; cases hobj) hselP hmethM habM hkP hkPi (g := g) hg (argsL := argsL) (rest := rest) (hlen _ hsigM) hstack hdg
  rcases hK m meth c ⟨T.setVm vm₁, locs, cells, slots⟩ { g with stack := rest } (.invokevirtual index) mk (Value.ref b :: argsL).toArray X₁ hg hsize hdg hW (X₁.named hnamed) (hpre vm₁ X₁.warmed) with ⟨v, B, X', hpost, hsteps⟩ | ⟨q, B, X', hpost, hsteps⟩
  · exact Or.inl ⟨v, vm₁, B, X₁.warmed, X', hpost, fun target h => hstep₁ _ fun acts => by rw [doInvoke_state]; exact hsteps.trans h⟩
  · exact Or.inr ⟨q, vm₁, B, X₁.warmed, X', hpost, hstep₁ _ fun acts => by rw [doInvoke_state]; exact hsteps⟩
theorem vx_callS (X : Stand p l e R s m args below meth c T locs cells slots) (hexec : p.tables.exec = Jvm.exec) {own : String} {index : Nat} {y : MethodName} {bytes : ByteArray} {maxL : Nat} {ret : Option FieldType}
    (hown : s.vm.findClass own = some m.cls) (hlink : (Cond.methodLink own index y).before args s = true) (hstat : (Cond.static y).before args s = true) (hinit : (Cond.initialized y.cls).before args s = true)
    (hcode : (Cond.code y bytes maxL ret).before args s = true) (hy : y.cls ≠ "java/lang/invoke/MethodHandle" ∧ y.cls ≠ "java/lang/invoke/VarHandle")
    {W9 : Nat} {Pre : Pt → Array Value → Prop} {Post : Pt → Array Value → Option Value → Pt → Prop} {PostX : Pt → Array Value → Addr → Pt → Prop} (hK : vx_Back l R p e below s args y 3 W9 Pre Post PostX)
    {g : JFrame} (hg : g.method = m) (hsize : g.locals.size = c.maxLocals) {argsL rest : List Value} (hlen : ∀ sig, parseMethodDescriptor y.desc = some sig → argsL.length = sig.parameters.length)
    (hstack : g.stack = argsL.reverse ++ rest) (hW : 2 * g.monitorRoom + (rest.map fun v => v.category).sum ≤ W9) (hdg : decode c.code g.pc = .ok (.invokestatic index, 3))
    (hpre : ∀ vm₁, s.WarmedH vm₁ → Pre ⟨T.setVm vm₁, locs, cells, slots⟩ argsL.toArray) :
    (∃ (v : Option Value) (vm₁ : Vm) (B : Pt), s.WarmedH vm₁ ∧ Stand p l e R s m args below meth c B.U B.locs B.cells B.slots ∧ Post ⟨T.setVm vm₁, locs, cells, slots⟩ argsL.toArray v B ∧
      ∀ target, Steps p.tables e below (B.U.setTop { g with pc := g.pc + 3, stack := v.toList ++ rest }) target → Steps p.tables e below (T.setTop g) target) ∨
    (∃ (q : Addr) (vm₁ : Vm) (B : Pt), s.WarmedH vm₁ ∧ Stand p l e R s m args below meth c B.U B.locs B.cells B.slots ∧ PostX ⟨T.setVm vm₁, locs, cells, slots⟩ argsL.toArray q B ∧
      Steps p.tables e below (T.setTop g) ((B.U.setTop { g with stack := rest }).pushFrame (.throwing q))) := by
  obtain ⟨mk, hnamed⟩ := Cond.code_named hcode
  obtain ⟨methM, cM, hmethM, -, -, -, -, -, -, hsigM⟩ := Cond.code_spec hnamed hcode
  have hstatic : methM.isStatic = true := Cond.static_spec hnamed hmethM hstat
  obtain ⟨kP, hkP, -⟩ := className_of_methodNamed hnamed
  have hinitP : kP.init = .initialized := Cond.initialized_spec (findClass_of_methodNamed hnamed) hkP hinit
  obtain ⟨vm₁, X₁, hstep₁⟩ := X.invokestatic hexec hown hlink hnamed hmethM hstatic hkP hinitP hy (g := g) hg (argsL := argsL) (rest := rest) (hlen _ hsigM) hstack hdg
  rcases hK m meth c ⟨T.setVm vm₁, locs, cells, slots⟩ { g with stack := rest } (.invokestatic index) mk argsL.toArray X₁ hg hsize hdg hW (X₁.named hnamed) (hpre vm₁ X₁.warmed) with ⟨v, B, X', hpost, hsteps⟩ | ⟨q, B, X', hpost, hsteps⟩
  · exact Or.inl ⟨v, vm₁, B, X₁.warmed, X', hpost, fun target h => hstep₁ _ fun acts => by rw [doInvoke_state]; exact hsteps.trans h⟩
  · exact Or.inr ⟨q, vm₁, B, X₁.warmed, X', hpost, hstep₁ _ fun acts => by rw [doInvoke_state]; exact hsteps⟩
end Calls
theorem vx_cls {s : State} {T : State} {vm₁ : Vm} {E : String} {k : ClassId} (hW : s.WarmedH vm₁) (h : (T.setVm vm₁).vm.findClass E = some k) : s.vm.findClass E = some k := by
  have h1 : vm₁.findClass E = some k := h
  rw [hW.alike.findClass] at h1
  exact h1
/-- the method's frame g, with q thrown over it -/
def vx_W (p : Program) (l : Launch) (e : Env) (R : Room) (s : State) (m : MethodId) (args : Array Value) (below : List Frame) (meth : Method) (c : Code) (H : Heap) (locs : List Loc) (cells slots : Nat) (Q : State → Prop) (g : JFrame) (q : Addr) : Prop :=
  ∀ T : State, T.heap = H → Stand p l e R s m args below meth c T locs cells slots → ∃ t, Steps p.tables e below ((T.setTop g).pushFrame (.throwing q)) t ∧ Q t
def vx_Run (p : Program) (l : Launch) (e : Env) (R : Room) (s : State) (m : MethodId) (args : Array Value) (below : List Frame) (meth : Method) (c : Code) (H : Heap) (locs : List Loc) (cells slots mc ms : Nat) (g : JFrame) (rest : List Value) (Qa : State → Outcome → State → Prop) (XC : String → State → State → Prop) (free : Addr → Prop) : Prop :=
  ∀ T : State, T.heap = H → Stand p l e R s m args below meth c T locs cells slots →
    (∃ (v : Option Value) (st₀ t T' : State) (L : List Loc), st₀.heap = H ∧ Stand p l e R s m args below meth c T' (locs ++ L) (cells + mc) (slots + ms) ∧ (∀ q ∈ L, free q.base) ∧ T'.heap = t.heap ∧ T'.vm = t.vm ∧ Qa st₀ (.returned v) t ∧
      Goes p e below T g T' { g with pc := g.pc + 3, stack := v.toList ++ rest }) ∨
    (∃ (q : Addr) (st₀ t T' : State) (L : List Loc) (E : String) (ce : Cell), st₀.heap = H ∧ Stand p l e R s m args below meth c T' (locs ++ L) (cells + mc) (slots + ms) ∧ (∀ z ∈ L, free z.base) ∧ T'.heap = t.heap ∧ T'.vm = t.vm ∧ XC E st₀ t ∧ t.heap[q]? = some ce ∧ ce.vm = .none ∧ s.vm.findClass E = some ce.cls ∧
      Steps p.tables e below (T.setTop g) ((T'.setTop { g with stack := rest }).pushFrame (.throwing q)))
def vx_X {S : Type} (px : S → Prop) (B : String → S → State → Prop) (A : Nat → Prop) : String → State → State → Prop := fun E st t => ∃ u : S, px u ∧ B E u t ∧ va_F A st t
section Runs
variable {p : Program} {l : Launch} {e : Env} {R : Room} {s : State} {m : MethodId} {args : Array Value} {below : List Frame} {meth : Method} {c : Code} {H : Heap} {locs : List Loc} {cells slots : Nat}
variable {y : MethodName} {bytes cc : ByteArray} {maxL nL mc ms n index : Nat} {ret : Option FieldType} {ws : List Cond} {rm : Room} {Pc : Array Value → State → Prop} {Qc : Array Value → State → Outcome → State → Prop} {XC : String → State → State → Prop} {free : Addr → Prop} {Ts : List Cond} {own C : String} {b : Addr} {As rest : List Value} {g : JFrame}
theorem vx_callBack (cb : CallB R s args own index y bytes maxL ret ws rm mc ms n) (hM : vx_Met l y ws rm Pc Qc XC mc ms free) (hbl : FrameBlind Pc) : vx_Back l R p e below s args y 3 8 (PreOf R mc ms Pc) (PostOf Qc mc ms free) (vx_Post XC mc ms free) := by
  obtain ⟨hrc, hrs, hfr, hlo, hws, hcw, -, hini, -⟩ := cb
  exact vx_back (bytes := bytes) (maxL := maxL) (ret := ret) hM hbl hrc hrs hfr hlo hws hcw (fun a' U hW => word_at hW (Or.inl (by first | rfl | simp [Cond.onTables, Cond.keeps, Cond.steady])) hini)
theorem vx_runV (S : CallFix p m c cc nL s args Ts own) (hM : vx_Met l y ws rm Pc Qc XC mc ms free) (cw : CallW R s args own C index y bytes maxL ret ws rm mc ms n) (hp : PreV s H C b Pc As)
    (hg : g.method = m) (hn : As.length = n) (hsize : g.locals.size = nL) (hstack : g.stack = As.reverse ++ .ref b :: rest) (hW : 2 * g.monitorRoom + (rest.map fun v => v.category).sum ≤ 8) (hdg : decode cc g.pc = .ok (.invokevirtual index, 3)) (hf : cells + mc ≤ R.cells ∧ slots + ms ≤ R.slots) :
    vx_Run p l e R s m args below meth c H locs cells slots mc ms g rest (Qc (Value.ref b :: As).toArray) XC free := by
  have hK : vx_Back l R p e below s args y 3 8 (PreOf R mc ms Pc) (PostOf Qc mc ms free) (vx_Post XC mc ms free) := vx_callBack cw.1 hM hp.1
  obtain ⟨⟨-, -, -, -, -, -, hcode, -, hy, hlen, hl⟩, hin, hse⟩ := cw
  obtain ⟨hx, hb, hml, ho, -⟩ := S
  obtain ⟨-, ⟨cellB, hcB, hoB, hclB⟩, hPc⟩ := hp
  intro T hT X
  rcases vx_callV X hx (C := C) (bytes := bytes) (maxL := maxL) (ret := ret) ho hl hin hse hcode hy hK (by rw [hT]; exact hcB) hoB hclB hg (hsize.trans hml.symm) (argsL := As) (rest := rest) (fun sig h => hn.trans (hlen sig h)) hstack hW (by rw [hb]; exact hdg)
    (fun vm₁ hW₁ => ⟨hf.1, hf.2, hPc (T.setVm vm₁) hT hW₁⟩) with ⟨v, vm₁, ⟨U', l2, c2, s2⟩, hW₁, X', ⟨g', mk, t, L, e1, e2, hq, h1, hL, h2, h3⟩, st⟩ | ⟨q, vm₁, ⟨U', l2, c2, s2⟩, hW₁, X', ⟨g', mk, t, L, E, ce, e1, e2, hq, hce, hcv, hcl, h1, hL, h2, h3⟩, st⟩
  · dsimp only [Pt.U, Pt.locs, Pt.cells, Pt.slots] at X' e1 e2 h1 h2 h3 st
    subst h1; subst h2; subst h3
    exact Or.inl ⟨v, (T.setVm vm₁).calling g' mk (Value.ref b :: As).toArray, t, U', L, hT, X', hL, e1, e2, hq, st⟩
  · dsimp only [Pt.U, Pt.locs, Pt.cells, Pt.slots] at X' e1 e2 h1 h2 h3 st hcl
    subst h1; subst h2; subst h3
    exact Or.inr ⟨q, (T.setVm vm₁).calling g' mk (Value.ref b :: As).toArray, t, U', L, E, ce, hT, X', hL, e1, e2, hq, hce, hcv, vx_cls hW₁ hcl, st⟩
theorem vx_runS (S : CallFix p m c cc nL s args Ts own) (hM : vx_Met l y ws rm Pc Qc XC mc ms free) (cw : CallB R s args own index y bytes maxL ret ws rm mc ms n ∧ (Cond.static y).before args s = true) (hp : PreS s H Pc As)
    (hg : g.method = m) (hn : As.length = n) (hsize : g.locals.size = nL) (hstack : g.stack = As.reverse ++ rest) (hW : 2 * g.monitorRoom + (rest.map fun v => v.category).sum ≤ 8) (hdg : decode cc g.pc = .ok (.invokestatic index, 3)) (hf : cells + mc ≤ R.cells ∧ slots + ms ≤ R.slots) :
    vx_Run p l e R s m args below meth c H locs cells slots mc ms g rest (Qc As.toArray) XC free := by
  have hK : vx_Back l R p e below s args y 3 8 (PreOf R mc ms Pc) (PostOf Qc mc ms free) (vx_Post XC mc ms free) := vx_callBack cw.1 hM hp.1
  obtain ⟨⟨-, -, -, -, -, -, hcode, hini, hy, hlen, hl⟩, hstt⟩ := cw
  obtain ⟨hx, hb, hml, ho, -⟩ := S
  intro T hT X
  rcases vx_callS X hx (bytes := bytes) (maxL := maxL) (ret := ret) ho hl hstt hini hcode hy hK hg (hsize.trans hml.symm) (argsL := As) (rest := rest) (fun sig h => hn.trans (hlen sig h)) hstack hW (by rw [hb]; exact hdg)
    (fun vm₁ hW₁ => ⟨hf.1, hf.2, hp.2 (T.setVm vm₁) hT hW₁⟩) with ⟨v, vm₁, ⟨U', l2, c2, s2⟩, hW₁, X', ⟨g', mk, t, L, e1, e2, hq, h1, hL, h2, h3⟩, st⟩ | ⟨q, vm₁, ⟨U', l2, c2, s2⟩, hW₁, X', ⟨g', mk, t, L, E, ce, e1, e2, hq, hce, hcv, hcl, h1, hL, h2, h3⟩, st⟩
  · dsimp only [Pt.U, Pt.locs, Pt.cells, Pt.slots] at X' e1 e2 h1 h2 h3 st
    subst h1; subst h2; subst h3
    exact Or.inl ⟨v, (T.setVm vm₁).calling g' mk As.toArray, t, U', L, hT, X', hL, e1, e2, hq, st⟩
  · dsimp only [Pt.U, Pt.locs, Pt.cells, Pt.slots] at X' e1 e2 h1 h2 h3 st hcl
    subst h1; subst h2; subst h3
    exact Or.inr ⟨q, (T.setVm vm₁).calling g' mk As.toArray, t, U', L, E, ce, hT, X', hL, e1, e2, hq, hce, hcv, vx_cls hW₁ hcl, st⟩
end Runs
section Rows
variable {p : Program} {l : Launch} {e : Env} {R : Room} {s : State} {m : MethodId} {args : Array Value} {below : List Frame} {meth : Method} {c : Code} {H : Heap} {locs : List Loc} {cells slots : Nat} {Q : State → Prop}
variable {mc ms : Nat} {free : Addr → Prop} {A0 A1 : Nat → Prop} {H0 : Heap} {a : Array Value} {pc : Nat} {ls : Array Slot} {st0 rest : List Value}
theorem vx_keep {st₀ t T' : State} {L : List Loc} (h0 : st₀.heap = H) (e1 : T'.heap = t.heap) (hS : va_S A0 H0 H locs) (hA : ∀ q, q < H.size → A1 q → A0 q) (hf : ∀ q, free q → A0 q) (hL : ∀ q ∈ L, free q.base) (hF : va_F A1 st₀ t) :
    H.size ≤ T'.heap.size ∧ (∀ q : Nat, q < H.size → ¬ A1 q → T'.heap[q]? = H[q]?) ∧ va_S A0 H0 T'.heap (locs ++ L) := by
  obtain ⟨hz, hk⟩ := hF
  rw [h0] at hz hk
  exact ⟨by rw [e1]; exact hz, fun q h1 h2 => by rw [e1]; exact hk q h1 h2,
    ⟨Nat.le_trans hS.1 (by rw [e1]; exact hz), fun q h1 h2 => by rw [e1, hk q (Nat.lt_of_lt_of_le h1 hS.1) (fun z => h2 (hA q (Nat.lt_of_lt_of_le h1 hS.1) z))]; exact hS.2.1 q h1 h2, fun q hq => by
      rcases List.mem_append.mp hq with h | h
      · exact hS.2.2 q h
      · exact hf _ (hL q h)⟩⟩
theorem vx_calli {S SX : Type} {post : Int32 → S → Prop} {px : SX → Prop} {B : S → State → Prop} {BX : String → SX → State → Prop} {AX : Nat → Prop} (hr : vx_Run p l e R s m args below meth c H locs cells slots mc ms (F0 m pc ls st0) rest (va_Qi post B A1 a) (vx_X px BX AX) free) (hS : va_S A0 H0 H locs) (hA : ∀ q, q < H.size → A1 q → A0 q) (hf : ∀ q, free q → A0 q) (hAX : ∀ q, q < H.size → AX q → A0 q)
    (kx : ∀ (E : String) (ce : Cell) (q9 : Addr) (u : SX) (t : State) (H1 : Heap) (locs1 : List Loc), t.heap = H1 → s.vm.Alike t.vm → px u → BX E u t → H.size ≤ H1.size → (∀ q : Nat, q < H.size → ¬ AX q → H1[q]? = H[q]?) → va_S A0 H0 H1 locs1 → H1[q9]? = some ce → ce.vm = .none → s.vm.findClass E = some ce.cls → vx_W p l e R s m args below meth c H1 locs1 (cells + mc) (slots + ms) Q (F0 m pc ls rest) q9)
    (kk : ∀ (r : Int32) (u : S) (t : State) (H1 : Heap) (locs1 : List Loc), t.heap = H1 → s.vm.Alike t.vm → post r u → B u t → H.size ≤ H1.size → (∀ q : Nat, q < H.size → ¬ A1 q → H1[q]? = H[q]?) → va_S A0 H0 H1 locs1 → W p l e R s m args below meth c H1 locs1 (cells + mc) (slots + ms) Q (F0 m (pc + 3) ls (.int r :: rest))) : W p l e R s m args below meth c H locs cells slots Q (F0 m pc ls st0) := by
  intro T hT X
  rcases hr T hT X with ⟨v, st₀, t, T', L, h0, X', hL, e1, e2, ⟨⟨r, u, hv, hp, hb⟩, hF⟩, st⟩ | ⟨q, st₀, t, T', L, E, ce, h0, X', hL, e1, e2, ⟨u, hp, hb, hF⟩, hce, hcv, hcl, st⟩
  · cases hv
    obtain ⟨k1, k2, k3⟩ := vx_keep h0 e1 hS hA hf hL hF
    obtain ⟨t2, a1, b1⟩ := kk r u t T'.heap (locs ++ L) e1.symm (by rw [← e2]; exact X'.warmed.alike) hp hb k1 k2 k3 T' rfl X'
    exact ⟨t2, st t2 a1, b1⟩
  · obtain ⟨k1, k2, k3⟩ := vx_keep h0 e1 hS hAX hf hL hF
    obtain ⟨t2, a1, b1⟩ := kx E ce q u t T'.heap (locs ++ L) e1.symm (by rw [← e2]; exact X'.warmed.alike) hp hb k1 k2 k3 (by rw [e1]; exact hce) hcv hcl T' rfl X'
    exact ⟨t2, st.trans a1, b1⟩
theorem vx_calll {S SX : Type} {post : Int64 → S → Prop} {px : SX → Prop} {B : S → State → Prop} {BX : String → SX → State → Prop} {AX : Nat → Prop} (hr : vx_Run p l e R s m args below meth c H locs cells slots mc ms (F0 m pc ls st0) rest (va_Ql post B A1 a) (vx_X px BX AX) free) (hS : va_S A0 H0 H locs) (hA : ∀ q, q < H.size → A1 q → A0 q) (hf : ∀ q, free q → A0 q) (hAX : ∀ q, q < H.size → AX q → A0 q)
    (kx : ∀ (E : String) (ce : Cell) (q9 : Addr) (u : SX) (t : State) (H1 : Heap) (locs1 : List Loc), t.heap = H1 → s.vm.Alike t.vm → px u → BX E u t → H.size ≤ H1.size → (∀ q : Nat, q < H.size → ¬ AX q → H1[q]? = H[q]?) → va_S A0 H0 H1 locs1 → H1[q9]? = some ce → ce.vm = .none → s.vm.findClass E = some ce.cls → vx_W p l e R s m args below meth c H1 locs1 (cells + mc) (slots + ms) Q (F0 m pc ls rest) q9)
    (kk : ∀ (r : Int64) (u : S) (t : State) (H1 : Heap) (locs1 : List Loc), t.heap = H1 → s.vm.Alike t.vm → post r u → B u t → H.size ≤ H1.size → (∀ q : Nat, q < H.size → ¬ A1 q → H1[q]? = H[q]?) → va_S A0 H0 H1 locs1 → W p l e R s m args below meth c H1 locs1 (cells + mc) (slots + ms) Q (F0 m (pc + 3) ls (.long r :: rest))) : W p l e R s m args below meth c H locs cells slots Q (F0 m pc ls st0) := by
  intro T hT X
  rcases hr T hT X with ⟨v, st₀, t, T', L, h0, X', hL, e1, e2, ⟨⟨r, u, hv, hp, hb⟩, hF⟩, st⟩ | ⟨q, st₀, t, T', L, E, ce, h0, X', hL, e1, e2, ⟨u, hp, hb, hF⟩, hce, hcv, hcl, st⟩
  · cases hv
    obtain ⟨k1, k2, k3⟩ := vx_keep h0 e1 hS hA hf hL hF
    obtain ⟨t2, a1, b1⟩ := kk r u t T'.heap (locs ++ L) e1.symm (by rw [← e2]; exact X'.warmed.alike) hp hb k1 k2 k3 T' rfl X'
    exact ⟨t2, st t2 a1, b1⟩
  · obtain ⟨k1, k2, k3⟩ := vx_keep h0 e1 hS hAX hf hL hF
    obtain ⟨t2, a1, b1⟩ := kx E ce q u t T'.heap (locs ++ L) e1.symm (by rw [← e2]; exact X'.warmed.alike) hp hb k1 k2 k3 (by rw [e1]; exact hce) hcv hcl T' rfl X'
    exact ⟨t2, st.trans a1, b1⟩
theorem vx_callf {S SX : Type} {post : UInt32 → S → Prop} {px : SX → Prop} {B : S → State → Prop} {BX : String → SX → State → Prop} {AX : Nat → Prop} (hr : vx_Run p l e R s m args below meth c H locs cells slots mc ms (F0 m pc ls st0) rest (va_Qf post B A1 a) (vx_X px BX AX) free) (hS : va_S A0 H0 H locs) (hA : ∀ q, q < H.size → A1 q → A0 q) (hf : ∀ q, free q → A0 q) (hAX : ∀ q, q < H.size → AX q → A0 q)
    (kx : ∀ (E : String) (ce : Cell) (q9 : Addr) (u : SX) (t : State) (H1 : Heap) (locs1 : List Loc), t.heap = H1 → s.vm.Alike t.vm → px u → BX E u t → H.size ≤ H1.size → (∀ q : Nat, q < H.size → ¬ AX q → H1[q]? = H[q]?) → va_S A0 H0 H1 locs1 → H1[q9]? = some ce → ce.vm = .none → s.vm.findClass E = some ce.cls → vx_W p l e R s m args below meth c H1 locs1 (cells + mc) (slots + ms) Q (F0 m pc ls rest) q9)
    (kk : ∀ (r : UInt32) (u : S) (t : State) (H1 : Heap) (locs1 : List Loc), t.heap = H1 → s.vm.Alike t.vm → post r u → B u t → H.size ≤ H1.size → (∀ q : Nat, q < H.size → ¬ A1 q → H1[q]? = H[q]?) → va_S A0 H0 H1 locs1 → W p l e R s m args below meth c H1 locs1 (cells + mc) (slots + ms) Q (F0 m (pc + 3) ls (.float r :: rest))) : W p l e R s m args below meth c H locs cells slots Q (F0 m pc ls st0) := by
  intro T hT X
  rcases hr T hT X with ⟨v, st₀, t, T', L, h0, X', hL, e1, e2, ⟨⟨r, u, hv, hp, hb⟩, hF⟩, st⟩ | ⟨q, st₀, t, T', L, E, ce, h0, X', hL, e1, e2, ⟨u, hp, hb, hF⟩, hce, hcv, hcl, st⟩
  · cases hv
    obtain ⟨k1, k2, k3⟩ := vx_keep h0 e1 hS hA hf hL hF
    obtain ⟨t2, a1, b1⟩ := kk r u t T'.heap (locs ++ L) e1.symm (by rw [← e2]; exact X'.warmed.alike) hp hb k1 k2 k3 T' rfl X'
    exact ⟨t2, st t2 a1, b1⟩
  · obtain ⟨k1, k2, k3⟩ := vx_keep h0 e1 hS hAX hf hL hF
    obtain ⟨t2, a1, b1⟩ := kx E ce q u t T'.heap (locs ++ L) e1.symm (by rw [← e2]; exact X'.warmed.alike) hp hb k1 k2 k3 (by rw [e1]; exact hce) hcv hcl T' rfl X'
    exact ⟨t2, st.trans a1, b1⟩
theorem vx_calld {S SX : Type} {post : UInt64 → S → Prop} {px : SX → Prop} {B : S → State → Prop} {BX : String → SX → State → Prop} {AX : Nat → Prop} (hr : vx_Run p l e R s m args below meth c H locs cells slots mc ms (F0 m pc ls st0) rest (va_Qd post B A1 a) (vx_X px BX AX) free) (hS : va_S A0 H0 H locs) (hA : ∀ q, q < H.size → A1 q → A0 q) (hf : ∀ q, free q → A0 q) (hAX : ∀ q, q < H.size → AX q → A0 q)
    (kx : ∀ (E : String) (ce : Cell) (q9 : Addr) (u : SX) (t : State) (H1 : Heap) (locs1 : List Loc), t.heap = H1 → s.vm.Alike t.vm → px u → BX E u t → H.size ≤ H1.size → (∀ q : Nat, q < H.size → ¬ AX q → H1[q]? = H[q]?) → va_S A0 H0 H1 locs1 → H1[q9]? = some ce → ce.vm = .none → s.vm.findClass E = some ce.cls → vx_W p l e R s m args below meth c H1 locs1 (cells + mc) (slots + ms) Q (F0 m pc ls rest) q9)
    (kk : ∀ (r : UInt64) (u : S) (t : State) (H1 : Heap) (locs1 : List Loc), t.heap = H1 → s.vm.Alike t.vm → post r u → B u t → H.size ≤ H1.size → (∀ q : Nat, q < H.size → ¬ A1 q → H1[q]? = H[q]?) → va_S A0 H0 H1 locs1 → W p l e R s m args below meth c H1 locs1 (cells + mc) (slots + ms) Q (F0 m (pc + 3) ls (.double r :: rest))) : W p l e R s m args below meth c H locs cells slots Q (F0 m pc ls st0) := by
  intro T hT X
  rcases hr T hT X with ⟨v, st₀, t, T', L, h0, X', hL, e1, e2, ⟨⟨r, u, hv, hp, hb⟩, hF⟩, st⟩ | ⟨q, st₀, t, T', L, E, ce, h0, X', hL, e1, e2, ⟨u, hp, hb, hF⟩, hce, hcv, hcl, st⟩
  · cases hv
    obtain ⟨k1, k2, k3⟩ := vx_keep h0 e1 hS hA hf hL hF
    obtain ⟨t2, a1, b1⟩ := kk r u t T'.heap (locs ++ L) e1.symm (by rw [← e2]; exact X'.warmed.alike) hp hb k1 k2 k3 T' rfl X'
    exact ⟨t2, st t2 a1, b1⟩
  · obtain ⟨k1, k2, k3⟩ := vx_keep h0 e1 hS hAX hf hL hF
    obtain ⟨t2, a1, b1⟩ := kx E ce q u t T'.heap (locs ++ L) e1.symm (by rw [← e2]; exact X'.warmed.alike) hp hb k1 k2 k3 (by rw [e1]; exact hce) hcv hcl T' rfl X'
    exact ⟨t2, st.trans a1, b1⟩
theorem vx_callv {S SX : Type} {post : S → Prop} {px : SX → Prop} {B : S → State → Prop} {BX : String → SX → State → Prop} {AX : Nat → Prop} (hr : vx_Run p l e R s m args below meth c H locs cells slots mc ms (F0 m pc ls st0) rest (va_Qv post B A1 a) (vx_X px BX AX) free) (hS : va_S A0 H0 H locs) (hA : ∀ q, q < H.size → A1 q → A0 q) (hf : ∀ q, free q → A0 q) (hAX : ∀ q, q < H.size → AX q → A0 q)
    (kx : ∀ (E : String) (ce : Cell) (q9 : Addr) (u : SX) (t : State) (H1 : Heap) (locs1 : List Loc), t.heap = H1 → s.vm.Alike t.vm → px u → BX E u t → H.size ≤ H1.size → (∀ q : Nat, q < H.size → ¬ AX q → H1[q]? = H[q]?) → va_S A0 H0 H1 locs1 → H1[q9]? = some ce → ce.vm = .none → s.vm.findClass E = some ce.cls → vx_W p l e R s m args below meth c H1 locs1 (cells + mc) (slots + ms) Q (F0 m pc ls rest) q9)
    (kk : ∀ (u : S) (t : State) (H1 : Heap) (locs1 : List Loc), t.heap = H1 → s.vm.Alike t.vm → post u → B u t → H.size ≤ H1.size → (∀ q : Nat, q < H.size → ¬ A1 q → H1[q]? = H[q]?) → va_S A0 H0 H1 locs1 → W p l e R s m args below meth c H1 locs1 (cells + mc) (slots + ms) Q (F0 m (pc + 3) ls (rest))) : W p l e R s m args below meth c H locs cells slots Q (F0 m pc ls st0) := by
  intro T hT X
  rcases hr T hT X with ⟨v, st₀, t, T', L, h0, X', hL, e1, e2, ⟨⟨u, hv, hp, hb⟩, hF⟩, st⟩ | ⟨q, st₀, t, T', L, E, ce, h0, X', hL, e1, e2, ⟨u, hp, hb, hF⟩, hce, hcv, hcl, st⟩
  · cases hv
    obtain ⟨k1, k2, k3⟩ := vx_keep h0 e1 hS hA hf hL hF
    obtain ⟨t2, a1, b1⟩ := kk u t T'.heap (locs ++ L) e1.symm (by rw [← e2]; exact X'.warmed.alike) hp hb k1 k2 k3 T' rfl X'
    exact ⟨t2, st t2 a1, b1⟩
  · obtain ⟨k1, k2, k3⟩ := vx_keep h0 e1 hS hAX hf hL hF
    obtain ⟨t2, a1, b1⟩ := kx E ce q u t T'.heap (locs ++ L) e1.symm (by rw [← e2]; exact X'.warmed.alike) hp hb k1 k2 k3 (by rw [e1]; exact hce) hcv hcl T' rfl X'
    exact ⟨t2, st.trans a1, b1⟩
/-- caught by the row x of this method's table; the rows ahead don't take it -/
theorem vx_catch {own name : String} {E : String} {ce : Cell} {q : Addr} (hown : s.vm.findClass own = some m.cls) (pre : List ExceptionTableEntry) (x : ExceptionTableEntry) (suf : List ExceptionTableEntry) (hsplit : c.exceptionTable.toList = pre ++ x :: suf)
    (hpass : ∀ z ∈ pre, covers z pc = false ∨ (z.catchType ≠ 0 ∧ ∃ nm : String, (Cond.classLink own z.catchType nm).before args s = true ∧ va_Nc E nm s)) (hx : covers x pc = true) (h0 : x.catchType ≠ 0)
    (hlink : (Cond.classLink own x.catchType name).before args s = true) (hcast : (Cond.castable E name).before args s = true) (hcell : H[q]? = some ce) (hv : ce.vm = .none) (hcl : s.vm.findClass E = some ce.cls)
    (kk : W p l e R s m args below meth c H locs cells slots Q (F0 m x.handlerPc ls [.ref q])) : vx_W p l e R s m args below meth c H locs cells slots Q (F0 m pc ls rest) q := by
  intro T hT X
  have hpl : e.platform.magicAccessors = ({} : Platform).magicAccessors := by rw [X.admits.platform]
  obtain ⟨c3, c4, hc3, hc4, hasg⟩ := Cond.castable_spec hcast
  cases Option.some.inj (hc3.symm.trans hcl)
  obtain ⟨c5, hc5, hcl5⟩ := Cond.classLink_spec hown hlink e.platform hpl
  cases Option.some.inj (hc4.symm.trans hc5)
  obtain ⟨vm', X', st⟩ := X.thenCaughtThrough q (g := F0 m pc ls rest) rfl (Steps.refl _) (by rw [hT]; exact hcell) (by rw [hv]; rfl) (by obtain ⟨k9, h9, -⟩ := Vm.findClass_spec hcl; exact ⟨k9, h9⟩) pre x suf hsplit
    (fun z hz => by
      rcases hpass z hz with h | ⟨hz0, nm, hl1, hn1⟩
      · exact Or.inl h
      · obtain ⟨c6, hc6, hcl6⟩ := Cond.classLink_spec hown hl1 e.platform hpl
        obtain ⟨a8, b8, h1, h2, h3⟩ := hn1
        cases Option.some.inj (h1.symm.trans hcl)
        cases Option.some.inj (h2.symm.trans hc6)
        exact Or.inr ⟨hz0, _, hcl6, h3⟩) hx (Or.inr ⟨h0, c4, hcl5, hasg⟩)
  obtain ⟨t, a1, b1⟩ := kk (T.setVm vm') hT X'
  exact ⟨t, st.trans a1, b1⟩
end Rows
section Ends
variable {p : Program} {l : Launch} {e : Env} {R : Room} {s : State} {m : MethodId} {args : Array Value} {below : List Frame} {meth : Method} {c : Code} {H : Heap} {locs : List Loc} {cells slots : Nat} {Q : State → Prop}
variable {mc ms : Nat} {free : Addr → Prop} {A0 A1 : Nat → Prop} {H0 : Heap} {a : Array Value} {ls : Array Slot} {st0 rest : List Value}
variable {Qc : Array Value → State → Outcome → State → Prop} {XC : String → State → State → Prop}
/-- what a body that may throw owes at its end -/
def vx_MQ (below : List Frame) (Qc : Array Value → State → Outcome → State → Prop) (XC : String → State → State → Prop) (a : Array Value) (s : State) (mc ms : Nat) (free : Addr → Prop) : State → Prop := fun t =>
  ∃ o, t.status = .running ∧ Ended t below o ∧ vx_Q Qc XC mc ms free a s o t
theorem vx_ret {g : JFrame} {mc ms : Nat} (k : W p l e R s m args below meth c H locs cells slots (MQ below Qc args s mc ms free) g) : W p l e R s m args below meth c H locs cells slots (vx_MQ below Qc XC args s mc ms free) g := by
  intro T hT X
  obtain ⟨t, a1, o, b1, b2, b3, b4⟩ := k T hT X
  exact ⟨t, a1, o, b1, b2, Or.inl ⟨b3, b4⟩⟩
/-- not caught here: it goes on to the caller -/
theorem vx_widen {g : JFrame} {q : Addr} {k n : Nat} (h1 : cells ≤ k) (h2 : slots ≤ n) (kk : vx_W p l e R s m args below meth c H locs k n Q g q) : vx_W p l e R s m args below meth c H locs cells slots Q g q := fun T hT X => kk T hT (stand_widen X h1 h2)
theorem vx_out {pc : Nat} {E : String} {ce : Cell} {q : Addr} {mc ms : Nat} (hout : ∀ x ∈ c.exceptionTable.toList, covers x pc = false) (hlocks : meth.locks = false) (hcell : H[q]? = some ce) (hv : ce.vm = .none) (hcl : s.vm.findClass E = some ce.cls)
    (hx : ∀ t : State, t.heap = H → s.vm.Alike t.vm → XC E s t) (hf : ∀ z ∈ locs, free z.base) (hc : cells ≤ mc) (hs : slots ≤ ms) :
    vx_W p l e R s m args below meth c H locs cells slots (vx_MQ below Qc XC args s mc ms free) (F0 m pc ls rest) q := by
  intro T hT X
  obtain ⟨st1, hrun, hend, hW, hsm⟩ := X.leaveThrown q (g := F0 m pc ls rest) rfl rfl rfl hout hlocks
  have hcell9 : (T.setFrames (.throwing q :: below)).heap[q]? = some ce := by
    show T.heap[q]? = some ce
    rw [hT]; exact hcell
  exact ⟨_, st1, .threw q, hrun, hend, Or.inr ⟨q, rfl, E, ce, locs, hx _ hT hW.alike, hcell9, hv, hcl, hW, hsm.mono hc hs, hf⟩⟩
theorem vx_frame {U : State} {k n : Nat} (h : s.sameButNew ({ U with vm := s.vm } : State) locs k n) : s.heap.size ≤ U.heap.size ∧ ∀ q : Nat, q < s.heap.size → (∀ z ∈ locs, z.base ≠ q) → U.heap[q]? = s.heap[q]? := by
  obtain ⟨-, h2, -, -, -, h6⟩ := h
  refine ⟨h2, fun q hq hz => ?_⟩
  obtain ⟨c9, e1, e2, e3, e4⟩ := h6 q _ (Array.getElem?_eq_getElem hq)
  have hs : c9.slots = (s.heap[q]).slots := Array.ext_getElem? fun i => e4 i fun hm => hz _ hm rfl
  have h9 : c9 = s.heap[q] := by
    rw [hs] at e2
    exact e2
  have e5 : U.heap[q]? = some c9 := e1
  rw [e5, h9, Array.getElem?_eq_getElem hq]
/-- the words of a throw but the four that speak of the heap -/
def vx_no (w : Cond) : Bool := decide (w ≠ .isRef (.static Bundle.tN "UNASSIGNED_STACK" Bundle.steD)) && decide (w ≠ .isRef (.static Bundle.tN "SUPPRESSED_SENTINEL" Bundle.listD)) && decide (w ≠ .laysStatic Bundle.tN "UNASSIGNED_STACK" Bundle.steD) && decide (w ≠ .laysStatic Bundle.tN "SUPPRESSED_SENTINEL" Bundle.listD)
def vx_at0 (own : String) (ic : Nat) (X : String) (names : List String) : List Cond := (Bundle.ownAtoms0 own ic X names).filter vx_no
def vx_atS (own : String) (ic : Nat) (X : String) (names : List String) : List Cond := (Bundle.ownAtoms own ic X names).filter vx_no
/-- a word that the tables alone decide, or a good one -/
def vx_ot (w : Cond) : Bool := w.onTables || goodWord w
theorem vx_ot_at {args a' : Array Value} {s U : State} {w : Cond} (hW : s.WarmedH U.vm) (hvm : s.vm = U.vm) (hg : vx_ot w = true) (h : w.before args s = true) : w.before a' U = true := by
  simp only [vx_ot, Bool.or_eq_true] at hg
  rcases hg with hg | hg
  · exact va_tabs hg hvm h
  · exact word_at hW (good_of_word hg) h
/-- a list's words: the good ones out of the method's own list, the others by premises of their own -/
theorem vx_hat {args : Array Value} {s : State} {L B : List Cond} (h1 : ∀ w ∈ L.filter goodWord, w.before args s = true) (h2 : ∀ w ∈ L.filter (fun w => !goodWord w), w ∈ B) (h3 : ∀ w ∈ B, w.before args s = true) : ∀ w ∈ L, w.before args s = true := by
  intro w hw
  by_cases g : goodWord w = true
  · exact h1 w (List.mem_filter.mpr ⟨hw, g⟩)
  · refine h3 w (h2 w (List.mem_filter.mpr ⟨hw, ?_⟩))
    show (!goodWord w) = true
    cases hgw : goodWord w
    · rfl
    · exact absurd hgw g
theorem vx_c {args : Array Value} {s : State} {w : Cond} {B : List Cond} (h : w.before args s = true) (t : ∀ w ∈ B, w.before args s = true) : ∀ w' ∈ w :: B, w'.before args s = true := fun w' h' => (List.mem_cons.mp h').elim (fun e => by rw [e]; exact h) (t w')
theorem vx_n {args : Array Value} {s : State} : ∀ w ∈ ([] : List Cond), w.before args s = true := fun _ h => nomatch h
theorem vx_own {args : Array Value} {s : State} {L : List Cond} (h1 : ∀ w ∈ L.filter vx_no, w.before args s = true)
    (hU : (Cond.isRef (.static Bundle.tN "UNASSIGNED_STACK" Bundle.steD)).before args s = true) (hN : (Cond.isRef (.static Bundle.tN "SUPPRESSED_SENTINEL" Bundle.listD)).before args s = true)
    (lU : (Cond.laysStatic Bundle.tN "UNASSIGNED_STACK" Bundle.steD).before args s = true) (lN : (Cond.laysStatic Bundle.tN "SUPPRESSED_SENTINEL" Bundle.listD).before args s = true) : ∀ w ∈ L, w.before args s = true := by
  intro w hw
  by_cases e1 : w = .isRef (.static Bundle.tN "UNASSIGNED_STACK" Bundle.steD)
  · rw [e1]; exact hU
  · by_cases e2 : w = .isRef (.static Bundle.tN "SUPPRESSED_SENTINEL" Bundle.listD)
    · rw [e2]; exact hN
    · by_cases e3 : w = .laysStatic Bundle.tN "UNASSIGNED_STACK" Bundle.steD
      · rw [e3]; exact lU
      · by_cases e4 : w = .laysStatic Bundle.tN "SUPPRESSED_SENTINEL" Bundle.listD
        · rw [e4]; exact lN
        · exact h1 w (List.mem_filter.mpr ⟨hw, by unfold vx_no; rw [decide_eq_true e1, decide_eq_true e2, decide_eq_true e3, decide_eq_true e4]; rfl⟩)
/-- where a static field lies, its class's statics cell in H -/
def vx_L (C n d : String) (A : Nat → Prop) (U : State) (H : Heap) : Prop := ∃ (c : ClassId) (k : Class) (i : Nat) (f : Field) (a : Nat) (cell : Cell), U.vm.findClass C = some c ∧ U.fieldFound? C n d = some (c, k, i, f) ∧ f.isStatic = true ∧ k.statics = some a ∧ H[a]? = some cell ∧ cell.vm.isStatics = true ∧ cell.cls = c ∧ f.slot < cell.slots.size ∧ k.staticTypes[f.slot]? = some f.type ∧ ¬ A a
theorem vx_L.moved {C n d : String} {A : Nat → Prop} {u U : State} {H : Heap} (hvm : u.vm.Alike U.vm) (h : vx_L C n d A u H) : vx_L C n d A U H := by
  obtain ⟨c, k, i, f, a, cell, h1, h2, h3, h4, h5, h6, h7, h8, h9, h10⟩ := h
  obtain ⟨k', hi', he⟩ := State.fieldFound?_setVm hvm h2
  exact ⟨c, k', i, f, a, cell, by rw [hvm.findClass]; exact h1, hi', h3, by rw [he]; exact h4, h5, h6, h7, h8, by rw [he]; exact h9, h10⟩
theorem vx_L.kept {C n d : String} {A : Nat → Prop} {U : State} {H H1 : Heap} (h : vx_L C n d A U H) (hq : ∀ a : Nat, a < H.size → ¬ A a → H1[a]? = H[a]?) : vx_L C n d A U H1 := by
  obtain ⟨c, k, i, f, a, cell, h1, h2, h3, h4, h5, h6, h7, h8, h9, h10⟩ := h
  exact ⟨c, k, i, f, a, cell, h1, h2, h3, h4, by rw [hq a (Array.getElem?_eq_some_iff.mp h5).1 h10]; exact h5, h6, h7, h8, h9, h10⟩
theorem vx_L.narrow {C n d : String} {A B : Nat → Prop} {U : State} {H : Heap} (h : vx_L C n d A U H) (hAB : ∀ q, B q → A q) : vx_L C n d B U H := by
  obtain ⟨c, k, i, f, a, cell, h1, h2, h3, h4, h5, h6, h7, h8, h9, h10⟩ := h
  exact ⟨c, k, i, f, a, cell, h1, h2, h3, h4, h5, h6, h7, h8, h9, fun z => h10 (hAB _ z)⟩
theorem vx_L.word {C n d : String} {A : Nat → Prop} {s : State} {args : Array Value} (h : vx_L C n d A s s.heap) : (Cond.laysStatic C n d).before args s = true := by
  obtain ⟨c, k, i, f, a, cell, h1, h2, h3, h4, h5, h6, h7, h8, h9, -⟩ := h
  show (Cond.laysStatic C n d).holds args s none s [] = true
  exact Cond.laysStatic_of h1 h2 h3 h4 h5 h6 h7 h8 h9
/-- .. and what it holds: null or some reference -/
def vx_Zq (C n d : String) (A : Nat → Prop) (U : State) (H : Heap) : Prop := va_Zq C n d A U H ∧ vx_L C n d A U H
theorem vx_Zq.moved {C n d : String} {A : Nat → Prop} {u U : State} {H : Heap} (hvm : u.vm.Alike U.vm) (h : vx_Zq C n d A u H) : vx_Zq C n d A U H := ⟨va_Zq.moved hvm h.1, vx_L.moved hvm h.2⟩
theorem vx_Zq.kept {C n d : String} {A : Nat → Prop} {U : State} {H H1 : Heap} (h : vx_Zq C n d A U H) (hq : ∀ a : Nat, a < H.size → ¬ A a → H1[a]? = H[a]?) : vx_Zq C n d A U H1 := ⟨va_Zq.kept h.1 hq, vx_L.kept h.2 hq⟩
theorem vx_Zq.narrow {C n d : String} {A B : Nat → Prop} {U : State} {H : Heap} (h : vx_Zq C n d A U H) (hAB : ∀ q, B q → A q) : vx_Zq C n d B U H := ⟨va_Zq.narrow h.1 hAB, vx_L.narrow h.2 hAB⟩
theorem vx_Zqof {args : Array Value} {s : State} {C n d : String} {A : Nat → Prop} (hl : (Cond.laysStatic C n d).before args s = true) (hini : (Cond.initialized C).before args s = true) (h : (Cond.isRef (.static C n d)).before args s = true) (hA : ∀ a : Nat, a < s.heap.size → ¬ A a) : vx_Zq C n d A s s.heap := by
  refine ⟨va_Zqof hl hini h hA, ?_⟩
  obtain ⟨c, k, i, f, a, cell, h1, h2, h3, h4, h5, h6, h7, h8, h9⟩ := Cond.laysStatic_spec hl
  exact ⟨c, k, i, f, a, cell, h1, h2, h3, h4, h5, h6, h7, h8, h9, hA a (Array.getElem?_eq_some_iff.mp h5).1⟩
theorem vx_isRef {C n d : String} {v : Value} {A : Nat → Prop} {s : State} {args : Array Value} (h : va_Z C n d v A s s.heap) (hv : v.isRef = true) : (Cond.isRef (.static C n d)).before args s = true := by
  obtain ⟨cf, kf, fi, f, a, cell, h1, h2, h3, h4, h5, h6, h7, -⟩ := h
  have he : (Term.static C n d).eval args s none [] s = some v := by
    simp [Term.eval, State.fieldNamed?, h1, h2, h4, h5, h6, h7]
  simp only [Cond.before, Cond.holds, Cond.value, he]
  cases v <;> simp_all [Value.isRef]
theorem vx_isRefq {C n d : String} {A : Nat → Prop} {s : State} {args : Array Value} (h : va_Zq C n d A s s.heap) : (Cond.isRef (.static C n d)).before args s = true := by
  rcases h with h | ⟨t, h⟩
  · exact vx_isRef h rfl
  · exact vx_isRef h rfl
/-- the same frame, seen from here: as if the method were called anew in this heap -/
theorem vx_rebase {T : State} (X : Stand p l e R s m args below meth c T locs cells slots) {R' : Room} (hf : R'.frames ≤ R.frames) (hl : R'.locals ≤ R.locals) (hc : cells + R'.cells ≤ R.cells) (hs : slots + R'.slots ≤ R.slots) :
    Stand p l e R' ((T.setVm s.vm).setFrames (.invoking m args :: below)) m args below meth c T [] 0 0 := by
  have htop : (T.setVm s.vm).topJava?.isSome := X.here.top
  have hF : ((T.setVm s.vm).setFrames (.invoking m args :: below)).frames = .invoking m args :: below := State.frames_setFrames _ (State.cur_lt_of_top htop)
  obtain ⟨g₀, hg0⟩ := Option.isSome_iff_exists.mp htop
  obtain ⟨r, hr⟩ := State.topJava?_eq_some.mp hg0
  have hl9 : e.platform.stackLimits (T.setVm s.vm).me = e.platform.stackLimits s.me := X.limits
  have hb9 : (T.setVm s.vm).me.stackBytes = s.me.stackBytes := X.bytes
  refine ⟨X.admits, X.cas, X.clock, hF, ?_, X.hears, X.method, X.code, X.here, X.tail, X.warmed, ?_, ?_, ?_⟩
  · have h := X.room
    have hU : ((T.setVm s.vm).setFrames (.invoking m args :: below)).localsInUse = s.localsInUse := by
      rw [State.localsInUse_invoking hF (meth := meth) (c := c) X.method X.code, State.localsInUse_invoking X.frames X.method X.code]
    simp only [State.hasRoom, Bool.and_eq_true, decide_eq_true_eq] at h ⊢
    obtain ⟨⟨⟨⟨h1, h2, h3, h4, h5, h6⟩, h7⟩, h8⟩, h9⟩ := h
    rw [X.frames, List.length_cons] at h2 h3
    have q1 := X.heapSize
    have q2 := X.used
    simp only [hF, hU, List.length_cons, State.stackLimits_setFrames, State.stackBytes_setFrames, hl9, hb9]
    refine ⟨⟨⟨⟨by omega, by omega, by omega, by omega, by omega, h6⟩, ?_⟩, ?_⟩, X.book⟩
    · show T.heap.size + R'.cells ≤ e.platform.maxCells
      omega
    · show T.slotsUsed + R'.slots ≤ e.platform.maxSlots
      omega
  · rw [State.stackLimits_setFrames]; rfl
  · rw [State.stackBytes_setFrames]; rfl
  · refine ⟨?_, Nat.le_refl _, Nat.le_refl _, ?_, ?_, fun a c9 h9 => ⟨c9, h9, rfl, rfl, fun _ _ => rfl⟩⟩
    · obtain ⟨t, ht, -⟩ := State.frames_cons hr
      show T.setVm s.vm = { ((T.setVm s.vm).setFrames (.invoking m args :: below)).setFrames (T.setVm s.vm).frames with heap := T.heap, slotsUsed := T.slotsUsed }
      rw [State.setFrames_setFrames, State.setFrames_self ht]
      rfl
    · show T.slotsUsed = T.slotsUsed + ((T.heap.toList.drop T.heap.size).map (·.slots.size)).sum
      rw [List.drop_eq_nil_of_le (Nat.le_of_eq Array.length_toList)]
      rfl
    · show ((T.heap.toList.drop T.heap.size).map (·.slots.size)).sum ≤ 0
      rw [List.drop_eq_nil_of_le (Nat.le_of_eq Array.length_toList)]
      exact Nat.le_refl _
/-- 'throw new E()': new; dup; invokespecial; athrow -/
theorem vx_throw0 {cc : ByteArray} {pc : Nat} (hexec : p.tables.exec = Jvm.exec) (hb : c.code = cc) (hl : l.stackTraces = false) {own cls : String} {names : List String} {ik ic mc ms : Nat} {A : Nat → Prop}
    (hown : s.vm.findClass own = some m.cls) (hcls : Bundle.fit cls = true) (hnames : ∀ n ∈ names, Bundle.fit n = true)
    (hk : (Cond.classLink own ik cls).before args s = true) (hini : (Cond.initialized cls).before args s = true) (hat : ∀ w ∈ vx_at0 own ic cls names, w.before args s = true)
    (hgood : ∀ w ∈ Cond.classLink own ik cls :: Cond.initialized cls :: vx_at0 own ic cls names, vx_ot w = true)
    (hU : vx_Zq Bundle.tN "UNASSIGNED_STACK" Bundle.steD A s s.heap) (hN : vx_Zq Bundle.tN "SUPPRESSED_SENTINEL" Bundle.listD A s s.heap) (hS : va_S A s.heap H locs) (hsize : ls.size = c.maxLocals)
    (d0 : decode cc pc = .ok (.new ik, 3)) (d3 : decode cc (pc + 3) = .ok (.dup, 1)) (d4 : decode cc (pc + 4) = .ok (.invokespecial ic, 3)) (d7 : decode cc (pc + 7) = .ok (.athrow, 1))
    (hout : ∀ x ∈ c.exceptionTable.toList, covers x (pc + 7) = false)
    (hRframes : names.length + 3 < R.frames) (hRlocals : (rest.map fun v => v.category).sum + (13 * (names.length + 1) + 42) ≤ R.locals) (hRcells : cells + 1 ≤ R.cells) (hRslots : slots + 6 ≤ R.slots) (hlocks : meth.locks = false)
    (hx : ∀ t : State, s.vm.Alike t.vm → H.size ≤ t.heap.size → (∀ q : Nat, q < H.size → t.heap[q]? = H[q]?) → XC cls s t)
    (hf : ∀ z ∈ locs, free z.base) (hc : cells + 1 ≤ mc) (hs : slots + 6 ≤ ms) :
    W p l e R s m args below meth c H locs cells slots (vx_MQ below Qc XC args s mc ms free) (F0 m pc ls rest) := by
  intro T hT X
  have htr : e.platform.stackTraces = false := (show e.platform.stackTraces = l.stackTraces by rw [X.admits.platform]).trans hl
  have Y := vx_rebase X (R' := { frames := R.frames, locals := R.locals, cells := 1, slots := 6 }) (Nat.le_refl _) (Nat.le_refl _) hRcells hRslots
  obtain ⟨s', hA⟩ : ∃ z, z = (T.setVm s.vm).setFrames (.invoking m args :: below) := ⟨_, rfl⟩
  rw [← hA] at Y
  have hvm : s'.vm = s.vm := by rw [hA]; rfl
  have hhp : s'.heap = H := by rw [hA]; exact hT
  have hW0 : s.WarmedH s'.vm := by rw [hvm]; exact State.WarmedH.refl s
  have hat' : ∀ w ∈ vx_at0 own ic cls names, w.before args s' = true := fun w hw => vx_ot_at hW0 hvm.symm (hgood w (List.mem_cons_of_mem _ (List.mem_cons_of_mem _ hw))) (hat w hw)
  have hk' : (Cond.classLink own ik cls).before args s' = true := vx_ot_at hW0 hvm.symm (hgood _ List.mem_cons_self) hk
  have hini' : (Cond.initialized cls).before args s' = true := vx_ot_at hW0 hvm.symm (hgood _ (List.mem_cons_of_mem _ List.mem_cons_self)) hini
  have hU' : vx_Zq Bundle.tN "UNASSIGNED_STACK" Bundle.steD A s' s'.heap := by rw [hhp]; exact vx_Zq.moved hW0.alike (hU.kept hS.2.1)
  have hN' : vx_Zq Bundle.tN "SUPPRESSED_SENTINEL" Bundle.listD A s' s'.heap := by rw [hhp]; exact vx_Zq.moved hW0.alike (hN.kept hS.2.1)
  have h : ∀ w ∈ Bundle.ownAtoms0 own ic cls names, w.before args s' = true := vx_own hat' (vx_isRefq hU'.1) (vx_isRefq hN'.1) hU'.2.word hN'.2.word
  have hown' : s'.vm.findClass own = some m.cls := by rw [hvm]; exact hown
  have hins : (Cond.instantiable cls 6).before args s' = true := h _ (by simp [Bundle.ownAtoms0])
  obtain ⟨vm₁, cX, kX, hfX, hkX, -, -, X₁, st1⟩ := Y.newCold hexec (own := own) (C := cls) (index := ik) (n := 6) hown' hk' hins hini'
    (g := F0 m pc ls rest) rfl (by rw [hb]; exact d0) (Nat.le_refl _) (Nat.le_refl _)
  generalize hT1 : (T.setVm vm₁).pushCell { cls := cX, slots := kX.instanceTypes.map defaultValue, vm := .none } = T1 at X₁ st1
  have hcat : (Value.ref T.heap.size).category = 1 := rfl
  have hcellA : T1.heap[T.heap.size]? = some (freshCell cX kX) := by rw [← hT1]; exact State.heap_pushCell_size _ _
  have d3' : decode c.code (pc + 3) = .ok (.dup, 1) := by rw [hb]; exact d3
  obtain ⟨U, hsteps, hrun, hend, hW, hsame, ce, hce, hO⟩ := X₁.ctorThrow0 hexec htr (own := own) (cls := cls) (names := names) (ic := ic) hown' hcls hnames h (fun x hx => nomatch hx) hfX hkX hcellA (by rw [hhp, hT]; exact Nat.le_refl _)
    (g := { method := m, pc := pc + 4, locals := ls, stack := .ref T.heap.size :: .ref T.heap.size :: rest, locked := none }) rfl hsize rfl rfl (rest := rest) rfl
    (by rw [hb]; exact d4) (by rw [hb]; exact d7) hout hRframes (by simp only [List.map_cons, List.sum_cons, hcat]; omega) hlocks
  obtain ⟨f1, f2⟩ := vx_frame hsame
  rw [hhp] at f1 f2
  have hWs : s.WarmedH U.vm := State.WarmedH.trans hW0 hW
  have hcl : s.vm.findClass cls = some ce.cls := by
    have h9 := hO.cls
    rw [hvm] at h9
    exact h9
  have hall : s.sameButNew ({ U with vm := s.vm } : State) locs mc ms := by
    subst hA
    obtain ⟨e1, e2⟩ := hsame
    rw [State.setFrames_setFrames] at e1
    have h2 : (T.setVm s.vm).sameButNew ({ U with vm := s.vm } : State) [] (0 + 1) (0 + 6) := ⟨e1, e2⟩
    have h3 := X.same.trans h2
    rw [List.append_nil] at h3
    exact h3.mono hc hs
  refine ⟨U, ?_, .threw T.heap.size, hrun, hend, Or.inr ⟨T.heap.size, rfl, cls, ce, locs, hx U hWs.alike f1 (fun q hq => f2 q hq (fun z hz => nomatch hz)), hce, hO.vm, hcl, hWs, hall, hf⟩⟩
  refine st1 _ ?_
  show Steps p.tables e below (T1.setTop { method := m, pc := pc + 3, locals := ls, stack := .ref T.heap.size :: rest, locked := none }) _
  jvm_step X₁.here [X₁.here.top, hexec, d3', Value.category]
  exact hsteps
/-- 'throw new E("text")': new; dup; ldc; invokespecial; athrow -/
theorem vx_throwS {cc : ByteArray} {pc : Nat} (hexec : p.tables.exec = Jvm.exec) (hb : c.code = cc) (hl : l.stackTraces = false) {own cls text : String} {names : List String} {ik is ic mc ms sa : Nat} {A : Nat → Prop}
    (hown : s.vm.findClass own = some m.cls) (hcls : Bundle.fit cls = true) (hnames : ∀ n ∈ names, Bundle.fit n = true)
    (hk : (Cond.classLink own ik cls).before args s = true) (hini : (Cond.initialized cls).before args s = true) (hstr : vk_R own is text sa s) (hat : ∀ w ∈ vx_atS own ic cls names, w.before args s = true)
    (hgood : ∀ w ∈ Cond.classLink own ik cls :: Cond.initialized cls :: vx_atS own ic cls names, vx_ot w = true)
    (hU : vx_Zq Bundle.tN "UNASSIGNED_STACK" Bundle.steD A s s.heap) (hN : vx_Zq Bundle.tN "SUPPRESSED_SENTINEL" Bundle.listD A s s.heap) (hS : va_S A s.heap H locs) (hsize : ls.size = c.maxLocals)
    (d0 : decode cc pc = .ok (.new ik, 3)) (d3 : decode cc (pc + 3) = .ok (.dup, 1)) (d4 : decode cc (pc + 4) = .ok (.ldc is, 2)) (d6 : decode cc (pc + 6) = .ok (.invokespecial ic, 3)) (d9 : decode cc (pc + 9) = .ok (.athrow, 1))
    (hout : ∀ x ∈ c.exceptionTable.toList, covers x (pc + 9) = false)
    (hRframes : names.length + 3 < R.frames) (hRlocals : (rest.map fun v => v.category).sum + (13 * (names.length + 1) + 43) ≤ R.locals) (hRcells : cells + 1 ≤ R.cells) (hRslots : slots + 6 ≤ R.slots) (hlocks : meth.locks = false)
    (hx : ∀ t : State, s.vm.Alike t.vm → H.size ≤ t.heap.size → (∀ q : Nat, q < H.size → t.heap[q]? = H[q]?) → XC cls s t)
    (hf : ∀ z ∈ locs, free z.base) (hc : cells + 1 ≤ mc) (hs : slots + 6 ≤ ms) :
    W p l e R s m args below meth c H locs cells slots (vx_MQ below Qc XC args s mc ms free) (F0 m pc ls rest) := by
  intro T hT X
  have htr : e.platform.stackTraces = false := (show e.platform.stackTraces = l.stackTraces by rw [X.admits.platform]).trans hl
  have Y := vx_rebase X (R' := { frames := R.frames, locals := R.locals, cells := 1, slots := 6 }) (Nat.le_refl _) (Nat.le_refl _) hRcells hRslots
  obtain ⟨s', hA⟩ : ∃ z, z = (T.setVm s.vm).setFrames (.invoking m args :: below) := ⟨_, rfl⟩
  rw [← hA] at Y
  have hvm : s'.vm = s.vm := by rw [hA]; rfl
  have hhp : s'.heap = H := by rw [hA]; exact hT
  have hW0 : s.WarmedH s'.vm := by rw [hvm]; exact State.WarmedH.refl s
  have hat' : ∀ w ∈ vx_atS own ic cls names, w.before args s' = true := fun w hw => vx_ot_at hW0 hvm.symm (hgood w (List.mem_cons_of_mem _ (List.mem_cons_of_mem _ hw))) (hat w hw)
  have hk' : (Cond.classLink own ik cls).before args s' = true := vx_ot_at hW0 hvm.symm (hgood _ List.mem_cons_self) hk
  have hini' : (Cond.initialized cls).before args s' = true := vx_ot_at hW0 hvm.symm (hgood _ (List.mem_cons_of_mem _ List.mem_cons_self)) hini
  have hU' : vx_Zq Bundle.tN "UNASSIGNED_STACK" Bundle.steD A s' s'.heap := by rw [hhp]; exact vx_Zq.moved hW0.alike (hU.kept hS.2.1)
  have hN' : vx_Zq Bundle.tN "SUPPRESSED_SENTINEL" Bundle.listD A s' s'.heap := by rw [hhp]; exact vx_Zq.moved hW0.alike (hN.kept hS.2.1)
  have h : ∀ w ∈ Bundle.ownAtoms own ic cls names, w.before args s' = true := vx_own hat' (vx_isRefq hU'.1) (vx_isRefq hN'.1) hU'.2.word hN'.2.word
  have hown' : s'.vm.findClass own = some m.cls := by rw [hvm]; exact hown
  have hins : (Cond.instantiable cls 6).before args s' = true := h _ (by simp [Bundle.ownAtoms])
  obtain ⟨vm₁, cX, kX, hfX, hkX, -, -, X₁, st1⟩ := Y.newCold hexec (own := own) (C := cls) (index := ik) (n := 6) hown' hk' hins hini'
    (g := F0 m pc ls rest) rfl (by rw [hb]; exact d0) (Nat.le_refl _) (Nat.le_refl _)
  generalize hT1 : (T.setVm vm₁).pushCell { cls := cX, slots := kX.instanceTypes.map defaultValue, vm := .none } = T1 at X₁ st1
  have hcat : (Value.ref T.heap.size).category = 1 := rfl
  have hcellA : T1.heap[T.heap.size]? = some (freshCell cX kX) := by rw [← hT1]; exact State.heap_pushCell_size _ _
  have d3' : decode c.code (pc + 3) = .ok (.dup, 1) := by rw [hb]; exact d3
  have d4' : decode c.code (pc + 4) = .ok (.ldc is, 2) := by rw [hb]; exact d4
  have hstr' : vk_R own is text sa s' := vk_R.warm hW0 hstr
  obtain ⟨U, hsteps, hrun, hend, hW, hsame, ce, hce, hO⟩ := X₁.ctorThrowS hexec htr (own := own) (cls := cls) (names := names) (ic := ic) hown' hcls hnames h (fun x hx => nomatch hx) hfX hkX hcellA (by rw [hhp, hT]; exact Nat.le_refl _) (msg := .ref sa) rfl
    (g := { method := m, pc := pc + 6, locals := ls, stack := .ref sa :: .ref T.heap.size :: .ref T.heap.size :: rest, locked := none }) rfl hsize rfl rfl (rest := rest) rfl
    (by rw [hb]; exact d6) (by rw [hb]; exact d9) hout hRframes (by simp only [List.map_cons, List.sum_cons, hcat]; omega) hlocks
  obtain ⟨f1, f2⟩ := vx_frame hsame
  rw [hhp] at f1 f2
  have hWs : s.WarmedH U.vm := State.WarmedH.trans hW0 hW
  have hcl : s.vm.findClass cls = some ce.cls := by
    have h9 := hO.cls
    rw [hvm] at h9
    exact h9
  have hall : s.sameButNew ({ U with vm := s.vm } : State) locs mc ms := by
    subst hA
    obtain ⟨e1, e2⟩ := hsame
    rw [State.setFrames_setFrames] at e1
    have h2 : (T.setVm s.vm).sameButNew ({ U with vm := s.vm } : State) [] (0 + 1) (0 + 6) := ⟨e1, e2⟩
    have h3 := X.same.trans h2
    rw [List.append_nil] at h3
    exact h3.mono hc hs
  refine ⟨U, ?_, .threw T.heap.size, hrun, hend, Or.inr ⟨T.heap.size, rfl, cls, ce, locs, hx U hWs.alike f1 (fun q hq => f2 q hq (fun z hz => nomatch hz)), hce, hO.vm, hcl, hWs, hall, hf⟩⟩
  refine st1 _ ?_
  show Steps p.tables e below (T1.setTop { method := m, pc := pc + 3, locals := ls, stack := .ref T.heap.size :: rest, locked := none }) _
  jvm_step X₁.here [X₁.here.top, hexec, d3', Value.category]
  exact X₁.ldcString hexec (own := own) (text := text) (index := is) (a := sa) hown' hstr'.1 hstr'.2
    (g := { method := m, pc := pc + 4, locals := ls, stack := .ref T.heap.size :: .ref T.heap.size :: rest, locked := none }) rfl d4' _ hsteps
/-- 'throw new E("text")', the text by a wide index -/
theorem vx_throwSW {cc : ByteArray} {pc : Nat} (hexec : p.tables.exec = Jvm.exec) (hb : c.code = cc) (hl : l.stackTraces = false) {own cls text : String} {names : List String} {ik is ic mc ms sa : Nat} {A : Nat → Prop}
    (hown : s.vm.findClass own = some m.cls) (hcls : Bundle.fit cls = true) (hnames : ∀ n ∈ names, Bundle.fit n = true)
    (hk : (Cond.classLink own ik cls).before args s = true) (hini : (Cond.initialized cls).before args s = true) (hstr : vk_R own is text sa s) (hat : ∀ w ∈ vx_atS own ic cls names, w.before args s = true)
    (hgood : ∀ w ∈ Cond.classLink own ik cls :: Cond.initialized cls :: vx_atS own ic cls names, vx_ot w = true)
    (hU : vx_Zq Bundle.tN "UNASSIGNED_STACK" Bundle.steD A s s.heap) (hN : vx_Zq Bundle.tN "SUPPRESSED_SENTINEL" Bundle.listD A s s.heap) (hS : va_S A s.heap H locs) (hsize : ls.size = c.maxLocals)
    (d0 : decode cc pc = .ok (.new ik, 3)) (d3 : decode cc (pc + 3) = .ok (.dup, 1)) (d4 : decode cc (pc + 4) = .ok (.ldc_w is, 3)) (d7 : decode cc (pc + 7) = .ok (.invokespecial ic, 3)) (d10 : decode cc (pc + 10) = .ok (.athrow, 1))
    (hout : ∀ x ∈ c.exceptionTable.toList, covers x (pc + 10) = false)
    (hRframes : names.length + 3 < R.frames) (hRlocals : (rest.map fun v => v.category).sum + (13 * (names.length + 1) + 43) ≤ R.locals) (hRcells : cells + 1 ≤ R.cells) (hRslots : slots + 6 ≤ R.slots) (hlocks : meth.locks = false)
    (hx : ∀ t : State, s.vm.Alike t.vm → H.size ≤ t.heap.size → (∀ q : Nat, q < H.size → t.heap[q]? = H[q]?) → XC cls s t)
    (hf : ∀ z ∈ locs, free z.base) (hc : cells + 1 ≤ mc) (hs : slots + 6 ≤ ms) :
    W p l e R s m args below meth c H locs cells slots (vx_MQ below Qc XC args s mc ms free) (F0 m pc ls rest) := by
  intro T hT X
  have htr : e.platform.stackTraces = false := (show e.platform.stackTraces = l.stackTraces by rw [X.admits.platform]).trans hl
  have Y := vx_rebase X (R' := { frames := R.frames, locals := R.locals, cells := 1, slots := 6 }) (Nat.le_refl _) (Nat.le_refl _) hRcells hRslots
  obtain ⟨s', hA⟩ : ∃ z, z = (T.setVm s.vm).setFrames (.invoking m args :: below) := ⟨_, rfl⟩
  rw [← hA] at Y
  have hvm : s'.vm = s.vm := by rw [hA]; rfl
  have hhp : s'.heap = H := by rw [hA]; exact hT
  have hW0 : s.WarmedH s'.vm := by rw [hvm]; exact State.WarmedH.refl s
  have hat' : ∀ w ∈ vx_atS own ic cls names, w.before args s' = true := fun w hw => vx_ot_at hW0 hvm.symm (hgood w (List.mem_cons_of_mem _ (List.mem_cons_of_mem _ hw))) (hat w hw)
  have hk' : (Cond.classLink own ik cls).before args s' = true := vx_ot_at hW0 hvm.symm (hgood _ List.mem_cons_self) hk
  have hini' : (Cond.initialized cls).before args s' = true := vx_ot_at hW0 hvm.symm (hgood _ (List.mem_cons_of_mem _ List.mem_cons_self)) hini
  have hU' : vx_Zq Bundle.tN "UNASSIGNED_STACK" Bundle.steD A s' s'.heap := by rw [hhp]; exact vx_Zq.moved hW0.alike (hU.kept hS.2.1)
  have hN' : vx_Zq Bundle.tN "SUPPRESSED_SENTINEL" Bundle.listD A s' s'.heap := by rw [hhp]; exact vx_Zq.moved hW0.alike (hN.kept hS.2.1)
  have h : ∀ w ∈ Bundle.ownAtoms own ic cls names, w.before args s' = true := vx_own hat' (vx_isRefq hU'.1) (vx_isRefq hN'.1) hU'.2.word hN'.2.word
  have hown' : s'.vm.findClass own = some m.cls := by rw [hvm]; exact hown
  have hins : (Cond.instantiable cls 6).before args s' = true := h _ (by simp [Bundle.ownAtoms])
  obtain ⟨vm₁, cX, kX, hfX, hkX, -, -, X₁, st1⟩ := Y.newCold hexec (own := own) (C := cls) (index := ik) (n := 6) hown' hk' hins hini'
    (g := F0 m pc ls rest) rfl (by rw [hb]; exact d0) (Nat.le_refl _) (Nat.le_refl _)
  generalize hT1 : (T.setVm vm₁).pushCell { cls := cX, slots := kX.instanceTypes.map defaultValue, vm := .none } = T1 at X₁ st1
  have hcat : (Value.ref T.heap.size).category = 1 := rfl
  have hcellA : T1.heap[T.heap.size]? = some (freshCell cX kX) := by rw [← hT1]; exact State.heap_pushCell_size _ _
  have d3' : decode c.code (pc + 3) = .ok (.dup, 1) := by rw [hb]; exact d3
  have d4' : decode c.code (pc + 4) = .ok (.ldc_w is, 3) := by rw [hb]; exact d4
  have hstr' : vk_R own is text sa s' := vk_R.warm hW0 hstr
  obtain ⟨U, hsteps, hrun, hend, hW, hsame, ce, hce, hO⟩ := X₁.ctorThrowS hexec htr (own := own) (cls := cls) (names := names) (ic := ic) hown' hcls hnames h (fun x hx => nomatch hx) hfX hkX hcellA (by rw [hhp, hT]; exact Nat.le_refl _) (msg := .ref sa) rfl
    (g := { method := m, pc := pc + 7, locals := ls, stack := .ref sa :: .ref T.heap.size :: .ref T.heap.size :: rest, locked := none }) rfl hsize rfl rfl (rest := rest) rfl
    (by rw [hb]; exact d7) (by rw [hb]; exact d10) hout hRframes (by simp only [List.map_cons, List.sum_cons, hcat]; omega) hlocks
  obtain ⟨f1, f2⟩ := vx_frame hsame
  rw [hhp] at f1 f2
  have hWs : s.WarmedH U.vm := State.WarmedH.trans hW0 hW
  have hcl : s.vm.findClass cls = some ce.cls := by
    have h9 := hO.cls
    rw [hvm] at h9
    exact h9
  have hall : s.sameButNew ({ U with vm := s.vm } : State) locs mc ms := by
    subst hA
    obtain ⟨e1, e2⟩ := hsame
    rw [State.setFrames_setFrames] at e1
    have h2 : (T.setVm s.vm).sameButNew ({ U with vm := s.vm } : State) [] (0 + 1) (0 + 6) := ⟨e1, e2⟩
    have h3 := X.same.trans h2
    rw [List.append_nil] at h3
    exact h3.mono hc hs
  refine ⟨U, ?_, .threw T.heap.size, hrun, hend, Or.inr ⟨T.heap.size, rfl, cls, ce, locs, hx U hWs.alike f1 (fun q hq => f2 q hq (fun z hz => nomatch hz)), hce, hO.vm, hcl, hWs, hall, hf⟩⟩
  refine st1 _ ?_
  show Steps p.tables e below (T1.setTop { method := m, pc := pc + 3, locals := ls, stack := .ref T.heap.size :: rest, locked := none }) _
  jvm_step X₁.here [X₁.here.top, hexec, d3', Value.category]
  exact X₁.ldcStringW hexec (own := own) (text := text) (index := is) (a := sa) hown' hstr'.1 hstr'.2
    (g := { method := m, pc := pc + 4, locals := ls, stack := .ref T.heap.size :: .ref T.heap.size :: rest, locked := none }) rfl d4' _ hsteps
end Ends
section Bodies
variable {l : Launch}
theorem vx_ofW {y : MethodName} {ws ws' : List Cond} {rm : Room} {Pc : Array Value → State → Prop} {Qc : Array Value → State → Outcome → State → Prop} {XC : String → State → State → Prop} {mc ms : Nat} {free : Addr → Prop} {cc : ByteArray} {maxL : Nat} {ret : Option FieldType}
    (hy : plainName y.cls = true) (hw : ws = Cond.code y cc maxL ret :: ws')
    (body : ∀ p e s m args below meth c s₁, BodyLoose p l y (headSpec ws rm) cc maxL ret e s m args below meth c s₁ → c.maxLocals = maxL → (∀ x ∈ c.exceptionTable.toList, False) → Pc args s →
      W p l e (headSpec ws rm).room s m args below meth c s.heap [] 0 0 (vx_MQ below Qc XC args s mc ms free) (entryFrame m args maxL)) : vx_Met l y ws rm Pc Qc XC mc ms free := by
  refine MetFree.of_bodyS (code := cc) (maxLocals := maxL) (ret := ret) hy ?_ ?_
  · intro args s m h hn
    obtain ⟨meth, c, h1, h2, h3, h4, h5, h6, -, -⟩ := Cond.code_spec hn (atoms_spec (ws := ws) h _ (by rw [hw]; exact List.mem_cons_self))
    exact ⟨meth, c, h1, h2, h3, h4, h5, h6⟩
  · intro p e s m args below meth c s₁ B hml hP _
    have hh0 : s₁.heap = s.heap := by rw [B.state]; rfl
    have ht : ∀ x ∈ c.exceptionTable.toList, False := by
      obtain ⟨meth9, c9, h1, h2, -, -, -, -, h7, -⟩ := Cond.code_spec B.named (atoms_spec (ws := ws) B.pre _ (by rw [hw]; exact List.mem_cons_self))
      cases Option.some.inj (h1.symm.trans B.method)
      cases Option.some.inj (h2.symm.trans (Stand.of_body B).code)
      intro x hx
      rw [Array.isEmpty_iff.mp h7] at hx
      cases hx
    obtain ⟨t, a1, o, b1, b2, b3⟩ := body p e s m args below meth c s₁ B hml ht hP s₁ hh0 (Stand.of_body B)
    exact ⟨t, o, a1, b1, b2, b3⟩
/-- the table of a body with handlers -/
theorem vx_table {p : Program} {x y : MethodName} {S : Spec} {cc bytes : ByteArray} {maxL maxL' : Nat} {ret ret' : Option FieldType} {e : Env} {s s₁ : State} {m : MethodId} {args : Array Value} {below : List Frame} {meth : Method} {c : Code} {hh : List (Nat × Nat × Nat × Nat)}
    (B : BodyLoose p l y S cc maxL ret e s m args below meth c s₁) (h : (Cond.codeWith y bytes maxL' ret' hh).before args s = true) : c.exceptionTable.toList = tableOf hh := by
  obtain ⟨m9, meth9, c9, hn9, h1, h2, -, -, h6, -⟩ := Cond.codeWith_spec h
  cases Option.some.inj (hn9.symm.trans B.named)
  cases Option.some.inj (h1.symm.trans B.method)
  cases Option.some.inj (h2.symm.trans (Stand.of_body B).code)
  rw [← h6, table_eq]
end Bodies
end VXA
/-! ===== END ===== -/
/-! ===== BEGIN a static call of a method with an exception table ===== -/
section VXS
variable {p : Program} {l : Launch} {e : Env} {R : Room} {s : State} {m : MethodId} {args : Array Value} {below : List Frame} {meth : Method} {c : Code} {T : State} {H : Heap} {locs : List Loc} {cells slots : Nat}
abbrev vx_CSW (R : Room) (s : State) (args : Array Value) (own : String) (index : Nat) (y : MethodName) (bytes : ByteArray) (maxL : Nat) (ret : Option FieldType) (hh : List (Nat × Nat × Nat × Nat)) (ws : List Cond) (rm : Room) (mc ms n : Nat) : Prop :=
  (rm.cells = mc ∧ rm.slots = ms ∧ rm.frames + 1 ≤ R.frames ∧ 8 + (maxL + 11) + rm.locals ≤ R.locals ∧ (∀ w ∈ ws, ∀ (a' : Array Value) (U : State), s.WarmedH U.vm → w.before a' U = true) ∧ Cond.codeWith y bytes maxL ret hh ∈ ws) ∧
  (Cond.codeWith y bytes maxL ret hh).before args s = true ∧ (Cond.initialized y.cls).before args s = true ∧ (y.cls ≠ "java/lang/invoke/MethodHandle" ∧ y.cls ≠ "java/lang/invoke/VarHandle") ∧
  (∀ sig, parseMethodDescriptor y.desc = some sig → n = sig.parameters.length) ∧ (Cond.methodLink own index y).before args s = true ∧ (Cond.static y).before args s = true
theorem vx_cwSW {own : String} {index maxL mc ms : Nat} {y : MethodName} {bytes : ByteArray} {ret : Option FieldType} {hh : List (Nat × Nat × Nat × Nat)} {Ts ws ws' : List Cond} {rm : Room} (n : Nat) (ht : ∀ w ∈ Ts, w.before args s = true) (hT : GoodIn Ts (va_wsS own index y ws)) (hw : ws = Cond.codeWith y bytes maxL ret hh :: ws') (hrc : rm.cells = mc) (hrs : rm.slots = ms)
    (hd : y.cls ≠ "java/lang/invoke/MethodHandle" ∧ y.cls ≠ "java/lang/invoke/VarHandle" ∧ (parseMethodDescriptor y.desc).map (fun d => d.parameters.length) = some n) (hR : rm.frames + 1 ≤ R.frames ∧ 8 + (maxL + 11) + rm.locals ≤ R.locals) :
    vx_CSW R s args own index y bytes maxL ret hh ws rm mc ms n := by
  have ok : ∀ w ∈ va_wsS own index y ws, w.before args s = true := fun w h => ht w (hT w h).1
  have hG : GoodIn Ts ws := fun w h => hT w (by unfold va_wsS; exact List.mem_append_right _ h)
  have hc : Cond.codeWith y bytes maxL ret hh ∈ ws := by rw [hw]; exact List.mem_cons_self
  refine ⟨⟨hrc, hrs, hR.1, hR.2, pay_in ht hG, hc⟩, ht _ (hG _ hc).1, ok _ (by simp [va_wsS]), ⟨hd.1, hd.2.1⟩, fun sig h => ?_, ok _ (by simp [va_wsS]), ok _ (by simp [va_wsS])⟩
  have h2 := hd.2.2
  rw [h] at h2
  exact (Option.some.inj h2).symm
theorem vx_callSW (X : Stand p l e R s m args below meth c T locs cells slots) (hexec : p.tables.exec = Jvm.exec) {own : String} {index : Nat} {y : MethodName} {bytes : ByteArray} {maxL : Nat} {ret : Option FieldType} {hh : List (Nat × Nat × Nat × Nat)}
    (hown : s.vm.findClass own = some m.cls) (hlink : (Cond.methodLink own index y).before args s = true) (hstat : (Cond.static y).before args s = true) (hinit : (Cond.initialized y.cls).before args s = true)
    (hcode : (Cond.codeWith y bytes maxL ret hh).before args s = true) (hy : y.cls ≠ "java/lang/invoke/MethodHandle" ∧ y.cls ≠ "java/lang/invoke/VarHandle")
    {W9 : Nat} {Pre : Pt → Array Value → Prop} {Post : Pt → Array Value → Option Value → Pt → Prop} (hK : Back l R p e below s args y 3 W9 Pre Post)
    {g : JFrame} (hg : g.method = m) (hsize : g.locals.size = c.maxLocals) {argsL rest : List Value} (hlen : ∀ sig, parseMethodDescriptor y.desc = some sig → argsL.length = sig.parameters.length)
    (hstack : g.stack = argsL.reverse ++ rest) (hW : 2 * g.monitorRoom + (rest.map fun v => v.category).sum ≤ W9) (hdg : decode c.code g.pc = .ok (.invokestatic index, 3))
    (hpre : ∀ vm₁, s.WarmedH vm₁ → Pre ⟨T.setVm vm₁, locs, cells, slots⟩ argsL.toArray) :
    ∃ (v : Option Value) (vm₁ : Vm) (B : Pt), s.WarmedH vm₁ ∧ Stand p l e R s m args below meth c B.U B.locs B.cells B.slots ∧ Post ⟨T.setVm vm₁, locs, cells, slots⟩ argsL.toArray v B ∧
      ∀ target, Steps p.tables e below (B.U.setTop { g with pc := g.pc + 3, stack := v.toList ++ rest }) target → Steps p.tables e below (T.setTop g) target := by
  obtain ⟨mk, methM, cM, hnamed, hmethM, -, -, -, -, -, -, hsigM⟩ := Cond.codeWith_spec hcode
  have hstatic : methM.isStatic = true := Cond.static_spec hnamed hmethM hstat
  obtain ⟨kP, hkP, -⟩ := className_of_methodNamed hnamed
  have hinitP : kP.init = .initialized := Cond.initialized_spec (findClass_of_methodNamed hnamed) hkP hinit
  obtain ⟨vm₁, X₁, hstep₁⟩ := X.invokestatic hexec hown hlink hnamed hmethM hstatic hkP hinitP hy (g := g) hg (argsL := argsL) (rest := rest) (hlen _ hsigM) hstack hdg
  obtain ⟨v, B, X', hpost, hsteps⟩ := hK m meth c ⟨T.setVm vm₁, locs, cells, slots⟩ { g with stack := rest } (.invokestatic index) mk argsL.toArray X₁ hg hsize hdg hW (X₁.named hnamed) (hpre vm₁ X₁.warmed)
  exact ⟨v, vm₁, B, X₁.warmed, X', hpost, fun target h => hstep₁ _ fun acts => by rw [doInvoke_state]; exact hsteps.trans h⟩
theorem vx_runSW {y : MethodName} {bytes cc : ByteArray} {maxL nL mc ms n index : Nat} {ret : Option FieldType} {hh : List (Nat × Nat × Nat × Nat)} {ws : List Cond} {rm : Room} {Pc : Array Value → State → Prop} {Qc : Array Value → State → Outcome → State → Prop} {free : Addr → Prop} {Ts : List Cond} {own : String} {As rest : List Value} {g : JFrame}
    (S : CallFix p m c cc nL s args Ts own) (hM : Met l y ws rm Pc Qc mc ms free) (cw : vx_CSW R s args own index y bytes maxL ret hh ws rm mc ms n) (hp : PreS s H Pc As)
    (hg : g.method = m) (hn : As.length = n) (hsize : g.locals.size = nL) (hstack : g.stack = As.reverse ++ rest) (hW : 2 * g.monitorRoom + (rest.map fun v => v.category).sum ≤ 8) (hdg : decode cc g.pc = .ok (.invokestatic index, 3)) (hf : cells + mc ≤ R.cells ∧ slots + ms ≤ R.slots) :
    va_Run p l e R s m args below meth c H locs cells slots mc ms g rest (Qc As.toArray) (free) := by
  obtain ⟨⟨hrc, hrs, hfr, hlo, hws, hcw⟩, hcode, hini, hy, hlen, hl, hstt⟩ := cw
  have hK : Back l R p e below s args y 3 8 (PreOf R mc ms Pc) (PostOf Qc mc ms free) := va_backW (hh := hh) (bytes := bytes) (maxL := maxL) (ret := ret) hM hp.1 hrc hrs hfr hlo hws hcw (fun a' U hW => word_at hW (Or.inl (by first | rfl | simp [Cond.onTables, Cond.keeps, Cond.steady])) hini)
  obtain ⟨hx, hb, hml, ho, -⟩ := S
  intro T hT X
  obtain ⟨v, vm₁, ⟨U', l2, c2, s2⟩, hW₁, X', ⟨g', mk, t, L, e1, e2, hq, h1, hL, h2, h3⟩, st⟩ := vx_callSW X hx (hh := hh) (bytes := bytes) (maxL := maxL) (ret := ret) ho hl hstt hini hcode hy hK hg (hsize.trans hml.symm) (argsL := As) (rest := rest) (fun sig h => hn.trans (hlen sig h)) hstack hW (by rw [hb]; exact hdg)
    (fun vm₁ hW₁ => ⟨hf.1, hf.2, hp.2 (T.setVm vm₁) hT hW₁⟩)
  dsimp only [Pt.U, Pt.locs, Pt.cells, Pt.slots] at X' e1 e2 h1 h2 h3 st
  subst h1; subst h2; subst h3
  exact ⟨v, (T.setVm vm₁).calling g' mk As.toArray, t, U', L, hT, X', hL, e1, e2, hq, st⟩
/-- not caught here, past rows that name other classes: it goes on to the caller -/
theorem vx_outP {p : Program} {l : Launch} {e : Env} {R : Room} {s : State} {m : MethodId} {args : Array Value} {below : List Frame} {meth : Method} {c : Code} {H : Heap} {locs : List Loc} {cells slots : Nat} {free : Addr → Prop} {ls : Array Slot} {rest : List Value} {Qc : Array Value → State → Outcome → State → Prop} {XC : String → State → State → Prop}
    {pc : Nat} {own E : String} {ce : Cell} {q : Addr} {mc ms : Nat} (hown : s.vm.findClass own = some m.cls) (hlocks : meth.locks = false)
    (hpass : ∀ z ∈ c.exceptionTable.toList, covers z pc = false ∨ (z.catchType ≠ 0 ∧ ∃ nm : String, (Cond.classLink own z.catchType nm).before args s = true ∧ va_Nc E nm s)) (hcell : H[q]? = some ce) (hv : ce.vm = .none) (hcl : s.vm.findClass E = some ce.cls)
    (hx : ∀ t : State, t.heap = H → s.vm.Alike t.vm → XC E s t) (hf : ∀ z ∈ locs, free z.base) (hc : cells ≤ mc) (hs : slots ≤ ms) :
    vx_W p l e R s m args below meth c H locs cells slots (vx_MQ below Qc XC args s mc ms free) (F0 m pc ls rest) q := by
  intro T hT X
  have hpl : e.platform.magicAccessors = ({} : Platform).magicAccessors := by rw [X.admits.platform]
  obtain ⟨vm', hW', X', st⟩ := X.outThrough hlocks q (g := F0 m pc ls rest) rfl rfl rfl (cell := ce) (by rw [hT]; exact hcell) (by rw [hv]; rfl)
    (by obtain ⟨k9, h9, -⟩ := Vm.findClass_spec hcl; exact ⟨k9, h9⟩) (fun z hz => by
      rcases hpass z hz with h | ⟨hz0, nm, hl1, hn1⟩
      · exact Or.inl h
      · obtain ⟨c6, hc6, hcl6⟩ := Cond.classLink_spec hown hl1 e.platform hpl
        obtain ⟨a8, b8, h1, h2, h3⟩ := hn1
        cases Option.some.inj (h1.symm.trans hcl)
        cases Option.some.inj (h2.symm.trans hc6)
        exact Or.inr ⟨hz0, _, hcl6, h3⟩)
  obtain ⟨g₀, hfr⟩ := X'.frames_eq
  have hcell9 : ((T.setVm vm').setFrames (.throwing q :: below)).heap[q]? = some ce := by
    show T.heap[q]? = some ce
    rw [hT]; exact hcell
  have hend : Ended ((T.setVm vm').setFrames (.throwing q :: below)) below (.threw q) := State.frames_setFrames _ (State.cur_lt_of_frames hfr)
  refine ⟨(T.setVm vm').setFrames (.throwing q :: below), ?_, .threw q, X'.here.running, hend, Or.inr ⟨q, rfl, E, ce, locs, hx _ hT (X'.ends _).1.alike, hcell9, hv, hcl, (X'.ends _).1, (X'.ends _).2.mono hc hs, hf⟩⟩
  rw [X.pushThrowing_eq]
  exact st
/-- a thing of a world lies in the heap -/
theorem vx_lt {D : va_G} {cl : List vw_C} {ws : va_W} {H1 : Heap} (h : va_P D cl ws H1) {k : Nat} {q : Nat × va_E} (hk : ws[k]? = some q) : q.1 < H1.size := (h k q hk).lt
end VXS
/-! ===== END ===== -/
/-! ===== BEGIN methods with a table of their own: called by a name, returning or throwing ===== -/
section VXH
/-! vx_backW, vx_callVX, vx_callSX, vx_callVW, vx_runVW, vx_runVX, vx_runSX, vx_ofWH follow the same proofs as their sisters above (Free/Laws.lean, Shelf42/LK1.lean); vx_outP calls Shelf42/NT130.lean (outThrough). -/
section
variable {l : Launch} {R : Room} {p : Program} {e : Env} {below : List Frame} {s : State} {sargs : Array Value} {y : MethodName} {len W9 : Nat}
theorem vx_backW {ws : List Cond} {rm : Room} {Pc : Array Value → State → Prop} {Qc : Array Value → State → Outcome → State → Prop} {XC : String → State → State → Prop} {mc ms : Nat} {free : Addr → Prop} {bytes : ByteArray} {maxL : Nat} {ret : Option FieldType} {hh : List (Nat × Nat × Nat × Nat)}
    (hM : vx_Met l y ws rm Pc Qc XC mc ms free) (hblind : FrameBlind Pc) (hrc : rm.cells = mc) (hrs : rm.slots = ms)
    (hframes : rm.frames + 1 ≤ R.frames) (hlocals : W9 + (maxL + 11) + rm.locals ≤ R.locals)
    (hws : ∀ w ∈ ws, ∀ a' U, s.WarmedH U.vm → w.before a' U = true) (hcode : Cond.codeWith y bytes maxL ret hh ∈ ws) (hinit : ∀ a' U, s.WarmedH U.vm → (Cond.initialized y.cls).before a' U = true) :
    vx_Back l R p e below s sargs y len W9 (PreOf R mc ms Pc) (PostOf Qc mc ms free) (vx_Post XC mc ms free) := by
  intro m meth c A g ig mk a X hg hsize hdg hW hn hp
  have h1 : (headSpec ws rm).pre.before a A.U = true := atoms_intro fun w hw => hws w hw _ _ X.warmed
  have h2 : (Cond.codeWith y bytes maxL ret hh).before a A.U = true := hws _ hcode _ _ X.warmed
  have h3 : (Cond.initialized y.cls).before a A.U = true := hinit _ _ X.warmed
  have h4 : A.cells + (headSpec ws rm).room.cells ≤ R.cells := by rw [show (headSpec ws rm).room.cells = mc from hrc]; exact hp.1
  have h5 : A.slots + (headSpec ws rm).room.slots ≤ R.slots := by rw [show (headSpec ws rm).room.slots = ms from hrs]; exact hp.2.1
  have hPc : Pc a (A.U.calling g mk a) := hblind _ _ _ _ hp.2.2
  obtain ⟨U, Ls, c0, s0⟩ := A
  dsimp only [Pt.U, Pt.locs, Pt.cells, Pt.slots] at h1 h2 h3 h4 h5 X hn hPc ⊢
  obtain ⟨m9, methY, cY, hn9, hmY, hcY, -, hlY, -⟩ := Cond.codeWith_spec h2
  cases Option.some.inj (hn9.symm.trans hn)
  obtain ⟨kY, hkY, -⟩ := className_of_methodNamed hn
  have hinitY : kY.init = .initialized := Cond.initialized_spec (findClass_of_methodNamed hn) hkY h3
  have h : At U g.method c below := by rw [hg]; exact X.here
  have hlocals9 : W9 + (maxL + 11) + (headSpec ws rm).room.locals ≤ R.locals := hlocals
  have happ : (headSpec ws rm).appliesLoose y e.platform (U.calling g mk a) = true :=
    Spec.appliesLoose_calling (g := g) h hdg hn hkY hinitY
      (X.room_calling (g := g) (R' := (headSpec ws rm).room) hsize hmY hcY hframes (by rw [hlY]; omega) h4 h5) h1
  obtain ⟨mid, hmid⟩ := h.above
  have hfr : (U.setTop g).frames = (.java g :: mid) ++ below := by rw [State.frames_setTop' g h.top, hmid]; rfl
  obtain ⟨o, s₂, hsteps, -, hend, hq⟩ := Steps.callFree hM p X.admits X.cas X.clock (acts := []) hfr happ hPc trivial
  have hq' : vx_Q Qc XC mc ms free a (U.calling g mk a) o s₂ := hq
  rw [State.frames_setTop' g h.top] at hend
  obtain ⟨g₀, hg0⟩ := Option.isSome_iff_exists.mp h.top
  obtain ⟨r, hr⟩ := State.topJava?_eq_some.mp hg0
  have hr' : (({ U with heap := s₂.heap, slotsUsed := s₂.slotsUsed } : State).setVm s₂.vm).frames = .java g₀ :: r := hr
  rcases hq' with ⟨hqc, L, hfe, hL⟩ | ⟨q, rfl, E, ce, L, hx, hce, hcv, hcl, hW₂, hsm, hL⟩
  · obtain ⟨⟨v, rfl⟩, hW₂, e2, q2, q3, q4, q5, q6⟩ := id hfe
    have e3 : s₂ = ({ (U.calling g mk a).setFrames s₂.frames with heap := s₂.heap, slotsUsed := s₂.slotsUsed } : State).setVm s₂.vm := by
      have : s₂ = ({ s₂ with vm := (U.calling g mk a).vm } : State).setVm s₂.vm := rfl
      rw [e2] at this
      exact this
    obtain ⟨c₂, i₂, len₂, hc₂, hd₂, hf₂⟩ := hend
    have hW' : U.WarmedH s₂.vm := hW₂
    have hcc : c₂ = c := by
      have h1 : s₂.code? g.method = U.code? g.method := by
        rw [State.code?_eq, State.code?_eq, hW'.alike.method?]
      exact Option.some.inj (hc₂.symm.trans (h1.trans h.code))
    subst hcc
    have hlen : len₂ = len := by rw [hdg] at hd₂; cases hd₂; rfl
    subst hlen
    have hs₂ : s₂ = (({ U with heap := s₂.heap, slotsUsed := s₂.slotsUsed } : State).setVm s₂.vm).setTop { g with pc := g.pc + len₂, stack := v.toList ++ g.stack } := by
      refine e3.trans ?_
      rw [hf₂, State.calling_eq h.top, State.setFrames_setFrames, State.setTop_of_frames _ hr', hr]
      rfl
    have hsame : U.sameButNew ({ U with heap := s₂.heap, slotsUsed := s₂.slotsUsed } : State) L mc ms := by
      refine ⟨?_, q2, q3, q4, q5, q6⟩
      obtain ⟨t, ht, -⟩ := State.frames_cons hr
      show ({ U with heap := s₂.heap, slotsUsed := s₂.slotsUsed } : State) = { U.setFrames U.frames with heap := s₂.heap, slotsUsed := s₂.slotsUsed }
      rw [State.setFrames_self ht]
    subst hg
    refine Or.inl ⟨v, ⟨(({ U with heap := s₂.heap, slotsUsed := s₂.slotsUsed } : State).setVm s₂.vm), Ls ++ L, c0 + mc, s0 + ms⟩,
      ⟨X.admits, X.cas, X.clock, X.frames, X.room, X.hears, X.method, X.code, (X.here.setHeapUsed s₂.heap s₂.slotsUsed).setVm hW'.alike, X.tail, State.WarmedH.trans X.warmed hW', X.limits, X.bytes, X.same.trans (hsame.setVm s.vm)⟩,
      ⟨g, mk, s₂, L, rfl, rfl, hqc, rfl, hL, rfl, rfl⟩, ?_⟩
    show Steps p.tables e below _ ((({ U with heap := s₂.heap, slotsUsed := s₂.slotsUsed } : State).setVm s₂.vm).setTop { g with pc := g.pc + len₂, stack := v.toList ++ g.stack })
    rw [← hs₂]
    exact hsteps
  · obtain ⟨e2, q2, q3, q4, q5, q6⟩ := id hsm
    have e3 : s₂ = ({ (U.calling g mk a).setFrames s₂.frames with heap := s₂.heap, slotsUsed := s₂.slotsUsed } : State).setVm s₂.vm := by
      have : s₂ = ({ s₂ with vm := (U.calling g mk a).vm } : State).setVm s₂.vm := rfl
      rw [e2] at this
      exact this
    have hf₂ : s₂.frames = .throwing q :: .java g :: U.frames.tail := hend
    have hW' : U.WarmedH s₂.vm := hW₂
    have hs₂ : s₂ = ((({ U with heap := s₂.heap, slotsUsed := s₂.slotsUsed } : State).setVm s₂.vm).setTop g).pushFrame (.throwing q) := by
      refine e3.trans ?_
      rw [hf₂, State.calling_eq h.top, State.setFrames_setFrames, State.pushFrame, State.frames_setTop _ hr', State.setTop_of_frames _ hr', State.setFrames_setFrames, hr]
      rfl
    have hsame : U.sameButNew ({ U with heap := s₂.heap, slotsUsed := s₂.slotsUsed } : State) L mc ms := by
      refine ⟨?_, q2, q3, q4, q5, q6⟩
      obtain ⟨t, ht, -⟩ := State.frames_cons hr
      show ({ U with heap := s₂.heap, slotsUsed := s₂.slotsUsed } : State) = { U.setFrames U.frames with heap := s₂.heap, slotsUsed := s₂.slotsUsed }
      rw [State.setFrames_self ht]
    subst hg
    refine Or.inr ⟨q, ⟨(({ U with heap := s₂.heap, slotsUsed := s₂.slotsUsed } : State).setVm s₂.vm), Ls ++ L, c0 + mc, s0 + ms⟩,
      ⟨X.admits, X.cas, X.clock, X.frames, X.room, X.hears, X.method, X.code, (X.here.setHeapUsed s₂.heap s₂.slotsUsed).setVm hW'.alike, X.tail, State.WarmedH.trans X.warmed hW', X.limits, X.bytes, X.same.trans (hsame.setVm s.vm)⟩,
      ⟨g, mk, s₂, L, E, ce, rfl, rfl, hx, hce, hcv, hcl, rfl, hL, rfl, rfl⟩, ?_⟩
    show Steps p.tables e below _ (((({ U with heap := s₂.heap, slotsUsed := s₂.slotsUsed } : State).setVm s₂.vm).setTop g).pushFrame (.throwing q))
    rw [← hs₂]
    exact hsteps
end
variable {p : Program} {l : Launch} {e : Env} {R : Room} {s : State} {m : MethodId} {args : Array Value} {below : List Frame} {meth : Method} {c : Code} {T : State} {H : Heap} {locs : List Loc} {cells slots : Nat}
theorem vx_callVX (X : Stand p l e R s m args below meth c T locs cells slots) (hexec : p.tables.exec = Jvm.exec) {own C : String} {index : Nat} {y : MethodName} {bytes : ByteArray} {maxL : Nat} {ret : Option FieldType} {hh : List (Nat × Nat × Nat × Nat)}
    (hown : s.vm.findClass own = some m.cls) (hlink : (Cond.methodLink own index y).before args s = true) (hinst : (Cond.instanceMethod y).before args s = true) (hsel : (Cond.selects C y y).before args s = true)
    (hcode : (Cond.codeWith y bytes maxL ret hh).before args s = true) (hy : y.cls ≠ "java/lang/invoke/MethodHandle" ∧ y.cls ≠ "java/lang/invoke/VarHandle")
    {W9 : Nat} {Pre : Pt → Array Value → Prop} {Post : Pt → Array Value → Option Value → Pt → Prop} {PostX : Pt → Array Value → Addr → Pt → Prop} (hK : vx_Back l R p e below s args y 3 W9 Pre Post PostX)
    {b : Addr} {cellB : Cell} (hcell : T.heap[b]? = some cellB) (hobj : cellB.vm.isStatics = false) (hcls : s.vm.findClass C = some cellB.cls)
    {g : JFrame} (hg : g.method = m) (hsize : g.locals.size = c.maxLocals) {argsL rest : List Value} (hlen : ∀ sig, parseMethodDescriptor y.desc = some sig → argsL.length = sig.parameters.length)
    (hstack : g.stack = argsL.reverse ++ .ref b :: rest) (hW : 2 * g.monitorRoom + (rest.map fun v => v.category).sum ≤ W9) (hdg : decode c.code g.pc = .ok (.invokevirtual index, 3))
    (hpre : ∀ vm₁, s.WarmedH vm₁ → Pre ⟨T.setVm vm₁, locs, cells, slots⟩ (Value.ref b :: argsL).toArray) :
    (∃ (v : Option Value) (vm₁ : Vm) (B : Pt), s.WarmedH vm₁ ∧ Stand p l e R s m args below meth c B.U B.locs B.cells B.slots ∧ Post ⟨T.setVm vm₁, locs, cells, slots⟩ (Value.ref b :: argsL).toArray v B ∧
      ∀ target, Steps p.tables e below (B.U.setTop { g with pc := g.pc + 3, stack := v.toList ++ rest }) target → Steps p.tables e below (T.setTop g) target) ∨
    (∃ (q : Addr) (vm₁ : Vm) (B : Pt), s.WarmedH vm₁ ∧ Stand p l e R s m args below meth c B.U B.locs B.cells B.slots ∧ PostX ⟨T.setVm vm₁, locs, cells, slots⟩ (Value.ref b :: argsL).toArray q B ∧
      Steps p.tables e below (T.setTop g) ((B.U.setTop { g with stack := rest }).pushFrame (.throwing q))) := by
  obtain ⟨mk, methM, hnamed, hmethM, hstM, habM⟩ := Cond.instanceMethod_spec hinst
  obtain ⟨m8, methM', cM, hn8, hmethM', -, -, -, -, -, -, hsigM⟩ := Cond.codeWith_spec hcode
  cases Option.some.inj (hn8.symm.trans hnamed)
  cases hmethM.symm.trans hmethM'
  obtain ⟨c2, r2, m2, q1, q2, q3, q4, kP, hkP, hkPi⟩ := Cond.selects_spec hsel
  cases hcls.symm.trans q1
  cases (State.methodFound?_of_named hnamed hy).symm.trans q2
  cases hnamed.symm.trans q3
  have hselP : selectMethod e.platform s.vm cellB.cls mk = .method mk := by rw [Launch.admits_selectMethod X.admits]; exact q4
  obtain ⟨vm₁, X₁, hstep₁⟩ := X.invokevirtual hexec hown hlink hnamed hmethM hstM hkP hkPi hy (a := b) (cell := cellB) hcell
    (fun z h => by rw [h] at hobj; cases hobj) hselP hmethM habM hkP hkPi (g := g) hg (argsL := argsL) (rest := rest) (hlen _ hsigM) hstack hdg
  rcases hK m meth c ⟨T.setVm vm₁, locs, cells, slots⟩ { g with stack := rest } (.invokevirtual index) mk (Value.ref b :: argsL).toArray X₁ hg hsize hdg hW (X₁.named hnamed) (hpre vm₁ X₁.warmed) with ⟨v, B, X', hpost, hsteps⟩ | ⟨q, B, X', hpost, hsteps⟩
  · exact Or.inl ⟨v, vm₁, B, X₁.warmed, X', hpost, fun target h => hstep₁ _ fun acts => by rw [doInvoke_state]; exact hsteps.trans h⟩
  · exact Or.inr ⟨q, vm₁, B, X₁.warmed, X', hpost, hstep₁ _ fun acts => by rw [doInvoke_state]; exact hsteps⟩
theorem vx_callSX (X : Stand p l e R s m args below meth c T locs cells slots) (hexec : p.tables.exec = Jvm.exec) {own : String} {index : Nat} {y : MethodName} {bytes : ByteArray} {maxL : Nat} {ret : Option FieldType} {hh : List (Nat × Nat × Nat × Nat)}
    (hown : s.vm.findClass own = some m.cls) (hlink : (Cond.methodLink own index y).before args s = true) (hstat : (Cond.static y).before args s = true) (hinit : (Cond.initialized y.cls).before args s = true)
    (hcode : (Cond.codeWith y bytes maxL ret hh).before args s = true) (hy : y.cls ≠ "java/lang/invoke/MethodHandle" ∧ y.cls ≠ "java/lang/invoke/VarHandle")
    {W9 : Nat} {Pre : Pt → Array Value → Prop} {Post : Pt → Array Value → Option Value → Pt → Prop} {PostX : Pt → Array Value → Addr → Pt → Prop} (hK : vx_Back l R p e below s args y 3 W9 Pre Post PostX)
    {g : JFrame} (hg : g.method = m) (hsize : g.locals.size = c.maxLocals) {argsL rest : List Value} (hlen : ∀ sig, parseMethodDescriptor y.desc = some sig → argsL.length = sig.parameters.length)
    (hstack : g.stack = argsL.reverse ++ rest) (hW : 2 * g.monitorRoom + (rest.map fun v => v.category).sum ≤ W9) (hdg : decode c.code g.pc = .ok (.invokestatic index, 3))
    (hpre : ∀ vm₁, s.WarmedH vm₁ → Pre ⟨T.setVm vm₁, locs, cells, slots⟩ argsL.toArray) :
    (∃ (v : Option Value) (vm₁ : Vm) (B : Pt), s.WarmedH vm₁ ∧ Stand p l e R s m args below meth c B.U B.locs B.cells B.slots ∧ Post ⟨T.setVm vm₁, locs, cells, slots⟩ argsL.toArray v B ∧
      ∀ target, Steps p.tables e below (B.U.setTop { g with pc := g.pc + 3, stack := v.toList ++ rest }) target → Steps p.tables e below (T.setTop g) target) ∨
    (∃ (q : Addr) (vm₁ : Vm) (B : Pt), s.WarmedH vm₁ ∧ Stand p l e R s m args below meth c B.U B.locs B.cells B.slots ∧ PostX ⟨T.setVm vm₁, locs, cells, slots⟩ argsL.toArray q B ∧
      Steps p.tables e below (T.setTop g) ((B.U.setTop { g with stack := rest }).pushFrame (.throwing q))) := by
  obtain ⟨mk, methM, cM, hnamed, hmethM, -, -, -, -, -, -, hsigM⟩ := Cond.codeWith_spec hcode
  have hstatic : methM.isStatic = true := Cond.static_spec hnamed hmethM hstat
  obtain ⟨kP, hkP, -⟩ := className_of_methodNamed hnamed
  have hinitP : kP.init = .initialized := Cond.initialized_spec (findClass_of_methodNamed hnamed) hkP hinit
  obtain ⟨vm₁, X₁, hstep₁⟩ := X.invokestatic hexec hown hlink hnamed hmethM hstatic hkP hinitP hy (g := g) hg (argsL := argsL) (rest := rest) (hlen _ hsigM) hstack hdg
  rcases hK m meth c ⟨T.setVm vm₁, locs, cells, slots⟩ { g with stack := rest } (.invokestatic index) mk argsL.toArray X₁ hg hsize hdg hW (X₁.named hnamed) (hpre vm₁ X₁.warmed) with ⟨v, B, X', hpost, hsteps⟩ | ⟨q, B, X', hpost, hsteps⟩
  · exact Or.inl ⟨v, vm₁, B, X₁.warmed, X', hpost, fun target h => hstep₁ _ fun acts => by rw [doInvoke_state]; exact hsteps.trans h⟩
  · exact Or.inr ⟨q, vm₁, B, X₁.warmed, X', hpost, hstep₁ _ fun acts => by rw [doInvoke_state]; exact hsteps⟩
theorem vx_callVW (X : Stand p l e R s m args below meth c T locs cells slots) (hexec : p.tables.exec = Jvm.exec) {own C : String} {index : Nat} {y : MethodName} {bytes : ByteArray} {maxL : Nat} {ret : Option FieldType} {hh : List (Nat × Nat × Nat × Nat)}
    (hown : s.vm.findClass own = some m.cls) (hlink : (Cond.methodLink own index y).before args s = true) (hinst : (Cond.instanceMethod y).before args s = true) (hsel : (Cond.selects C y y).before args s = true)
    (hcode : (Cond.codeWith y bytes maxL ret hh).before args s = true) (hy : y.cls ≠ "java/lang/invoke/MethodHandle" ∧ y.cls ≠ "java/lang/invoke/VarHandle")
    {W9 : Nat} {Pre : Pt → Array Value → Prop} {Post : Pt → Array Value → Option Value → Pt → Prop} (hK : Back l R p e below s args y 3 W9 Pre Post)
    {b : Addr} {cellB : Cell} (hcell : T.heap[b]? = some cellB) (hobj : cellB.vm.isStatics = false) (hcls : s.vm.findClass C = some cellB.cls)
    {g : JFrame} (hg : g.method = m) (hsize : g.locals.size = c.maxLocals) {argsL rest : List Value} (hlen : ∀ sig, parseMethodDescriptor y.desc = some sig → argsL.length = sig.parameters.length)
    (hstack : g.stack = argsL.reverse ++ .ref b :: rest) (hW : 2 * g.monitorRoom + (rest.map fun v => v.category).sum ≤ W9) (hdg : decode c.code g.pc = .ok (.invokevirtual index, 3))
    (hpre : ∀ vm₁, s.WarmedH vm₁ → Pre ⟨T.setVm vm₁, locs, cells, slots⟩ (Value.ref b :: argsL).toArray) :
    ∃ (v : Option Value) (vm₁ : Vm) (B : Pt), s.WarmedH vm₁ ∧ Stand p l e R s m args below meth c B.U B.locs B.cells B.slots ∧ Post ⟨T.setVm vm₁, locs, cells, slots⟩ (Value.ref b :: argsL).toArray v B ∧
      ∀ target, Steps p.tables e below (B.U.setTop { g with pc := g.pc + 3, stack := v.toList ++ rest }) target → Steps p.tables e below (T.setTop g) target := by
  obtain ⟨mk, methM, hnamed, hmethM, hstM, habM⟩ := Cond.instanceMethod_spec hinst
  obtain ⟨m8, methM', cM, hn8, hmethM', -, -, -, -, -, -, hsigM⟩ := Cond.codeWith_spec hcode
  cases Option.some.inj (hn8.symm.trans hnamed)
  cases hmethM.symm.trans hmethM'
  obtain ⟨c2, r2, m2, q1, q2, q3, q4, kP, hkP, hkPi⟩ := Cond.selects_spec hsel
  cases hcls.symm.trans q1
  cases (State.methodFound?_of_named hnamed hy).symm.trans q2
  cases hnamed.symm.trans q3
  have hselP : selectMethod e.platform s.vm cellB.cls mk = .method mk := by rw [Launch.admits_selectMethod X.admits]; exact q4
  obtain ⟨vm₁, X₁, hstep₁⟩ := X.invokevirtual hexec hown hlink hnamed hmethM hstM hkP hkPi hy (a := b) (cell := cellB) hcell
    (fun z h => by rw [h] at hobj; cases hobj) hselP hmethM habM hkP hkPi (g := g) hg (argsL := argsL) (rest := rest) (hlen _ hsigM) hstack hdg
  obtain ⟨v, B, X', hpost, hsteps⟩ := hK m meth c ⟨T.setVm vm₁, locs, cells, slots⟩ { g with stack := rest } (.invokevirtual index) mk (Value.ref b :: argsL).toArray X₁ hg hsize hdg hW (X₁.named hnamed) (hpre vm₁ X₁.warmed)
  exact ⟨v, vm₁, B, X₁.warmed, X', hpost, fun target h => hstep₁ _ fun acts => by rw [doInvoke_state]; exact hsteps.trans h⟩
abbrev vx_CVW (R : Room) (s : State) (args : Array Value) (own C : String) (index : Nat) (y : MethodName) (bytes : ByteArray) (maxL : Nat) (ret : Option FieldType) (hh : List (Nat × Nat × Nat × Nat)) (ws : List Cond) (rm : Room) (mc ms n : Nat) : Prop :=
  (rm.cells = mc ∧ rm.slots = ms ∧ rm.frames + 1 ≤ R.frames ∧ 8 + (maxL + 11) + rm.locals ≤ R.locals ∧ (∀ w ∈ ws, ∀ (a' : Array Value) (U : State), s.WarmedH U.vm → w.before a' U = true) ∧ Cond.codeWith y bytes maxL ret hh ∈ ws) ∧
  (Cond.codeWith y bytes maxL ret hh).before args s = true ∧ (Cond.initialized y.cls).before args s = true ∧ (y.cls ≠ "java/lang/invoke/MethodHandle" ∧ y.cls ≠ "java/lang/invoke/VarHandle") ∧
  (∀ sig, parseMethodDescriptor y.desc = some sig → n = sig.parameters.length) ∧ (Cond.methodLink own index y).before args s = true ∧ (Cond.instanceMethod y).before args s = true ∧ (Cond.selects C y y).before args s = true
theorem vx_cwVW {own C : String} {index maxL mc ms : Nat} {y : MethodName} {bytes : ByteArray} {ret : Option FieldType} {hh : List (Nat × Nat × Nat × Nat)} {Ts ws ws' : List Cond} {rm : Room} (n : Nat) (ht : ∀ w ∈ Ts, w.before args s = true) (hT : GoodIn Ts (wsV own index C y ws)) (hw : ws = Cond.codeWith y bytes maxL ret hh :: ws') (hrc : rm.cells = mc) (hrs : rm.slots = ms)
    (hd : y.cls = C ∧ y.cls ≠ "java/lang/invoke/MethodHandle" ∧ y.cls ≠ "java/lang/invoke/VarHandle" ∧ (parseMethodDescriptor y.desc).map (fun d => d.parameters.length) = some n) (hR : rm.frames + 1 ≤ R.frames ∧ 8 + (maxL + 11) + rm.locals ≤ R.locals) :
    vx_CVW R s args own C index y bytes maxL ret hh ws rm mc ms n := by
  obtain ⟨hC, hd⟩ := hd
  subst hC
  have ok : ∀ w ∈ wsV own index y.cls y ws, w.before args s = true := fun w h => ht w (hT w h).1
  have hG : GoodIn Ts ws := fun w h => hT w (by unfold wsV; exact List.mem_append_right _ h)
  have hc : Cond.codeWith y bytes maxL ret hh ∈ ws := by rw [hw]; exact List.mem_cons_self
  refine ⟨⟨hrc, hrs, hR.1, hR.2, pay_in ht hG, hc⟩, ht _ (hG _ hc).1, ok _ (by simp [wsV]), ⟨hd.1, hd.2.1⟩, fun sig h => ?_, ok _ (by simp [wsV]), ok _ (by simp [wsV]), ok _ (by simp [wsV])⟩
  have h2 := hd.2.2
  rw [h] at h2
  exact (Option.some.inj h2).symm
theorem vx_runVW {y : MethodName} {bytes cc : ByteArray} {maxL nL mc ms n index : Nat} {ret : Option FieldType} {hh : List (Nat × Nat × Nat × Nat)} {ws : List Cond} {rm : Room} {Pc : Array Value → State → Prop} {Qc : Array Value → State → Outcome → State → Prop} {free : Addr → Prop} {Ts : List Cond} {own C : String} {b : Addr} {As rest : List Value} {g : JFrame}
    (S : CallFix p m c cc nL s args Ts own) (hM : Met l y ws rm Pc Qc mc ms free) (cw : vx_CVW R s args own C index y bytes maxL ret hh ws rm mc ms n) (hp : PreV s H C b Pc As)
    (hg : g.method = m) (hn : As.length = n) (hsize : g.locals.size = nL) (hstack : g.stack = As.reverse ++ .ref b :: rest) (hW : 2 * g.monitorRoom + (rest.map fun v => v.category).sum ≤ 8) (hdg : decode cc g.pc = .ok (.invokevirtual index, 3)) (hf : cells + mc ≤ R.cells ∧ slots + ms ≤ R.slots) :
    va_Run p l e R s m args below meth c H locs cells slots mc ms g rest (Qc (Value.ref b :: As).toArray) free := by
  obtain ⟨⟨hrc, hrs, hfr, hlo, hws, hcw⟩, hcode, hini, hy, hlen, hl, hin, hse⟩ := cw
  have hK : Back l R p e below s args y 3 8 (PreOf R mc ms Pc) (PostOf Qc mc ms free) := va_backW (hh := hh) (bytes := bytes) (maxL := maxL) (ret := ret) hM hp.1 hrc hrs hfr hlo hws hcw (fun a' U hW => word_at hW (Or.inl (by first | rfl | simp [Cond.onTables, Cond.keeps, Cond.steady])) hini)
  obtain ⟨hx, hb, hml, ho, -⟩ := S
  obtain ⟨-, ⟨cellB, hcB, hoB, hclB⟩, hPc⟩ := hp
  intro T hT X
  obtain ⟨v, vm₁, ⟨U', l2, c2, s2⟩, hW₁, X', ⟨g', mk, t, L, e1, e2, hq, h1, hL, h2, h3⟩, st⟩ := vx_callVW X hx (C := C) (hh := hh) (bytes := bytes) (maxL := maxL) (ret := ret) ho hl hin hse hcode hy hK (by rw [hT]; exact hcB) hoB hclB hg (hsize.trans hml.symm) (argsL := As) (rest := rest) (fun sig h => hn.trans (hlen sig h)) hstack hW (by rw [hb]; exact hdg)
    (fun vm₁ hW₁ => ⟨hf.1, hf.2, hPc (T.setVm vm₁) hT hW₁⟩)
  dsimp only [Pt.U, Pt.locs, Pt.cells, Pt.slots] at X' e1 e2 h1 h2 h3 st
  subst h1; subst h2; subst h3
  exact ⟨v, (T.setVm vm₁).calling g' mk (Value.ref b :: As).toArray, t, U', L, hT, X', hL, e1, e2, hq, st⟩
section
variable {y : MethodName} {bytes cc : ByteArray} {maxL nL mc ms n index : Nat} {ret : Option FieldType} {ws : List Cond} {rm : Room} {Pc : Array Value → State → Prop} {Qc : Array Value → State → Outcome → State → Prop} {XC : String → State → State → Prop} {free : Addr → Prop} {Ts : List Cond} {own C : String} {b : Addr} {As rest : List Value} {g : JFrame}
theorem vx_runVX {hh : List (Nat × Nat × Nat × Nat)} (S : CallFix p m c cc nL s args Ts own) (hM : vx_Met l y ws rm Pc Qc XC mc ms free) (cw : vx_CVW R s args own C index y bytes maxL ret hh ws rm mc ms n) (hp : PreV s H C b Pc As)
    (hg : g.method = m) (hn : As.length = n) (hsize : g.locals.size = nL) (hstack : g.stack = As.reverse ++ .ref b :: rest) (hW : 2 * g.monitorRoom + (rest.map fun v => v.category).sum ≤ 8) (hdg : decode cc g.pc = .ok (.invokevirtual index, 3)) (hf : cells + mc ≤ R.cells ∧ slots + ms ≤ R.slots) :
    vx_Run p l e R s m args below meth c H locs cells slots mc ms g rest (Qc (Value.ref b :: As).toArray) XC free := by
  obtain ⟨⟨hrc, hrs, hfr, hlo, hws, hcw⟩, hcode, hini, hy, hlen, hl, hin, hse⟩ := cw
  have hK : vx_Back l R p e below s args y 3 8 (PreOf R mc ms Pc) (PostOf Qc mc ms free) (vx_Post XC mc ms free) := vx_backW (hh := hh) (bytes := bytes) (maxL := maxL) (ret := ret) hM hp.1 hrc hrs hfr hlo hws hcw (fun a' U hW => word_at hW (Or.inl (by first | rfl | simp [Cond.onTables, Cond.keeps, Cond.steady])) hini)
  obtain ⟨hx, hb, hml, ho, -⟩ := S
  obtain ⟨-, ⟨cellB, hcB, hoB, hclB⟩, hPc⟩ := hp
  intro T hT X
  rcases vx_callVX X hx (C := C) (hh := hh) (bytes := bytes) (maxL := maxL) (ret := ret) ho hl hin hse hcode hy hK (by rw [hT]; exact hcB) hoB hclB hg (hsize.trans hml.symm) (argsL := As) (rest := rest) (fun sig h => hn.trans (hlen sig h)) hstack hW (by rw [hb]; exact hdg)
    (fun vm₁ hW₁ => ⟨hf.1, hf.2, hPc (T.setVm vm₁) hT hW₁⟩) with ⟨v, vm₁, ⟨U', l2, c2, s2⟩, hW₁, X', ⟨g', mk, t, L, e1, e2, hq, h1, hL, h2, h3⟩, st⟩ | ⟨q, vm₁, ⟨U', l2, c2, s2⟩, hW₁, X', ⟨g', mk, t, L, E, ce, e1, e2, hq, hce, hcv, hcl, h1, hL, h2, h3⟩, st⟩
  · dsimp only [Pt.U, Pt.locs, Pt.cells, Pt.slots] at X' e1 e2 h1 h2 h3 st
    subst h1; subst h2; subst h3
    exact Or.inl ⟨v, (T.setVm vm₁).calling g' mk (Value.ref b :: As).toArray, t, U', L, hT, X', hL, e1, e2, hq, st⟩
  · dsimp only [Pt.U, Pt.locs, Pt.cells, Pt.slots] at X' e1 e2 h1 h2 h3 st hcl
    subst h1; subst h2; subst h3
    exact Or.inr ⟨q, (T.setVm vm₁).calling g' mk (Value.ref b :: As).toArray, t, U', L, E, ce, hT, X', hL, e1, e2, hq, hce, hcv, vx_cls hW₁ hcl, st⟩
theorem vx_runSX {hh : List (Nat × Nat × Nat × Nat)} (S : CallFix p m c cc nL s args Ts own) (hM : vx_Met l y ws rm Pc Qc XC mc ms free) (cw : vx_CSW R s args own index y bytes maxL ret hh ws rm mc ms n) (hp : PreS s H Pc As)
    (hg : g.method = m) (hn : As.length = n) (hsize : g.locals.size = nL) (hstack : g.stack = As.reverse ++ rest) (hW : 2 * g.monitorRoom + (rest.map fun v => v.category).sum ≤ 8) (hdg : decode cc g.pc = .ok (.invokestatic index, 3)) (hf : cells + mc ≤ R.cells ∧ slots + ms ≤ R.slots) :
    vx_Run p l e R s m args below meth c H locs cells slots mc ms g rest (Qc As.toArray) XC free := by
  obtain ⟨⟨hrc, hrs, hfr, hlo, hws, hcw⟩, hcode, hini, hy, hlen, hl, hstt⟩ := cw
  have hK : vx_Back l R p e below s args y 3 8 (PreOf R mc ms Pc) (PostOf Qc mc ms free) (vx_Post XC mc ms free) := vx_backW (hh := hh) (bytes := bytes) (maxL := maxL) (ret := ret) hM hp.1 hrc hrs hfr hlo hws hcw (fun a' U hW => word_at hW (Or.inl (by first | rfl | simp [Cond.onTables, Cond.keeps, Cond.steady])) hini)
  obtain ⟨hx, hb, hml, ho, -⟩ := S
  intro T hT X
  rcases vx_callSX X hx (hh := hh) (bytes := bytes) (maxL := maxL) (ret := ret) ho hl hstt hini hcode hy hK hg (hsize.trans hml.symm) (argsL := As) (rest := rest) (fun sig h => hn.trans (hlen sig h)) hstack hW (by rw [hb]; exact hdg)
    (fun vm₁ hW₁ => ⟨hf.1, hf.2, hp.2 (T.setVm vm₁) hT hW₁⟩) with ⟨v, vm₁, ⟨U', l2, c2, s2⟩, hW₁, X', ⟨g', mk, t, L, e1, e2, hq, h1, hL, h2, h3⟩, st⟩ | ⟨q, vm₁, ⟨U', l2, c2, s2⟩, hW₁, X', ⟨g', mk, t, L, E, ce, e1, e2, hq, hce, hcv, hcl, h1, hL, h2, h3⟩, st⟩
  · dsimp only [Pt.U, Pt.locs, Pt.cells, Pt.slots] at X' e1 e2 h1 h2 h3 st
    subst h1; subst h2; subst h3
    exact Or.inl ⟨v, (T.setVm vm₁).calling g' mk As.toArray, t, U', L, hT, X', hL, e1, e2, hq, st⟩
  · dsimp only [Pt.U, Pt.locs, Pt.cells, Pt.slots] at X' e1 e2 h1 h2 h3 st hcl
    subst h1; subst h2; subst h3
    exact Or.inr ⟨q, (T.setVm vm₁).calling g' mk As.toArray, t, U', L, E, ce, hT, X', hL, e1, e2, hq, hce, hcv, vx_cls hW₁ hcl, st⟩
end
end VXH
theorem vx_ofWH {l : Launch} {y : MethodName} {ws ws' : List Cond} {rm : Room} {Pc : Array Value → State → Prop} {Qc : Array Value → State → Outcome → State → Prop} {XC : String → State → State → Prop} {mc ms : Nat} {free : Addr → Prop} {cc : ByteArray} {maxL : Nat} {ret : Option FieldType} {hh : List (Nat × Nat × Nat × Nat)}
    (hy : plainName y.cls = true) (hw : ws = Cond.codeWith y cc maxL ret hh :: ws')
    (body : ∀ p e s m args below meth c s₁, BodyLoose p l y (headSpec ws rm) cc maxL ret e s m args below meth c s₁ → c.maxLocals = maxL → Pc args s →
      W p l e (headSpec ws rm).room s m args below meth c s.heap [] 0 0 (vx_MQ below Qc XC args s mc ms free) (entryFrame m args maxL)) : vx_Met l y ws rm Pc Qc XC mc ms free := by
  refine MetFree.of_bodyS (code := cc) (maxLocals := maxL) (ret := ret) hy ?_ ?_
  · intro args s m h hn
    obtain ⟨m9, meth, c, hn9, h1, h2, h3, h4, -, h5, h6, -⟩ := Cond.codeWith_spec (atoms_spec (ws := ws) h _ (by rw [hw]; exact List.mem_cons_self))
    cases hn.symm.trans hn9
    exact ⟨meth, c, h1, h2, h3, h4, h5, h6⟩
  · intro p e s m args below meth c s₁ B hml hP _
    have hh0 : s₁.heap = s.heap := by rw [B.state]; rfl
    obtain ⟨t, a1, o, b1, b2, b3⟩ := body p e s m args below meth c s₁ B hml hP s₁ hh0 (Stand.of_body B)
    exact ⟨t, o, a1, b1, b2, b3⟩
/-! ===== END ===== -/
end
section
-- ===== PART A: goes FIRST, ahead of the names: the tables' words, and 'selects' of the private methods out of them =====
/-- a private method of a class that the tables say can be made, by its rows of tables_1 -/
def lw_okq (q : MethodName × Nat) : Prop := (q.1.cls ≠ "java/lang/invoke/MethodHandle" ∧ q.1.cls ≠ "java/lang/invoke/VarHandle") ∧ Cond.instantiable q.1.cls q.2 ∈ tables_1 ∧ Cond.privateMethod q.1 ∈ tables_1 ∧ Cond.instanceMethod q.1 ∈ tables_1
theorem lw_p0 : lw_okq (⟨"PreimageAnalyzer$SubsetAutomaton", "readSingle", "(LPreimageAnalyzer$Rule;)V"⟩, 9) := ⟨⟨by decide +kernel, by decide +kernel⟩, List.mem_of_getElem? (i := 217) (by decide +kernel), List.mem_of_getElem? (i := 379) (by decide +kernel), List.mem_of_getElem? (i := 380) (by decide +kernel)⟩
theorem lw_p1 : lw_okq (⟨"PreimageAnalyzer$SubsetAutomaton", "placeOf", "(III)I"⟩, 9) := ⟨⟨by decide +kernel, by decide +kernel⟩, List.mem_of_getElem? (i := 217) (by decide +kernel), List.mem_of_getElem? (i := 386) (by decide +kernel), List.mem_of_getElem? (i := 387) (by decide +kernel)⟩
theorem lw_p2 : lw_okq (⟨"PreimageAnalyzer$SubsetAutomaton", "successors", "(LPreimageAnalyzer$Rule;II)I"⟩, 9) := ⟨⟨by decide +kernel, by decide +kernel⟩, List.mem_of_getElem? (i := 217) (by decide +kernel), List.mem_of_getElem? (i := 390) (by decide +kernel), List.mem_of_getElem? (i := 391) (by decide +kernel)⟩
theorem lw_p3 : lw_okq (⟨"PreimageAnalyzer$NodePairs", "readSteps", "(LPreimageAnalyzer$Rule;)V"⟩, 1) := ⟨⟨by decide +kernel, by decide +kernel⟩, List.mem_of_getElem? (i := 252) (by decide +kernel), List.mem_of_getElem? (i := 402) (by decide +kernel), List.mem_of_getElem? (i := 403) (by decide +kernel)⟩
theorem lw_p4 : lw_okq (⟨"java/lang/Throwable", "fillInStackTrace", "(I)Ljava/lang/Throwable;"⟩, 6) := ⟨⟨by decide +kernel, by decide +kernel⟩, List.mem_of_getElem? (i := 486) (by decide +kernel), List.mem_of_getElem? (i := 484) (by decide +kernel), List.mem_of_getElem? (i := 485) (by decide +kernel)⟩
theorem lw_p5 : lw_okq (⟨"PreimageAnalyzer", "needNeighborhood", "(I)V"⟩, 13) := ⟨⟨by decide +kernel, by decide +kernel⟩, List.mem_of_getElem? (i := 33) (by decide +kernel), List.mem_of_getElem? (i := 573) (by decide +kernel), List.mem_of_getElem? (i := 574) (by decide +kernel)⟩
theorem lw_p6 : lw_okq (⟨"PreimageAnalyzer$Formula", "readSign", "(III)I"⟩, 10) := ⟨⟨by decide +kernel, by decide +kernel⟩, List.mem_of_getElem? (i := 130) (by decide +kernel), List.mem_of_getElem? (i := 661) (by decide +kernel), List.mem_of_getElem? (i := 662) (by decide +kernel)⟩
theorem lw_p7 : lw_okq (⟨"PreimageAnalyzer$Formula", "readOperand", "(II)I"⟩, 10) := ⟨⟨by decide +kernel, by decide +kernel⟩, List.mem_of_getElem? (i := 130) (by decide +kernel), List.mem_of_getElem? (i := 665) (by decide +kernel), List.mem_of_getElem? (i := 666) (by decide +kernel)⟩
theorem lw_p8 : lw_okq (⟨"PreimageAnalyzer$Formula", "emit", "(I)V"⟩, 10) := ⟨⟨by decide +kernel, by decide +kernel⟩, List.mem_of_getElem? (i := 130) (by decide +kernel), List.mem_of_getElem? (i := 669) (by decide +kernel), List.mem_of_getElem? (i := 670) (by decide +kernel)⟩
theorem lw_p9 : lw_okq (⟨"PreimageAnalyzer$Formula", "endFactor", "()I"⟩, 10) := ⟨⟨by decide +kernel, by decide +kernel⟩, List.mem_of_getElem? (i := 130) (by decide +kernel), List.mem_of_getElem? (i := 673) (by decide +kernel), List.mem_of_getElem? (i := 674) (by decide +kernel)⟩
theorem lw_p10 : lw_okq (⟨"PreimageAnalyzer$Formula", "lastWaiting", "()I"⟩, 10) := ⟨⟨by decide +kernel, by decide +kernel⟩, List.mem_of_getElem? (i := 130) (by decide +kernel), List.mem_of_getElem? (i := 677) (by decide +kernel), List.mem_of_getElem? (i := 678) (by decide +kernel)⟩
theorem lw_p11 : lw_okq (⟨"PreimageAnalyzer$Formula", "hold", "(II)I"⟩, 10) := ⟨⟨by decide +kernel, by decide +kernel⟩, List.mem_of_getElem? (i := 130) (by decide +kernel), List.mem_of_getElem? (i := 681) (by decide +kernel), List.mem_of_getElem? (i := 682) (by decide +kernel)⟩
theorem lw_p12 : lw_okq (⟨"PreimageAnalyzer$Formula", "refuse", "()I"⟩, 10) := ⟨⟨by decide +kernel, by decide +kernel⟩, List.mem_of_getElem? (i := 130) (by decide +kernel), List.mem_of_getElem? (i := 685) (by decide +kernel), List.mem_of_getElem? (i := 686) (by decide +kernel)⟩
theorem lw_p13 : lw_okq (⟨"PreimageAnalyzer$Formula", "readOperator", "(I)I"⟩, 10) := ⟨⟨by decide +kernel, by decide +kernel⟩, List.mem_of_getElem? (i := 130) (by decide +kernel), List.mem_of_getElem? (i := 689) (by decide +kernel), List.mem_of_getElem? (i := 690) (by decide +kernel)⟩
theorem lw_p14 : lw_okq (⟨"PreimageAnalyzer$Formula", "moveOperators", "(I)V"⟩, 10) := ⟨⟨by decide +kernel, by decide +kernel⟩, List.mem_of_getElem? (i := 130) (by decide +kernel), List.mem_of_getElem? (i := 697) (by decide +kernel), List.mem_of_getElem? (i := 698) (by decide +kernel)⟩
theorem lw_p15 : lw_okq (⟨"PreimageAnalyzer$Formula", "valueForCells", "()I"⟩, 10) := ⟨⟨by decide +kernel, by decide +kernel⟩, List.mem_of_getElem? (i := 130) (by decide +kernel), List.mem_of_getElem? (i := 706) (by decide +kernel), List.mem_of_getElem? (i := 707) (by decide +kernel)⟩
def lw_privs_1 : List (MethodName × Nat) := [(⟨"PreimageAnalyzer$SubsetAutomaton", "readSingle", "(LPreimageAnalyzer$Rule;)V"⟩, 9), (⟨"PreimageAnalyzer$SubsetAutomaton", "placeOf", "(III)I"⟩, 9), (⟨"PreimageAnalyzer$SubsetAutomaton", "successors", "(LPreimageAnalyzer$Rule;II)I"⟩, 9), (⟨"PreimageAnalyzer$NodePairs", "readSteps", "(LPreimageAnalyzer$Rule;)V"⟩, 1), (⟨"java/lang/Throwable", "fillInStackTrace", "(I)Ljava/lang/Throwable;"⟩, 6), (⟨"PreimageAnalyzer", "needNeighborhood", "(I)V"⟩, 13), (⟨"PreimageAnalyzer$Formula", "readSign", "(III)I"⟩, 10), (⟨"PreimageAnalyzer$Formula", "readOperand", "(II)I"⟩, 10), (⟨"PreimageAnalyzer$Formula", "emit", "(I)V"⟩, 10), (⟨"PreimageAnalyzer$Formula", "endFactor", "()I"⟩, 10), (⟨"PreimageAnalyzer$Formula", "lastWaiting", "()I"⟩, 10), (⟨"PreimageAnalyzer$Formula", "hold", "(II)I"⟩, 10), (⟨"PreimageAnalyzer$Formula", "refuse", "()I"⟩, 10), (⟨"PreimageAnalyzer$Formula", "readOperator", "(I)I"⟩, 10), (⟨"PreimageAnalyzer$Formula", "moveOperators", "(I)V"⟩, 10), (⟨"PreimageAnalyzer$Formula", "valueForCells", "()I"⟩, 10)]
theorem lw_r1 : ∀ q ∈ lw_privs_1, lw_okq q := List.forall_mem_cons.mpr ⟨lw_p0, List.forall_mem_cons.mpr ⟨lw_p1, List.forall_mem_cons.mpr ⟨lw_p2, List.forall_mem_cons.mpr ⟨lw_p3, List.forall_mem_cons.mpr ⟨lw_p4, List.forall_mem_cons.mpr ⟨lw_p5, List.forall_mem_cons.mpr ⟨lw_p6, List.forall_mem_cons.mpr ⟨lw_p7, List.forall_mem_cons.mpr ⟨lw_p8, List.forall_mem_cons.mpr ⟨lw_p9, List.forall_mem_cons.mpr ⟨lw_p10, List.forall_mem_cons.mpr ⟨lw_p11, List.forall_mem_cons.mpr ⟨lw_p12, List.forall_mem_cons.mpr ⟨lw_p13, List.forall_mem_cons.mpr ⟨lw_p14, List.forall_mem_cons.mpr ⟨lw_p15, fun _ h => absurd h List.not_mem_nil⟩⟩⟩⟩⟩⟩⟩⟩⟩⟩⟩⟩⟩⟩⟩⟩
theorem lw_p16 : lw_okq (⟨"PreimageAnalyzer$Formula", "combine", "(III)I"⟩, 10) := ⟨⟨by decide +kernel, by decide +kernel⟩, List.mem_of_getElem? (i := 130) (by decide +kernel), List.mem_of_getElem? (i := 710) (by decide +kernel), List.mem_of_getElem? (i := 711) (by decide +kernel)⟩
theorem lw_p17 : lw_okq (⟨"PreimageAnalyzer$Images", "readLabels", "(LPreimageAnalyzer$Rule;I)I"⟩, 4) := ⟨⟨by decide +kernel, by decide +kernel⟩, List.mem_of_getElem? (i := 170) (by decide +kernel), List.mem_of_getElem? (i := 748) (by decide +kernel), List.mem_of_getElem? (i := 749) (by decide +kernel)⟩
theorem lw_p18 : lw_okq (⟨"PreimageAnalyzer", "takeLabels", "(I)V"⟩, 13) := ⟨⟨by decide +kernel, by decide +kernel⟩, List.mem_of_getElem? (i := 33) (by decide +kernel), List.mem_of_getElem? (i := 1075) (by decide +kernel), List.mem_of_getElem? (i := 1076) (by decide +kernel)⟩
theorem lw_p19 : lw_okq (⟨"PreimageAnalyzer$Paths", "countTo", "(LPreimageAnalyzer$Rule;I)V"⟩, 5) := ⟨⟨by decide +kernel, by decide +kernel⟩, List.mem_of_getElem? (i := 191) (by decide +kernel), List.mem_of_getElem? (i := 1092) (by decide +kernel), List.mem_of_getElem? (i := 1093) (by decide +kernel)⟩
theorem lw_p20 : lw_okq (⟨"PreimageAnalyzer$Paths", "countBackwards", "(LPreimageAnalyzer$Rule;)V"⟩, 5) := ⟨⟨by decide +kernel, by decide +kernel⟩, List.mem_of_getElem? (i := 191) (by decide +kernel), List.mem_of_getElem? (i := 1097) (by decide +kernel), List.mem_of_getElem? (i := 1098) (by decide +kernel)⟩
theorem lw_p21 : lw_okq (⟨"PreimageAnalyzer$Paths", "waysBy", "(LPreimageAnalyzer$Rule;II)I"⟩, 5) := ⟨⟨by decide +kernel, by decide +kernel⟩, List.mem_of_getElem? (i := 191) (by decide +kernel), List.mem_of_getElem? (i := 1101) (by decide +kernel), List.mem_of_getElem? (i := 1102) (by decide +kernel)⟩
theorem lw_p22 : lw_okq (⟨"PreimageAnalyzer$Paths", "countToAnywhere", "(LPreimageAnalyzer$Rule;)V"⟩, 5) := ⟨⟨by decide +kernel, by decide +kernel⟩, List.mem_of_getElem? (i := 191) (by decide +kernel), List.mem_of_getElem? (i := 1109) (by decide +kernel), List.mem_of_getElem? (i := 1110) (by decide +kernel)⟩
theorem lw_p23 : lw_okq (⟨"PreimageAnalyzer$Paths", "walk", "(LPreimageAnalyzer$Rule;II)I"⟩, 5) := ⟨⟨by decide +kernel, by decide +kernel⟩, List.mem_of_getElem? (i := 191) (by decide +kernel), List.mem_of_getElem? (i := 1129) (by decide +kernel), List.mem_of_getElem? (i := 1130) (by decide +kernel)⟩
theorem lw_p24 : lw_okq (⟨"PreimageAnalyzer", "needNode", "(I)V"⟩, 13) := ⟨⟨by decide +kernel, by decide +kernel⟩, List.mem_of_getElem? (i := 33) (by decide +kernel), List.mem_of_getElem? (i := 1164) (by decide +kernel), List.mem_of_getElem? (i := 1165) (by decide +kernel)⟩
theorem lw_p25 : lw_okq (⟨"PreimageAnalyzer$Paths", "stepForward", "(LPreimageAnalyzer$Rule;I)V"⟩, 5) := ⟨⟨by decide +kernel, by decide +kernel⟩, List.mem_of_getElem? (i := 191) (by decide +kernel), List.mem_of_getElem? (i := 1185) (by decide +kernel), List.mem_of_getElem? (i := 1186) (by decide +kernel)⟩
theorem lw_p26 : lw_okq (⟨"PreimageAnalyzer$Paths", "moveToNextWord", "(LPreimageAnalyzer$Rule;I)I"⟩, 5) := ⟨⟨by decide +kernel, by decide +kernel⟩, List.mem_of_getElem? (i := 191) (by decide +kernel), List.mem_of_getElem? (i := 1190) (by decide +kernel), List.mem_of_getElem? (i := 1191) (by decide +kernel)⟩
theorem lw_p27 : lw_okq (⟨"PreimageAnalyzer$SubsetAutomaton", "countNext", "(LPreimageAnalyzer$Rule;)V"⟩, 9) := ⟨⟨by decide +kernel, by decide +kernel⟩, List.mem_of_getElem? (i := 217) (by decide +kernel), List.mem_of_getElem? (i := 1238) (by decide +kernel), List.mem_of_getElem? (i := 1239) (by decide +kernel)⟩
theorem lw_p28 : lw_okq (⟨"PreimageAnalyzer$Rule", "areDifferent", "(II)Z"⟩, 9) := ⟨⟨by decide +kernel, by decide +kernel⟩, List.mem_of_getElem? (i := 41) (by decide +kernel), List.mem_of_getElem? (i := 1273) (by decide +kernel), List.mem_of_getElem? (i := 1274) (by decide +kernel)⟩
theorem lw_p29 : lw_okq (⟨"PreimageAnalyzer", "needInverse", "()V"⟩, 13) := ⟨⟨by decide +kernel, by decide +kernel⟩, List.mem_of_getElem? (i := 33) (by decide +kernel), List.mem_of_getElem? (i := 1294) (by decide +kernel), List.mem_of_getElem? (i := 1295) (by decide +kernel)⟩
theorem lw_p30 : lw_okq (⟨"PreimageAnalyzer$InverseSearch", "lengthenWords", "(LPreimageAnalyzer$Rule;I)V"⟩, 4) := ⟨⟨by decide +kernel, by decide +kernel⟩, List.mem_of_getElem? (i := 263) (by decide +kernel), List.mem_of_getElem? (i := 1304) (by decide +kernel), List.mem_of_getElem? (i := 1305) (by decide +kernel)⟩
theorem lw_p31 : lw_okq (⟨"PreimageAnalyzer$InverseSearch", "commonPositions", "(LPreimageAnalyzer$Rule;I)I"⟩, 4) := ⟨⟨by decide +kernel, by decide +kernel⟩, List.mem_of_getElem? (i := 263) (by decide +kernel), List.mem_of_getElem? (i := 1309) (by decide +kernel), List.mem_of_getElem? (i := 1310) (by decide +kernel)⟩
def lw_privs_2 : List (MethodName × Nat) := [(⟨"PreimageAnalyzer$Formula", "combine", "(III)I"⟩, 10), (⟨"PreimageAnalyzer$Images", "readLabels", "(LPreimageAnalyzer$Rule;I)I"⟩, 4), (⟨"PreimageAnalyzer", "takeLabels", "(I)V"⟩, 13), (⟨"PreimageAnalyzer$Paths", "countTo", "(LPreimageAnalyzer$Rule;I)V"⟩, 5), (⟨"PreimageAnalyzer$Paths", "countBackwards", "(LPreimageAnalyzer$Rule;)V"⟩, 5), (⟨"PreimageAnalyzer$Paths", "waysBy", "(LPreimageAnalyzer$Rule;II)I"⟩, 5), (⟨"PreimageAnalyzer$Paths", "countToAnywhere", "(LPreimageAnalyzer$Rule;)V"⟩, 5), (⟨"PreimageAnalyzer$Paths", "walk", "(LPreimageAnalyzer$Rule;II)I"⟩, 5), (⟨"PreimageAnalyzer", "needNode", "(I)V"⟩, 13), (⟨"PreimageAnalyzer$Paths", "stepForward", "(LPreimageAnalyzer$Rule;I)V"⟩, 5), (⟨"PreimageAnalyzer$Paths", "moveToNextWord", "(LPreimageAnalyzer$Rule;I)I"⟩, 5), (⟨"PreimageAnalyzer$SubsetAutomaton", "countNext", "(LPreimageAnalyzer$Rule;)V"⟩, 9), (⟨"PreimageAnalyzer$Rule", "areDifferent", "(II)Z"⟩, 9), (⟨"PreimageAnalyzer", "needInverse", "()V"⟩, 13), (⟨"PreimageAnalyzer$InverseSearch", "lengthenWords", "(LPreimageAnalyzer$Rule;I)V"⟩, 4), (⟨"PreimageAnalyzer$InverseSearch", "commonPositions", "(LPreimageAnalyzer$Rule;I)I"⟩, 4)]
theorem lw_r2 : ∀ q ∈ lw_privs_2, lw_okq q := List.forall_mem_cons.mpr ⟨lw_p16, List.forall_mem_cons.mpr ⟨lw_p17, List.forall_mem_cons.mpr ⟨lw_p18, List.forall_mem_cons.mpr ⟨lw_p19, List.forall_mem_cons.mpr ⟨lw_p20, List.forall_mem_cons.mpr ⟨lw_p21, List.forall_mem_cons.mpr ⟨lw_p22, List.forall_mem_cons.mpr ⟨lw_p23, List.forall_mem_cons.mpr ⟨lw_p24, List.forall_mem_cons.mpr ⟨lw_p25, List.forall_mem_cons.mpr ⟨lw_p26, List.forall_mem_cons.mpr ⟨lw_p27, List.forall_mem_cons.mpr ⟨lw_p28, List.forall_mem_cons.mpr ⟨lw_p29, List.forall_mem_cons.mpr ⟨lw_p30, List.forall_mem_cons.mpr ⟨lw_p31, fun _ h => absurd h List.not_mem_nil⟩⟩⟩⟩⟩⟩⟩⟩⟩⟩⟩⟩⟩⟩⟩⟩
theorem lw_p32 : lw_okq (⟨"PreimageAnalyzerModel", "no", "(I)I"⟩, 42) := ⟨⟨by decide +kernel, by decide +kernel⟩, List.mem_of_getElem? (i := 1344) (by decide +kernel), List.mem_of_getElem? (i := 1492) (by decide +kernel), List.mem_of_getElem? (i := 1493) (by decide +kernel)⟩
theorem lw_p33 : lw_okq (⟨"PreimageAnalyzerModel", "all", "()I"⟩, 42) := ⟨⟨by decide +kernel, by decide +kernel⟩, List.mem_of_getElem? (i := 1344) (by decide +kernel), List.mem_of_getElem? (i := 1496) (by decide +kernel), List.mem_of_getElem? (i := 1497) (by decide +kernel)⟩
theorem lw_p34 : lw_okq (⟨"PreimageAnalyzerModel", "power", "(I)I"⟩, 42) := ⟨⟨by decide +kernel, by decide +kernel⟩, List.mem_of_getElem? (i := 1344) (by decide +kernel), List.mem_of_getElem? (i := 1500) (by decide +kernel), List.mem_of_getElem? (i := 1501) (by decide +kernel)⟩
theorem lw_p35 : lw_okq (⟨"PreimageAnalyzerModel", "nodes", "()I"⟩, 42) := ⟨⟨by decide +kernel, by decide +kernel⟩, List.mem_of_getElem? (i := 1344) (by decide +kernel), List.mem_of_getElem? (i := 1508) (by decide +kernel), List.mem_of_getElem? (i := 1509) (by decide +kernel)⟩
theorem lw_p36 : lw_okq (⟨"PreimageAnalyzerModel", "becomes", "()I"⟩, 42) := ⟨⟨by decide +kernel, by decide +kernel⟩, List.mem_of_getElem? (i := 1344) (by decide +kernel), List.mem_of_getElem? (i := 1524) (by decide +kernel), List.mem_of_getElem? (i := 1525) (by decide +kernel)⟩
theorem lw_p37 : lw_okq (⟨"PreimageAnalyzerModel", "numberOf", "([I)J"⟩, 42) := ⟨⟨by decide +kernel, by decide +kernel⟩, List.mem_of_getElem? (i := 1344) (by decide +kernel), List.mem_of_getElem? (i := 1532) (by decide +kernel), List.mem_of_getElem? (i := 1533) (by decide +kernel)⟩
theorem lw_p38 : lw_okq (⟨"PreimageAnalyzerModel", "mirrors", "([I[I)V"⟩, 42) := ⟨⟨by decide +kernel, by decide +kernel⟩, List.mem_of_getElem? (i := 1344) (by decide +kernel), List.mem_of_getElem? (i := 1540) (by decide +kernel), List.mem_of_getElem? (i := 1541) (by decide +kernel)⟩
theorem lw_p39 : lw_okq (⟨"PreimageAnalyzerModel", "turned", "(II)I"⟩, 42) := ⟨⟨by decide +kernel, by decide +kernel⟩, List.mem_of_getElem? (i := 1344) (by decide +kernel), List.mem_of_getElem? (i := 1544) (by decide +kernel), List.mem_of_getElem? (i := 1545) (by decide +kernel)⟩
theorem lw_p40 : lw_okq (⟨"PreimageAnalyzerModel", "complements", "([I[I)V"⟩, 42) := ⟨⟨by decide +kernel, by decide +kernel⟩, List.mem_of_getElem? (i := 1344) (by decide +kernel), List.mem_of_getElem? (i := 1552) (by decide +kernel), List.mem_of_getElem? (i := 1553) (by decide +kernel)⟩
theorem lw_p41 : lw_okq (⟨"PreimageAnalyzerModel", "imageOf", "(II[II)I"⟩, 42) := ⟨⟨by decide +kernel, by decide +kernel⟩, List.mem_of_getElem? (i := 1344) (by decide +kernel), List.mem_of_getElem? (i := 1564) (by decide +kernel), List.mem_of_getElem? (i := 1565) (by decide +kernel)⟩
theorem lw_p42 : lw_okq (⟨"PreimageAnalyzerModel", "isFormula", "()Z"⟩, 42) := ⟨⟨by decide +kernel, by decide +kernel⟩, List.mem_of_getElem? (i := 1344) (by decide +kernel), List.mem_of_getElem? (i := 1576) (by decide +kernel), List.mem_of_getElem? (i := 1577) (by decide +kernel)⟩
theorem lw_p43 : lw_okq (⟨"PreimageAnalyzerModel", "lets", "(I)V"⟩, 42) := ⟨⟨by decide +kernel, by decide +kernel⟩, List.mem_of_getElem? (i := 1344) (by decide +kernel), List.mem_of_getElem? (i := 1580) (by decide +kernel), List.mem_of_getElem? (i := 1581) (by decide +kernel)⟩
theorem lw_p44 : lw_okq (⟨"PreimageAnalyzerModel", "top", "()I"⟩, 42) := ⟨⟨by decide +kernel, by decide +kernel⟩, List.mem_of_getElem? (i := 1344) (by decide +kernel), List.mem_of_getElem? (i := 1584) (by decide +kernel), List.mem_of_getElem? (i := 1585) (by decide +kernel)⟩
theorem lw_p45 : lw_okq (⟨"PreimageAnalyzerModel", "emits", "(I)V"⟩, 42) := ⟨⟨by decide +kernel, by decide +kernel⟩, List.mem_of_getElem? (i := 1344) (by decide +kernel), List.mem_of_getElem? (i := 1591) (by decide +kernel), List.mem_of_getElem? (i := 1592) (by decide +kernel)⟩
theorem lw_p46 : lw_okq (⟨"PreimageAnalyzerModel", "fails", "(I)Z"⟩, 42) := ⟨⟨by decide +kernel, by decide +kernel⟩, List.mem_of_getElem? (i := 1344) (by decide +kernel), List.mem_of_getElem? (i := 1595) (by decide +kernel), List.mem_of_getElem? (i := 1596) (by decide +kernel)⟩
theorem lw_p47 : lw_okq (⟨"PreimageAnalyzerModel", "isBegun", "()Z"⟩, 42) := ⟨⟨by decide +kernel, by decide +kernel⟩, List.mem_of_getElem? (i := 1344) (by decide +kernel), List.mem_of_getElem? (i := 1599) (by decide +kernel), List.mem_of_getElem? (i := 1600) (by decide +kernel)⟩
def lw_privs_3 : List (MethodName × Nat) := [(⟨"PreimageAnalyzerModel", "no", "(I)I"⟩, 42), (⟨"PreimageAnalyzerModel", "all", "()I"⟩, 42), (⟨"PreimageAnalyzerModel", "power", "(I)I"⟩, 42), (⟨"PreimageAnalyzerModel", "nodes", "()I"⟩, 42), (⟨"PreimageAnalyzerModel", "becomes", "()I"⟩, 42), (⟨"PreimageAnalyzerModel", "numberOf", "([I)J"⟩, 42), (⟨"PreimageAnalyzerModel", "mirrors", "([I[I)V"⟩, 42), (⟨"PreimageAnalyzerModel", "turned", "(II)I"⟩, 42), (⟨"PreimageAnalyzerModel", "complements", "([I[I)V"⟩, 42), (⟨"PreimageAnalyzerModel", "imageOf", "(II[II)I"⟩, 42), (⟨"PreimageAnalyzerModel", "isFormula", "()Z"⟩, 42), (⟨"PreimageAnalyzerModel", "lets", "(I)V"⟩, 42), (⟨"PreimageAnalyzerModel", "top", "()I"⟩, 42), (⟨"PreimageAnalyzerModel", "emits", "(I)V"⟩, 42), (⟨"PreimageAnalyzerModel", "fails", "(I)Z"⟩, 42), (⟨"PreimageAnalyzerModel", "isBegun", "()Z"⟩, 42)]
theorem lw_r3 : ∀ q ∈ lw_privs_3, lw_okq q := List.forall_mem_cons.mpr ⟨lw_p32, List.forall_mem_cons.mpr ⟨lw_p33, List.forall_mem_cons.mpr ⟨lw_p34, List.forall_mem_cons.mpr ⟨lw_p35, List.forall_mem_cons.mpr ⟨lw_p36, List.forall_mem_cons.mpr ⟨lw_p37, List.forall_mem_cons.mpr ⟨lw_p38, List.forall_mem_cons.mpr ⟨lw_p39, List.forall_mem_cons.mpr ⟨lw_p40, List.forall_mem_cons.mpr ⟨lw_p41, List.forall_mem_cons.mpr ⟨lw_p42, List.forall_mem_cons.mpr ⟨lw_p43, List.forall_mem_cons.mpr ⟨lw_p44, List.forall_mem_cons.mpr ⟨lw_p45, List.forall_mem_cons.mpr ⟨lw_p46, List.forall_mem_cons.mpr ⟨lw_p47, fun _ h => absurd h List.not_mem_nil⟩⟩⟩⟩⟩⟩⟩⟩⟩⟩⟩⟩⟩⟩⟩⟩
theorem lw_p48 : lw_okq (⟨"PreimageAnalyzerModel", "here", "()I"⟩, 42) := ⟨⟨by decide +kernel, by decide +kernel⟩, List.mem_of_getElem? (i := 1344) (by decide +kernel), List.mem_of_getElem? (i := 1603) (by decide +kernel), List.mem_of_getElem? (i := 1604) (by decide +kernel)⟩
theorem lw_p49 : lw_okq (⟨"PreimageAnalyzerModel", "waitsFor", "(I)V"⟩, 42) := ⟨⟨by decide +kernel, by decide +kernel⟩, List.mem_of_getElem? (i := 1344) (by decide +kernel), List.mem_of_getElem? (i := 1607) (by decide +kernel), List.mem_of_getElem? (i := 1608) (by decide +kernel)⟩
theorem lw_p50 : lw_okq (⟨"PreimageAnalyzerModel", "isWrong", "()Z"⟩, 42) := ⟨⟨by decide +kernel, by decide +kernel⟩, List.mem_of_getElem? (i := 1344) (by decide +kernel), List.mem_of_getElem? (i := 1611) (by decide +kernel), List.mem_of_getElem? (i := 1612) (by decide +kernel)⟩
theorem lw_p51 : lw_okq (⟨"PreimageAnalyzerModel", "isGone", "()Z"⟩, 42) := ⟨⟨by decide +kernel, by decide +kernel⟩, List.mem_of_getElem? (i := 1344) (by decide +kernel), List.mem_of_getElem? (i := 1615) (by decide +kernel), List.mem_of_getElem? (i := 1616) (by decide +kernel)⟩
theorem lw_p52 : lw_okq (⟨"PreimageAnalyzerModel", "value", "(I)I"⟩, 42) := ⟨⟨by decide +kernel, by decide +kernel⟩, List.mem_of_getElem? (i := 1344) (by decide +kernel), List.mem_of_getElem? (i := 1619) (by decide +kernel), List.mem_of_getElem? (i := 1620) (by decide +kernel)⟩
theorem lw_p53 : lw_okq (⟨"PreimageAnalyzerModel", "isOne", "(I)Z"⟩, 42) := ⟨⟨by decide +kernel, by decide +kernel⟩, List.mem_of_getElem? (i := 1344) (by decide +kernel), List.mem_of_getElem? (i := 1631) (by decide +kernel), List.mem_of_getElem? (i := 1632) (by decide +kernel)⟩
theorem lw_p54 : lw_okq (⟨"PreimageAnalyzerModel", "cellOf", "(II)I"⟩, 42) := ⟨⟨by decide +kernel, by decide +kernel⟩, List.mem_of_getElem? (i := 1344) (by decide +kernel), List.mem_of_getElem? (i := 1650) (by decide +kernel), List.mem_of_getElem? (i := 1651) (by decide +kernel)⟩
theorem lw_p55 : lw_okq (⟨"PreimageAnalyzerModel", "cyclicImage", "(II)I"⟩, 42) := ⟨⟨by decide +kernel, by decide +kernel⟩, List.mem_of_getElem? (i := 1344) (by decide +kernel), List.mem_of_getElem? (i := 1658) (by decide +kernel), List.mem_of_getElem? (i := 1659) (by decide +kernel)⟩
theorem lw_p56 : lw_okq (⟨"PreimageAnalyzerModel", "count", "(IZ)I"⟩, 42) := ⟨⟨by decide +kernel, by decide +kernel⟩, List.mem_of_getElem? (i := 1344) (by decide +kernel), List.mem_of_getElem? (i := 1670) (by decide +kernel), List.mem_of_getElem? (i := 1671) (by decide +kernel)⟩
theorem lw_p57 : lw_okq (⟨"PreimageAnalyzerModel", "findsWays", "(II)V"⟩, 42) := ⟨⟨by decide +kernel, by decide +kernel⟩, List.mem_of_getElem? (i := 1344) (by decide +kernel), List.mem_of_getElem? (i := 1674) (by decide +kernel), List.mem_of_getElem? (i := 1675) (by decide +kernel)⟩
theorem lw_p58 : lw_okq (⟨"PreimageAnalyzerModel", "label", "(II)I"⟩, 42) := ⟨⟨by decide +kernel, by decide +kernel⟩, List.mem_of_getElem? (i := 1344) (by decide +kernel), List.mem_of_getElem? (i := 1678) (by decide +kernel), List.mem_of_getElem? (i := 1679) (by decide +kernel)⟩
theorem lw_p59 : lw_okq (⟨"PreimageAnalyzerModel", "goal", "(II)I"⟩, 42) := ⟨⟨by decide +kernel, by decide +kernel⟩, List.mem_of_getElem? (i := 1344) (by decide +kernel), List.mem_of_getElem? (i := 1682) (by decide +kernel), List.mem_of_getElem? (i := 1683) (by decide +kernel)⟩
theorem lw_p60 : lw_okq (⟨"PreimageAnalyzerModel", "shortOne", "(II)I"⟩, 42) := ⟨⟨by decide +kernel, by decide +kernel⟩, List.mem_of_getElem? (i := 1344) (by decide +kernel), List.mem_of_getElem? (i := 1690) (by decide +kernel), List.mem_of_getElem? (i := 1691) (by decide +kernel)⟩
theorem lw_p61 : lw_okq (⟨"PreimageAnalyzerModel", "longOne", "(IZI)I"⟩, 42) := ⟨⟨by decide +kernel, by decide +kernel⟩, List.mem_of_getElem? (i := 1344) (by decide +kernel), List.mem_of_getElem? (i := 1694) (by decide +kernel), List.mem_of_getElem? (i := 1695) (by decide +kernel)⟩
theorem lw_p62 : lw_okq (⟨"PreimageAnalyzerModel", "preimages", "(II)I"⟩, 42) := ⟨⟨by decide +kernel, by decide +kernel⟩, List.mem_of_getElem? (i := 1344) (by decide +kernel), List.mem_of_getElem? (i := 1706) (by decide +kernel), List.mem_of_getElem? (i := 1707) (by decide +kernel)⟩
theorem lw_p63 : lw_okq (⟨"PreimageAnalyzerModel", "findsSets", "()V"⟩, 42) := ⟨⟨by decide +kernel, by decide +kernel⟩, List.mem_of_getElem? (i := 1344) (by decide +kernel), List.mem_of_getElem? (i := 1726) (by decide +kernel), List.mem_of_getElem? (i := 1727) (by decide +kernel)⟩
def lw_privs_4 : List (MethodName × Nat) := [(⟨"PreimageAnalyzerModel", "here", "()I"⟩, 42), (⟨"PreimageAnalyzerModel", "waitsFor", "(I)V"⟩, 42), (⟨"PreimageAnalyzerModel", "isWrong", "()Z"⟩, 42), (⟨"PreimageAnalyzerModel", "isGone", "()Z"⟩, 42), (⟨"PreimageAnalyzerModel", "value", "(I)I"⟩, 42), (⟨"PreimageAnalyzerModel", "isOne", "(I)Z"⟩, 42), (⟨"PreimageAnalyzerModel", "cellOf", "(II)I"⟩, 42), (⟨"PreimageAnalyzerModel", "cyclicImage", "(II)I"⟩, 42), (⟨"PreimageAnalyzerModel", "count", "(IZ)I"⟩, 42), (⟨"PreimageAnalyzerModel", "findsWays", "(II)V"⟩, 42), (⟨"PreimageAnalyzerModel", "label", "(II)I"⟩, 42), (⟨"PreimageAnalyzerModel", "goal", "(II)I"⟩, 42), (⟨"PreimageAnalyzerModel", "shortOne", "(II)I"⟩, 42), (⟨"PreimageAnalyzerModel", "longOne", "(IZI)I"⟩, 42), (⟨"PreimageAnalyzerModel", "preimages", "(II)I"⟩, 42), (⟨"PreimageAnalyzerModel", "findsSets", "()V"⟩, 42)]
theorem lw_r4 : ∀ q ∈ lw_privs_4, lw_okq q := List.forall_mem_cons.mpr ⟨lw_p48, List.forall_mem_cons.mpr ⟨lw_p49, List.forall_mem_cons.mpr ⟨lw_p50, List.forall_mem_cons.mpr ⟨lw_p51, List.forall_mem_cons.mpr ⟨lw_p52, List.forall_mem_cons.mpr ⟨lw_p53, List.forall_mem_cons.mpr ⟨lw_p54, List.forall_mem_cons.mpr ⟨lw_p55, List.forall_mem_cons.mpr ⟨lw_p56, List.forall_mem_cons.mpr ⟨lw_p57, List.forall_mem_cons.mpr ⟨lw_p58, List.forall_mem_cons.mpr ⟨lw_p59, List.forall_mem_cons.mpr ⟨lw_p60, List.forall_mem_cons.mpr ⟨lw_p61, List.forall_mem_cons.mpr ⟨lw_p62, List.forall_mem_cons.mpr ⟨lw_p63, fun _ h => absurd h List.not_mem_nil⟩⟩⟩⟩⟩⟩⟩⟩⟩⟩⟩⟩⟩⟩⟩⟩
theorem lw_p64 : lw_okq (⟨"PreimageAnalyzerModel", "reaches", "(IIII)V"⟩, 42) := ⟨⟨by decide +kernel, by decide +kernel⟩, List.mem_of_getElem? (i := 1344) (by decide +kernel), List.mem_of_getElem? (i := 1730) (by decide +kernel), List.mem_of_getElem? (i := 1731) (by decide +kernel)⟩
theorem lw_p65 : lw_okq (⟨"PreimageAnalyzerModel", "successors", "(II)I"⟩, 42) := ⟨⟨by decide +kernel, by decide +kernel⟩, List.mem_of_getElem? (i := 1344) (by decide +kernel), List.mem_of_getElem? (i := 1734) (by decide +kernel), List.mem_of_getElem? (i := 1735) (by decide +kernel)⟩
theorem lw_p66 : lw_okq (⟨"PreimageAnalyzerModel", "pairs", "()I"⟩, 42) := ⟨⟨by decide +kernel, by decide +kernel⟩, List.mem_of_getElem? (i := 1344) (by decide +kernel), List.mem_of_getElem? (i := 1750) (by decide +kernel), List.mem_of_getElem? (i := 1751) (by decide +kernel)⟩
theorem lw_p67 : lw_okq (⟨"PreimageAnalyzerModel", "isPermutive", "(I)Z"⟩, 42) := ⟨⟨by decide +kernel, by decide +kernel⟩, List.mem_of_getElem? (i := 1344) (by decide +kernel), List.mem_of_getElem? (i := 1758) (by decide +kernel), List.mem_of_getElem? (i := 1759) (by decide +kernel)⟩
theorem lw_p68 : lw_okq (⟨"PreimageAnalyzerModel", "isBalanced", "()Z"⟩, 42) := ⟨⟨by decide +kernel, by decide +kernel⟩, List.mem_of_getElem? (i := 1344) (by decide +kernel), List.mem_of_getElem? (i := 1762) (by decide +kernel), List.mem_of_getElem? (i := 1763) (by decide +kernel)⟩
theorem lw_p69 : lw_okq (⟨"PreimageAnalyzerModel", "isMade", "()Z"⟩, 42) := ⟨⟨by decide +kernel, by decide +kernel⟩, List.mem_of_getElem? (i := 1344) (by decide +kernel), List.mem_of_getElem? (i := 1766) (by decide +kernel), List.mem_of_getElem? (i := 1767) (by decide +kernel)⟩
theorem lw_p70 : lw_okq (⟨"PreimageAnalyzerModel", "hasInverse", "()Z"⟩, 42) := ⟨⟨by decide +kernel, by decide +kernel⟩, List.mem_of_getElem? (i := 1344) (by decide +kernel), List.mem_of_getElem? (i := 1774) (by decide +kernel), List.mem_of_getElem? (i := 1775) (by decide +kernel)⟩
theorem lw_p71 : lw_okq (⟨"PreimageAnalyzerModel", "isInverse", "(II)Z"⟩, 42) := ⟨⟨by decide +kernel, by decide +kernel⟩, List.mem_of_getElem? (i := 1344) (by decide +kernel), List.mem_of_getElem? (i := 1778) (by decide +kernel), List.mem_of_getElem? (i := 1779) (by decide +kernel)⟩
def lw_privs_5 : List (MethodName × Nat) := [(⟨"PreimageAnalyzerModel", "reaches", "(IIII)V"⟩, 42), (⟨"PreimageAnalyzerModel", "successors", "(II)I"⟩, 42), (⟨"PreimageAnalyzerModel", "pairs", "()I"⟩, 42), (⟨"PreimageAnalyzerModel", "isPermutive", "(I)Z"⟩, 42), (⟨"PreimageAnalyzerModel", "isBalanced", "()Z"⟩, 42), (⟨"PreimageAnalyzerModel", "isMade", "()Z"⟩, 42), (⟨"PreimageAnalyzerModel", "hasInverse", "()Z"⟩, 42), (⟨"PreimageAnalyzerModel", "isInverse", "(II)Z"⟩, 42)]
theorem lw_r5 : ∀ q ∈ lw_privs_5, lw_okq q := List.forall_mem_cons.mpr ⟨lw_p64, List.forall_mem_cons.mpr ⟨lw_p65, List.forall_mem_cons.mpr ⟨lw_p66, List.forall_mem_cons.mpr ⟨lw_p67, List.forall_mem_cons.mpr ⟨lw_p68, List.forall_mem_cons.mpr ⟨lw_p69, List.forall_mem_cons.mpr ⟨lw_p70, List.forall_mem_cons.mpr ⟨lw_p71, fun _ h => absurd h List.not_mem_nil⟩⟩⟩⟩⟩⟩⟩⟩
def lw_privs : List (MethodName × Nat) := lw_privs_1 ++ (lw_privs_2 ++ (lw_privs_3 ++ (lw_privs_4 ++ (lw_privs_5))))
def lw_tbl : List Cond := k2_sels lw_privs ++ tables_1
theorem lw_privs_ok : ∀ q ∈ lw_privs, lw_okq q := by
  show ∀ q ∈ lw_privs_1 ++ (lw_privs_2 ++ (lw_privs_3 ++ (lw_privs_4 ++ (lw_privs_5)))), lw_okq q
  exact List.forall_mem_append.mpr ⟨lw_r1, List.forall_mem_append.mpr ⟨lw_r2, List.forall_mem_append.mpr ⟨lw_r3, List.forall_mem_append.mpr ⟨lw_r4, lw_r5⟩⟩⟩⟩
end
section
/-! ===== BEGIN printed: names, fields, word lists, decode rows ===== -/
def RX0 : String := "PreimageAnalyzer$Formula"
def TX0 : u_T := fun k => match k with
  | 0 => ("PreimageAnalyzer$Formula", "length", "I", false)
  | 1 => ("PreimageAnalyzer$Formula", "errorKind", "I", false)
  | 2 => ("PreimageAnalyzer$Formula", "errorPlace", "I", false)
  | 3 => ("PreimageAnalyzer$Formula", "text", "[I", true)
  | 4 => ("PreimageAnalyzer$Formula", "code", "[I", true)
  | 5 => ("PreimageAnalyzer$Formula", "codeLength", "I", false)
  | 6 => ("PreimageAnalyzer$Formula", "waiting", "[I", true)
  | 7 => ("PreimageAnalyzer$Formula", "waitingCount", "I", false)
  | 8 => ("PreimageAnalyzer$Formula", "values", "[I", true)
  | _ => ("PreimageAnalyzer$Formula", "cells", "[I", true)
def tyX0 : Nat → FieldType := fun k => match k with
  | 0 => .int
  | 1 => .int
  | 2 => .int
  | 3 => .array .int
  | 4 => .array .int
  | 5 => .int
  | 6 => .array .int
  | 7 => .int
  | 8 => .array .int
  | _ => .array .int
abbrev wsX00 : List Cond := u_ws RX0 TX0 10
theorem nmX0 : ∀ a, a < 10 → ∀ b, b < 10 → a ≠ b → (TX0 a).2.1 ≠ (TX0 b).2.1 := by decide +kernel
theorem tyX0_ok : ∀ k, k < 10 → parseFieldDescriptor (TX0 k).2.2.1 = some (tyX0 k) := by decide +kernel
abbrev cX0_init : ByteArray := prog_2_method_1_code
def yX0_init : MethodName := ⟨RX0, "<init>", "()V"⟩
abbrev cX0_add : ByteArray := prog_2_method_2_code
def yX0_add : MethodName := ⟨RX0, "add", "(I)V"⟩
abbrev cX0_read : ByteArray := prog_2_method_3_code
def yX0_read : MethodName := ⟨RX0, "read", "(I)V"⟩
abbrev cX0_readSign : ByteArray := prog_2_method_4_code
def yX0_readSign : MethodName := ⟨RX0, "readSign", "(III)I"⟩
abbrev cX0_readOperand : ByteArray := prog_2_method_5_code
def yX0_readOperand : MethodName := ⟨RX0, "readOperand", "(II)I"⟩
abbrev cX0_readOperator : ByteArray := prog_2_method_6_code
def yX0_readOperator : MethodName := ⟨RX0, "readOperator", "(I)I"⟩
abbrev cX0_refuse : ByteArray := prog_2_method_7_code
def yX0_refuse : MethodName := ⟨RX0, "refuse", "()I"⟩
abbrev cX0_hold : ByteArray := prog_2_method_8_code
def yX0_hold : MethodName := ⟨RX0, "hold", "(II)I"⟩
abbrev cX0_lastWaiting : ByteArray := prog_2_method_9_code
def yX0_lastWaiting : MethodName := ⟨RX0, "lastWaiting", "()I"⟩
abbrev cX0_emit : ByteArray := prog_2_method_10_code
def yX0_emit : MethodName := ⟨RX0, "emit", "(I)V"⟩
abbrev cX0_endFactor : ByteArray := prog_2_method_11_code
def yX0_endFactor : MethodName := ⟨RX0, "endFactor", "()I"⟩
abbrev cX0_moveOperators : ByteArray := prog_2_method_12_code
def yX0_moveOperators : MethodName := ⟨RX0, "moveOperators", "(I)V"⟩
abbrev cX0_rankOf : ByteArray := prog_2_method_13_code
def yX0_rankOf : MethodName := ⟨RX0, "rankOf", "(I)I"⟩
abbrev cX0_evaluate : ByteArray := prog_2_method_14_code
def yX0_evaluate : MethodName := ⟨RX0, "evaluate", "(LPreimageAnalyzer$Rule;[I)V"⟩
abbrev cX0_valueForCells : ByteArray := prog_2_method_15_code
def yX0_valueForCells : MethodName := ⟨RX0, "valueForCells", "()I"⟩
abbrev cX0_combine : ByteArray := prog_2_method_16_code
def yX0_combine : MethodName := ⟨RX0, "combine", "(III)I"⟩
def RX1 : String := "PreimageAnalyzer$Images"
def TX1 : u_T := fun k => match k with
  | 0 => ("PreimageAnalyzer$Images", "stepsBefore", "I", false)
  | 1 => ("PreimageAnalyzer$Images", "stepsBetween", "I", false)
  | 2 => ("PreimageAnalyzer$Images", "cells", "[I", true)
  | _ => ("PreimageAnalyzer$Images", "meetings", "[I", true)
def tyX1 : Nat → FieldType := fun k => match k with
  | 0 => .int
  | 1 => .int
  | 2 => .array .int
  | _ => .array .int
abbrev wsX10 : List Cond := u_ws RX1 TX1 4
theorem nmX1 : ∀ a, a < 4 → ∀ b, b < 4 → a ≠ b → (TX1 a).2.1 ≠ (TX1 b).2.1 := by decide +kernel
theorem tyX1_ok : ∀ k, k < 4 → parseFieldDescriptor (TX1 k).2.2.1 = some (tyX1 k) := by decide +kernel
abbrev cX1_init : ByteArray := prog_3_method_1_code
def yX1_init : MethodName := ⟨RX1, "<init>", "()V"⟩
abbrev cX1_imageOf : ByteArray := prog_3_method_2_code
def yX1_imageOf : MethodName := ⟨RX1, "imageOf", "(LPreimageAnalyzer$Rule;II)I"⟩
abbrev cX1_cyclicImageOf : ByteArray := prog_3_method_3_code
def yX1_cyclicImageOf : MethodName := ⟨RX1, "cyclicImageOf", "(LPreimageAnalyzer$Rule;II)I"⟩
abbrev cX1_readLabels : ByteArray := prog_3_method_4_code
def yX1_readLabels : MethodName := ⟨RX1, "readLabels", "(LPreimageAnalyzer$Rule;I)I"⟩
abbrev cX1_follow : ByteArray := prog_3_method_5_code
def yX1_follow : MethodName := ⟨RX1, "follow", "(LPreimageAnalyzer$Rule;II)V"⟩
def RX2 : String := "PreimageAnalyzer$InverseSearch"
def TX2 : u_T := fun k => match k with
  | 0 => ("PreimageAnalyzer$InverseSearch", "length", "I", false)
  | 1 => ("PreimageAnalyzer$InverseSearch", "position", "I", false)
  | 2 => ("PreimageAnalyzer$InverseSearch", "imageOfWord", "[I", true)
  | _ => ("PreimageAnalyzer$InverseSearch", "firstWord", "[I", true)
def tyX2 : Nat → FieldType := fun k => match k with
  | 0 => .int
  | 1 => .int
  | 2 => .array .int
  | _ => .array .int
abbrev wsX20 : List Cond := u_ws RX2 TX2 4
theorem nmX2 : ∀ a, a < 4 → ∀ b, b < 4 → a ≠ b → (TX2 a).2.1 ≠ (TX2 b).2.1 := by decide +kernel
theorem tyX2_ok : ∀ k, k < 4 → parseFieldDescriptor (TX2 k).2.2.1 = some (tyX2 k) := by decide +kernel
abbrev cX2_init : ByteArray := prog_4_method_1_code
def yX2_init : MethodName := ⟨RX2, "<init>", "()V"⟩
abbrev cX2_run : ByteArray := prog_4_method_2_code
def yX2_run : MethodName := ⟨RX2, "run", "(LPreimageAnalyzer$Rule;)V"⟩
abbrev cX2_lengthenWords : ByteArray := prog_4_method_3_code
def yX2_lengthenWords : MethodName := ⟨RX2, "lengthenWords", "(LPreimageAnalyzer$Rule;I)V"⟩
abbrev cX2_commonPositions : ByteArray := prog_4_method_4_code
def yX2_commonPositions : MethodName := ⟨RX2, "commonPositions", "(LPreimageAnalyzer$Rule;I)I"⟩
abbrev cX2_equalPositions : ByteArray := prog_4_method_5_code
def yX2_equalPositions : MethodName := ⟨RX2, "equalPositions", "(LPreimageAnalyzer$Rule;IIII)I"⟩
abbrev cX2_stateFor : ByteArray := prog_4_method_6_code
def yX2_stateFor : MethodName := ⟨RX2, "stateFor", "(LPreimageAnalyzer$Rule;I)I"⟩
def RX3 : String := "PreimageAnalyzer$NodePairs"
def TX3 : u_T := fun k => match k with
  | _ => ("PreimageAnalyzer$NodePairs", "reachable", "[J", true)
def tyX3 : Nat → FieldType := fun k => match k with
  | _ => .array .long
abbrev wsX30 : List Cond := u_ws RX3 TX3 1
theorem nmX3 : ∀ a, a < 1 → ∀ b, b < 1 → a ≠ b → (TX3 a).2.1 ≠ (TX3 b).2.1 := by decide +kernel
theorem tyX3_ok : ∀ k, k < 1 → parseFieldDescriptor (TX3 k).2.2.1 = some (tyX3 k) := by decide +kernel
abbrev cX3_init : ByteArray := prog_5_method_1_code
def yX3_init : MethodName := ⟨RX3, "<init>", "()V"⟩
abbrev cX3_countOnCycles : ByteArray := prog_5_method_2_code
def yX3_countOnCycles : MethodName := ⟨RX3, "countOnCycles", "(LPreimageAnalyzer$Rule;)I"⟩
abbrev cX3_placeOf : ByteArray := prog_5_method_3_code
def yX3_placeOf : MethodName := ⟨RX3, "placeOf", "(II)I"⟩
abbrev cX3_readSteps : ByteArray := prog_5_method_4_code
def yX3_readSteps : MethodName := ⟨RX3, "readSteps", "(LPreimageAnalyzer$Rule;)V"⟩
abbrev cX3_stepsFrom : ByteArray := prog_5_method_5_code
def yX3_stepsFrom : MethodName := ⟨RX3, "stepsFrom", "(LPreimageAnalyzer$Rule;II)J"⟩
def RX4 : String := "PreimageAnalyzer$Paths"
def TX4 : u_T := fun k => match k with
  | 0 => ("PreimageAnalyzer$Paths", "wordsFound", "I", false)
  | 1 => ("PreimageAnalyzer$Paths", "mostFound", "I", false)
  | 2 => ("PreimageAnalyzer$Paths", "length", "I", false)
  | 3 => ("PreimageAnalyzer$Paths", "labels", "[I", true)
  | _ => ("PreimageAnalyzer$Paths", "ways", "[[I", true)
def tyX4 : Nat → FieldType := fun k => match k with
  | 0 => .int
  | 1 => .int
  | 2 => .int
  | 3 => .array .int
  | _ => .array (.array .int)
abbrev wsX40 : List Cond := u_ws RX4 TX4 5
theorem nmX4 : ∀ a, a < 5 → ∀ b, b < 5 → a ≠ b → (TX4 a).2.1 ≠ (TX4 b).2.1 := by decide +kernel
theorem tyX4_ok : ∀ k, k < 5 → parseFieldDescriptor (TX4 k).2.2.1 = some (tyX4 k) := by decide +kernel
abbrev cX4_init : ByteArray := prog_6_method_1_code
def yX4_init : MethodName := ⟨RX4, "<init>", "()V"⟩
abbrev cX4_takeLabels : ByteArray := prog_6_method_2_code
def yX4_takeLabels : MethodName := ⟨RX4, "takeLabels", "(LPreimageAnalyzer$Rule;II)V"⟩
abbrev cX4_countAll : ByteArray := prog_6_method_3_code
def yX4_countAll : MethodName := ⟨RX4, "countAll", "(LPreimageAnalyzer$Rule;)I"⟩
abbrev cX4_countBetween : ByteArray := prog_6_method_4_code
def yX4_countBetween : MethodName := ⟨RX4, "countBetween", "(LPreimageAnalyzer$Rule;II)I"⟩
abbrev cX4_countClosed : ByteArray := prog_6_method_5_code
def yX4_countClosed : MethodName := ⟨RX4, "countClosed", "(LPreimageAnalyzer$Rule;)I"⟩
abbrev cX4_openWord : ByteArray := prog_6_method_6_code
def yX4_openWord : MethodName := ⟨RX4, "openWord", "(LPreimageAnalyzer$Rule;I)I"⟩
abbrev cX4_closedWord : ByteArray := prog_6_method_7_code
def yX4_closedWord : MethodName := ⟨RX4, "closedWord", "(LPreimageAnalyzer$Rule;I)I"⟩
abbrev cX4_withoutEnd : ByteArray := prog_6_method_8_code
def yX4_withoutEnd : MethodName := ⟨RX4, "withoutEnd", "(LPreimageAnalyzer$Rule;I)I"⟩
abbrev cX4_walk : ByteArray := prog_6_method_9_code
def yX4_walk : MethodName := ⟨RX4, "walk", "(LPreimageAnalyzer$Rule;II)I"⟩
abbrev cX4_countTo : ByteArray := prog_6_method_10_code
def yX4_countTo : MethodName := ⟨RX4, "countTo", "(LPreimageAnalyzer$Rule;I)V"⟩
abbrev cX4_countToAnywhere : ByteArray := prog_6_method_11_code
def yX4_countToAnywhere : MethodName := ⟨RX4, "countToAnywhere", "(LPreimageAnalyzer$Rule;)V"⟩
abbrev cX4_countBackwards : ByteArray := prog_6_method_12_code
def yX4_countBackwards : MethodName := ⟨RX4, "countBackwards", "(LPreimageAnalyzer$Rule;)V"⟩
abbrev cX4_waysBy : ByteArray := prog_6_method_13_code
def yX4_waysBy : MethodName := ⟨RX4, "waysBy", "(LPreimageAnalyzer$Rule;II)I"⟩
abbrev cX4_sumOf : ByteArray := prog_6_method_14_code
def yX4_sumOf : MethodName := ⟨RX4, "sumOf", "(LPreimageAnalyzer$Rule;[I)I"⟩
abbrev cX4_surveyWords : ByteArray := prog_6_method_15_code
def yX4_surveyWords : MethodName := ⟨RX4, "surveyWords", "(LPreimageAnalyzer$Rule;II)V"⟩
abbrev cX4_stepForward : ByteArray := prog_6_method_16_code
def yX4_stepForward : MethodName := ⟨RX4, "stepForward", "(LPreimageAnalyzer$Rule;I)V"⟩
abbrev cX4_moveToNextWord : ByteArray := prog_6_method_17_code
def yX4_moveToNextWord : MethodName := ⟨RX4, "moveToNextWord", "(LPreimageAnalyzer$Rule;I)I"⟩
abbrev cX4_countFixed : ByteArray := prog_6_method_18_code
def yX4_countFixed : MethodName := ⟨RX4, "countFixed", "(LPreimageAnalyzer$Rule;I)I"⟩
abbrev cX4_stepAlongFixed : ByteArray := prog_6_method_19_code
def yX4_stepAlongFixed : MethodName := ⟨RX4, "stepAlongFixed", "(LPreimageAnalyzer$Rule;[I[I)V"⟩
def RX5 : String := "PreimageAnalyzer$Registers"
def TX5 : u_T := fun k => match k with
  | 0 => ("PreimageAnalyzer$Registers", "lengths", "[I", true)
  | _ => ("PreimageAnalyzer$Registers", "indices", "[I", true)
def tyX5 : Nat → FieldType := fun k => match k with
  | 0 => .array .int
  | _ => .array .int
abbrev wsX50 : List Cond := u_ws RX5 TX5 2
theorem nmX5 : ∀ a, a < 2 → ∀ b, b < 2 → a ≠ b → (TX5 a).2.1 ≠ (TX5 b).2.1 := by decide +kernel
theorem tyX5_ok : ∀ k, k < 2 → parseFieldDescriptor (TX5 k).2.2.1 = some (tyX5 k) := by decide +kernel
abbrev cX5_init : ByteArray := prog_7_method_1_code
def yX5_init : MethodName := ⟨RX5, "<init>", "()V"⟩
abbrev cX5_empty : ByteArray := prog_7_method_2_code
def yX5_empty : MethodName := ⟨RX5, "empty", "()V"⟩
abbrev cX5_put : ByteArray := prog_7_method_3_code
def yX5_put : MethodName := ⟨RX5, "put", "(III)V"⟩
abbrev cX5_copyFrom : ByteArray := prog_7_method_4_code
def yX5_copyFrom : MethodName := ⟨RX5, "copyFrom", "(LPreimageAnalyzer$Registers;)V"⟩
def RX6 : String := "PreimageAnalyzer$Rule"
def TX6 : u_T := fun k => match k with
  | 0 => ("PreimageAnalyzer$Rule", "states", "I", false)
  | 1 => ("PreimageAnalyzer$Rule", "width", "I", false)
  | 2 => ("PreimageAnalyzer$Rule", "nodes", "I", false)
  | 3 => ("PreimageAnalyzer$Rule", "neighborhoods", "I", false)
  | 4 => ("PreimageAnalyzer$Rule", "table", "[I", true)
  | 5 => ("PreimageAnalyzer$Rule", "targets", "[I", true)
  | 6 => ("PreimageAnalyzer$Rule", "firstCells", "[I", true)
  | 7 => ("PreimageAnalyzer$Rule", "reversal", "[I", true)
  | _ => ("PreimageAnalyzer$Rule", "tally", "[I", true)
def tyX6 : Nat → FieldType := fun k => match k with
  | 0 => .int
  | 1 => .int
  | 2 => .int
  | 3 => .int
  | 4 => .array .int
  | 5 => .array .int
  | 6 => .array .int
  | 7 => .array .int
  | _ => .array .int
abbrev wsX60 : List Cond := u_ws RX6 TX6 9
theorem nmX6 : ∀ a, a < 9 → ∀ b, b < 9 → a ≠ b → (TX6 a).2.1 ≠ (TX6 b).2.1 := by decide +kernel
theorem tyX6_ok : ∀ k, k < 9 → parseFieldDescriptor (TX6 k).2.2.1 = some (tyX6 k) := by decide +kernel
abbrev cX6_init : ByteArray := prog_8_method_1_code
def yX6_init : MethodName := ⟨RX6, "<init>", "()V"⟩
abbrev cX6_exists : ByteArray := prog_8_method_2_code
def yX6_exists : MethodName := ⟨RX6, "exists", "(II)Z"⟩
abbrev cX6_resize : ByteArray := prog_8_method_3_code
def yX6_resize : MethodName := ⟨RX6, "resize", "(II)V"⟩
abbrev cX6_copyFrom : ByteArray := prog_8_method_4_code
def yX6_copyFrom : MethodName := ⟨RX6, "copyFrom", "(LPreimageAnalyzer$Rule;)V"⟩
abbrev cX6_takeTable : ByteArray := prog_8_method_5_code
def yX6_takeTable : MethodName := ⟨RX6, "takeTable", "([I)I"⟩
abbrev cX6_countOfWords : ByteArray := prog_8_method_6_code
def yX6_countOfWords : MethodName := ⟨RX6, "countOfWords", "(I)I"⟩
abbrev cX6_countOfRules : ByteArray := prog_8_method_7_code
def yX6_countOfRules : MethodName := ⟨RX6, "countOfRules", "()J"⟩
abbrev cX6_numberOf : ByteArray := prog_8_method_8_code
def yX6_numberOf : MethodName := ⟨RX6, "numberOf", "([I)J"⟩
abbrev cX6_spreadNumber : ByteArray := prog_8_method_9_code
def yX6_spreadNumber : MethodName := ⟨RX6, "spreadNumber", "(J[I)V"⟩
abbrev cX6_lastCell : ByteArray := prog_8_method_10_code
def yX6_lastCell : MethodName := ⟨RX6, "lastCell", "(I)I"⟩
abbrev cX6_withoutLastCell : ByteArray := prog_8_method_11_code
def yX6_withoutLastCell : MethodName := ⟨RX6, "withoutLastCell", "(I)I"⟩
abbrev cX6_cellOf : ByteArray := prog_8_method_12_code
def yX6_cellOf : MethodName := ⟨RX6, "cellOf", "(III)I"⟩
abbrev cX6_spreadWord : ByteArray := prog_8_method_13_code
def yX6_spreadWord : MethodName := ⟨RX6, "spreadWord", "(II[I)V"⟩
abbrev cX6_mirrorTable : ByteArray := prog_8_method_14_code
def yX6_mirrorTable : MethodName := ⟨RX6, "mirrorTable", "([I[I)V"⟩
abbrev cX6_complementTable : ByteArray := prog_8_method_15_code
def yX6_complementTable : MethodName := ⟨RX6, "complementTable", "([I[I)V"⟩
abbrev cX6_isLeftPermutive : ByteArray := prog_8_method_16_code
def yX6_isLeftPermutive : MethodName := ⟨RX6, "isLeftPermutive", "()Z"⟩
abbrev cX6_isRightPermutive : ByteArray := prog_8_method_17_code
def yX6_isRightPermutive : MethodName := ⟨RX6, "isRightPermutive", "()Z"⟩
abbrev cX6_areDifferent : ByteArray := prog_8_method_18_code
def yX6_areDifferent : MethodName := ⟨RX6, "areDifferent", "(II)Z"⟩
abbrev cX6_isBalanced : ByteArray := prog_8_method_19_code
def yX6_isBalanced : MethodName := ⟨RX6, "isBalanced", "()Z"⟩
def RX7 : String := "PreimageAnalyzer$SubsetAutomaton"
def TX7 : u_T := fun k => match k with
  | 0 => ("PreimageAnalyzer$SubsetAutomaton", "found", "I", false)
  | 1 => ("PreimageAnalyzer$SubsetAutomaton", "sets", "[I", true)
  | 2 => ("PreimageAnalyzer$SubsetAutomaton", "places", "[I", true)
  | 3 => ("PreimageAnalyzer$SubsetAutomaton", "depths", "[I", true)
  | 4 => ("PreimageAnalyzer$SubsetAutomaton", "words", "[I", true)
  | 5 => ("PreimageAnalyzer$SubsetAutomaton", "next", "[I", true)
  | 6 => ("PreimageAnalyzer$SubsetAutomaton", "single", "[I", true)
  | 7 => ("PreimageAnalyzer$SubsetAutomaton", "counts", "[I", true)
  | _ => ("PreimageAnalyzer$SubsetAutomaton", "newCounts", "[I", true)
def tyX7 : Nat → FieldType := fun k => match k with
  | 0 => .int
  | 1 => .array .int
  | 2 => .array .int
  | 3 => .array .int
  | 4 => .array .int
  | 5 => .array .int
  | 6 => .array .int
  | 7 => .array .int
  | _ => .array .int
abbrev wsX70 : List Cond := u_ws RX7 TX7 9
theorem nmX7 : ∀ a, a < 9 → ∀ b, b < 9 → a ≠ b → (TX7 a).2.1 ≠ (TX7 b).2.1 := by decide +kernel
theorem tyX7_ok : ∀ k, k < 9 → parseFieldDescriptor (TX7 k).2.2.1 = some (tyX7 k) := by decide +kernel
abbrev cX7_init : ByteArray := prog_9_method_1_code
def yX7_init : MethodName := ⟨RX7, "<init>", "()V"⟩
abbrev cX7_explore : ByteArray := prog_9_method_2_code
def yX7_explore : MethodName := ⟨RX7, "explore", "(LPreimageAnalyzer$Rule;)V"⟩
abbrev cX7_readSingle : ByteArray := prog_9_method_3_code
def yX7_readSingle : MethodName := ⟨RX7, "readSingle", "(LPreimageAnalyzer$Rule;)V"⟩
abbrev cX7_successors : ByteArray := prog_9_method_4_code
def yX7_successors : MethodName := ⟨RX7, "successors", "(LPreimageAnalyzer$Rule;II)I"⟩
abbrev cX7_placeOf : ByteArray := prog_9_method_5_code
def yX7_placeOf : MethodName := ⟨RX7, "placeOf", "(III)I"⟩
abbrev cX7_isWithoutOrphans : ByteArray := prog_9_method_6_code
def yX7_isWithoutOrphans : MethodName := ⟨RX7, "isWithoutOrphans", "()Z"⟩
abbrev cX7_orphanLength : ByteArray := prog_9_method_7_code
def yX7_orphanLength : MethodName := ⟨RX7, "orphanLength", "()I"⟩
abbrev cX7_orphanIndex : ByteArray := prog_9_method_8_code
def yX7_orphanIndex : MethodName := ⟨RX7, "orphanIndex", "()I"⟩
abbrev cX7_countOrphans : ByteArray := prog_9_method_9_code
def yX7_countOrphans : MethodName := ⟨RX7, "countOrphans", "(LPreimageAnalyzer$Rule;I)I"⟩
abbrev cX7_countNext : ByteArray := prog_9_method_10_code
def yX7_countNext : MethodName := ⟨RX7, "countNext", "(LPreimageAnalyzer$Rule;)V"⟩
def RX8 : String := "PreimageAnalyzer"
def TX8 : u_T := fun k => match k with
  | 0 => ("PreimageAnalyzer", "rule", "LPreimageAnalyzer$Rule;", true)
  | 1 => ("PreimageAnalyzer", "savedRule", "LPreimageAnalyzer$Rule;", true)
  | 2 => ("PreimageAnalyzer", "registers", "LPreimageAnalyzer$Registers;", true)
  | 3 => ("PreimageAnalyzer", "savedRegisters", "LPreimageAnalyzer$Registers;", true)
  | 4 => ("PreimageAnalyzer", "saved", "Z", false)
  | 5 => ("PreimageAnalyzer", "formula", "LPreimageAnalyzer$Formula;", true)
  | 6 => ("PreimageAnalyzer", "images", "LPreimageAnalyzer$Images;", true)
  | 7 => ("PreimageAnalyzer", "paths", "LPreimageAnalyzer$Paths;", true)
  | 8 => ("PreimageAnalyzer", "automaton", "LPreimageAnalyzer$SubsetAutomaton;", true)
  | 9 => ("PreimageAnalyzer", "pairs", "LPreimageAnalyzer$NodePairs;", true)
  | 10 => ("PreimageAnalyzer", "search", "LPreimageAnalyzer$InverseSearch;", true)
  | 11 => ("PreimageAnalyzer", "draft", "[I", true)
  | _ => ("PreimageAnalyzer", "mirrored", "[I", true)
def tyX8 : Nat → FieldType := fun k => match k with
  | 0 => .object "PreimageAnalyzer$Rule"
  | 1 => .object "PreimageAnalyzer$Rule"
  | 2 => .object "PreimageAnalyzer$Registers"
  | 3 => .object "PreimageAnalyzer$Registers"
  | 4 => .boolean
  | 5 => .object "PreimageAnalyzer$Formula"
  | 6 => .object "PreimageAnalyzer$Images"
  | 7 => .object "PreimageAnalyzer$Paths"
  | 8 => .object "PreimageAnalyzer$SubsetAutomaton"
  | 9 => .object "PreimageAnalyzer$NodePairs"
  | 10 => .object "PreimageAnalyzer$InverseSearch"
  | 11 => .array .int
  | _ => .array .int
abbrev wsX80 : List Cond := u_ws RX8 TX8 13
theorem nmX8 : ∀ a, a < 13 → ∀ b, b < 13 → a ≠ b → (TX8 a).2.1 ≠ (TX8 b).2.1 := by decide +kernel
theorem tyX8_ok : ∀ k, k < 13 → parseFieldDescriptor (TX8 k).2.2.1 = some (tyX8 k) := by decide +kernel
abbrev cX8_init : ByteArray := prog_1_method_1_code
def yX8_init : MethodName := ⟨RX8, "<init>", "()V"⟩
abbrev cX8_setSize : ByteArray := prog_1_method_2_code
def yX8_setSize : MethodName := ⟨RX8, "setSize", "(II)I"⟩
abbrev cX8_size : ByteArray := prog_1_method_3_code
def yX8_size : MethodName := ⟨RX8, "size", "(I)I"⟩
abbrev cX8_setOutput : ByteArray := prog_1_method_4_code
def yX8_setOutput : MethodName := ⟨RX8, "setOutput", "(II)I"⟩
abbrev cX8_output : ByteArray := prog_1_method_5_code
def yX8_output : MethodName := ⟨RX8, "output", "(I)I"⟩
abbrev cX8_setNumber : ByteArray := prog_1_method_6_code
def yX8_setNumber : MethodName := ⟨RX8, "setNumber", "(J)I"⟩
abbrev cX8_number : ByteArray := prog_1_method_7_code
def yX8_number : MethodName := ⟨RX8, "number", "()J"⟩
abbrev cX8_append : ByteArray := prog_1_method_8_code
def yX8_append : MethodName := ⟨RX8, "append", "(I)I"⟩
abbrev cX8_compile : ByteArray := prog_1_method_9_code
def yX8_compile : MethodName := ⟨RX8, "compile", "()I"⟩
abbrev cX8_error : ByteArray := prog_1_method_10_code
def yX8_error : MethodName := ⟨RX8, "error", "(I)I"⟩
abbrev cX8_mirror : ByteArray := prog_1_method_11_code
def yX8_mirror : MethodName := ⟨RX8, "mirror", "()I"⟩
abbrev cX8_complement : ByteArray := prog_1_method_12_code
def yX8_complement : MethodName := ⟨RX8, "complement", "()I"⟩
abbrev cX8_leastNumber : ByteArray := prog_1_method_13_code
def yX8_leastNumber : MethodName := ⟨RX8, "leastNumber", "()J"⟩
abbrev cX8_compose : ByteArray := prog_1_method_14_code
def yX8_compose : MethodName := ⟨RX8, "compose", "()I"⟩
abbrev cX8_setWord : ByteArray := prog_1_method_15_code
def yX8_setWord : MethodName := ⟨RX8, "setWord", "(III)I"⟩
abbrev cX8_wordLength : ByteArray := prog_1_method_16_code
def yX8_wordLength : MethodName := ⟨RX8, "wordLength", "(I)I"⟩
abbrev cX8_wordIndex : ByteArray := prog_1_method_17_code
def yX8_wordIndex : MethodName := ⟨RX8, "wordIndex", "(I)I"⟩
abbrev cX8_cell : ByteArray := prog_1_method_18_code
def yX8_cell : MethodName := ⟨RX8, "cell", "(II)I"⟩
abbrev cX8_apply : ByteArray := prog_1_method_19_code
def yX8_apply : MethodName := ⟨RX8, "apply", "(IZ)I"⟩
abbrev cX8_orbit : ByteArray := prog_1_method_20_code
def yX8_orbit : MethodName := ⟨RX8, "orbit", "(II)I"⟩
abbrev cX8_preimageCount : ByteArray := prog_1_method_21_code
def yX8_preimageCount : MethodName := ⟨RX8, "preimageCount", "(IZ)I"⟩
abbrev cX8_preimage : ByteArray := prog_1_method_22_code
def yX8_preimage : MethodName := ⟨RX8, "preimage", "(IZII)I"⟩
abbrev cX8_preimagesBetween : ByteArray := prog_1_method_23_code
def yX8_preimagesBetween : MethodName := ⟨RX8, "preimagesBetween", "(III)I"⟩
abbrev cX8_wordsWith : ByteArray := prog_1_method_24_code
def yX8_wordsWith : MethodName := ⟨RX8, "wordsWith", "(II)I"⟩
abbrev cX8_mostPreimages : ByteArray := prog_1_method_25_code
def yX8_mostPreimages : MethodName := ⟨RX8, "mostPreimages", "(I)I"⟩
abbrev cX8_fixedWords : ByteArray := prog_1_method_26_code
def yX8_fixedWords : MethodName := ⟨RX8, "fixedWords", "(I)I"⟩
abbrev cX8_edge : ByteArray := prog_1_method_27_code
def yX8_edge : MethodName := ⟨RX8, "edge", "(III)I"⟩
abbrev cX8_subsets : ByteArray := prog_1_method_28_code
def yX8_subsets : MethodName := ⟨RX8, "subsets", "()I"⟩
abbrev cX8_orphans : ByteArray := prog_1_method_29_code
def yX8_orphans : MethodName := ⟨RX8, "orphans", "(I)I"⟩
abbrev cX8_shortestOrphan : ByteArray := prog_1_method_30_code
def yX8_shortestOrphan : MethodName := ⟨RX8, "shortestOrphan", "(I)I"⟩
abbrev cX8_has : ByteArray := prog_1_method_31_code
def yX8_has : MethodName := ⟨RX8, "has", "(I)Z"⟩
abbrev cX8_cyclicPairs : ByteArray := prog_1_method_32_code
def yX8_cyclicPairs : MethodName := ⟨RX8, "cyclicPairs", "()I"⟩
abbrev cX8_inverse : ByteArray := prog_1_method_33_code
def yX8_inverse : MethodName := ⟨RX8, "inverse", "(I)I"⟩
abbrev cX8_inverseOutput : ByteArray := prog_1_method_34_code
def yX8_inverseOutput : MethodName := ⟨RX8, "inverseOutput", "(I)I"⟩
abbrev cX8_save : ByteArray := prog_1_method_35_code
def yX8_save : MethodName := ⟨RX8, "save", "()J"⟩
abbrev cX8_restore : ByteArray := prog_1_method_36_code
def yX8_restore : MethodName := ⟨RX8, "restore", "()J"⟩
abbrev cX8_needRegister : ByteArray := prog_1_method_37_code
def yX8_needRegister : MethodName := ⟨RX8, "needRegister", "(I)V"⟩
abbrev cX8_needBit : ByteArray := prog_1_method_38_code
def yX8_needBit : MethodName := ⟨RX8, "needBit", "(I)V"⟩
abbrev cX8_needLength : ByteArray := prog_1_method_39_code
def yX8_needLength : MethodName := ⟨RX8, "needLength", "(III)V"⟩
abbrev cX8_needNeighborhood : ByteArray := prog_1_method_40_code
def yX8_needNeighborhood : MethodName := ⟨RX8, "needNeighborhood", "(I)V"⟩
abbrev cX8_needNode : ByteArray := prog_1_method_41_code
def yX8_needNode : MethodName := ⟨RX8, "needNode", "(I)V"⟩
abbrev cX8_needInverse : ByteArray := prog_1_method_42_code
def yX8_needInverse : MethodName := ⟨RX8, "needInverse", "()V"⟩
abbrev cX8_byteAt : ByteArray := prog_1_method_43_code
def yX8_byteAt : MethodName := ⟨RX8, "byteAt", "(II)I"⟩
abbrev cX8_takeLabels : ByteArray := prog_1_method_44_code
def yX8_takeLabels : MethodName := ⟨RX8, "takeLabels", "(I)V"⟩
def RX9 : String := "PreimageAnalyzerModel"
def TX9 : u_T := fun k => match k with
  | 0 => ("PreimageAnalyzerModel", "thrown", "I", false)
  | 1 => ("PreimageAnalyzerModel", "k", "I", false)
  | 2 => ("PreimageAnalyzerModel", "w", "I", false)
  | 3 => ("PreimageAnalyzerModel", "table", "[I", true)
  | 4 => ("PreimageAnalyzerModel", "length", "[I", true)
  | 5 => ("PreimageAnalyzerModel", "index", "[I", true)
  | 6 => ("PreimageAnalyzerModel", "savedK", "I", false)
  | 7 => ("PreimageAnalyzerModel", "savedW", "I", false)
  | 8 => ("PreimageAnalyzerModel", "savedTable", "[I", true)
  | 9 => ("PreimageAnalyzerModel", "savedLength", "[I", true)
  | 10 => ("PreimageAnalyzerModel", "savedIndex", "[I", true)
  | 11 => ("PreimageAnalyzerModel", "buffer", "[I", true)
  | 12 => ("PreimageAnalyzerModel", "bufferN", "I", false)
  | 13 => ("PreimageAnalyzerModel", "errorKind", "I", false)
  | 14 => ("PreimageAnalyzerModel", "errorPlace", "I", false)
  | 15 => ("PreimageAnalyzerModel", "made", "[I", true)
  | 16 => ("PreimageAnalyzerModel", "other", "[I", true)
  | 17 => ("PreimageAnalyzerModel", "code", "[I", true)
  | 18 => ("PreimageAnalyzerModel", "waits", "[I", true)
  | 19 => ("PreimageAnalyzerModel", "codes", "I", false)
  | 20 => ("PreimageAnalyzerModel", "waiting", "I", false)
  | 21 => ("PreimageAnalyzerModel", "at", "I", false)
  | 22 => ("PreimageAnalyzerModel", "open", "Z", false)
  | 23 => ("PreimageAnalyzerModel", "worth", "[I", true)
  | 24 => ("PreimageAnalyzerModel", "failed", "I", false)
  | 25 => ("PreimageAnalyzerModel", "seen", "[I", true)
  | 26 => ("PreimageAnalyzerModel", "ways", "[I", true)
  | 27 => ("PreimageAnalyzerModel", "now", "[I", true)
  | 28 => ("PreimageAnalyzerModel", "then", "[I", true)
  | 29 => ("PreimageAnalyzerModel", "reached", "[I", true)
  | 30 => ("PreimageAnalyzerModel", "cameFrom", "[I", true)
  | 31 => ("PreimageAnalyzerModel", "cameBy", "[I", true)
  | 32 => ("PreimageAnalyzerModel", "far", "[I", true)
  | 33 => ("PreimageAnalyzerModel", "isReached", "[Z", true)
  | 34 => ("PreimageAnalyzerModel", "sets", "I", false)
  | 35 => ("PreimageAnalyzerModel", "empty", "I", false)
  | 36 => ("PreimageAnalyzerModel", "many", "[I", true)
  | 37 => ("PreimageAnalyzerModel", "manyThen", "[I", true)
  | 38 => ("PreimageAnalyzerModel", "leads", "[Z", true)
  | 39 => ("PreimageAnalyzerModel", "assigned", "[I", true)
  | 40 => ("PreimageAnalyzerModel", "inverseM", "I", false)
  | _ => ("PreimageAnalyzerModel", "inverseP", "I", false)
def tyX9 : Nat → FieldType := fun k => match k with
  | 0 => .int
  | 1 => .int
  | 2 => .int
  | 3 => .array .int
  | 4 => .array .int
  | 5 => .array .int
  | 6 => .int
  | 7 => .int
  | 8 => .array .int
  | 9 => .array .int
  | 10 => .array .int
  | 11 => .array .int
  | 12 => .int
  | 13 => .int
  | 14 => .int
  | 15 => .array .int
  | 16 => .array .int
  | 17 => .array .int
  | 18 => .array .int
  | 19 => .int
  | 20 => .int
  | 21 => .int
  | 22 => .boolean
  | 23 => .array .int
  | 24 => .int
  | 25 => .array .int
  | 26 => .array .int
  | 27 => .array .int
  | 28 => .array .int
  | 29 => .array .int
  | 30 => .array .int
  | 31 => .array .int
  | 32 => .array .int
  | 33 => .array .boolean
  | 34 => .int
  | 35 => .int
  | 36 => .array .int
  | 37 => .array .int
  | 38 => .array .boolean
  | 39 => .array .int
  | 40 => .int
  | _ => .int
abbrev wsX90 : List Cond := u_ws RX9 TX9 42
theorem nmX9 : ∀ a, a < 42 → ∀ b, b < 42 → a ≠ b → (TX9 a).2.1 ≠ (TX9 b).2.1 := by decide +kernel
theorem tyX9_ok : ∀ k, k < 42 → parseFieldDescriptor (TX9 k).2.2.1 = some (tyX9 k) := by decide +kernel
abbrev cX9_init : ByteArray := prog_11_method_1_code
def yX9_init : MethodName := ⟨RX9, "<init>", "()V"⟩
abbrev cX9_thrown : ByteArray := prog_11_method_2_code
def yX9_thrown : MethodName := ⟨RX9, "thrown", "()I"⟩
abbrev cX9_no : ByteArray := prog_11_method_3_code
def yX9_no : MethodName := ⟨RX9, "no", "(I)I"⟩
abbrev cX9_isIn : ByteArray := prog_11_method_4_code
def yX9_isIn : MethodName := ⟨RX9, "isIn", "(III)Z"⟩
abbrev cX9_power : ByteArray := prog_11_method_5_code
def yX9_power : MethodName := ⟨RX9, "power", "(I)I"⟩
abbrev cX9_all : ByteArray := prog_11_method_6_code
def yX9_all : MethodName := ⟨RX9, "all", "()I"⟩
abbrev cX9_nodes : ByteArray := prog_11_method_7_code
def yX9_nodes : MethodName := ⟨RX9, "nodes", "()I"⟩
abbrev cX9_isSize : ByteArray := prog_11_method_8_code
def yX9_isSize : MethodName := ⟨RX9, "isSize", "(II)Z"⟩
abbrev cX9_setSize : ByteArray := prog_11_method_9_code
def yX9_setSize : MethodName := ⟨RX9, "setSize", "(II)I"⟩
abbrev cX9_size : ByteArray := prog_11_method_10_code
def yX9_size : MethodName := ⟨RX9, "size", "(I)I"⟩
abbrev cX9_setOutput : ByteArray := prog_11_method_11_code
def yX9_setOutput : MethodName := ⟨RX9, "setOutput", "(II)I"⟩
abbrev cX9_output : ByteArray := prog_11_method_12_code
def yX9_output : MethodName := ⟨RX9, "output", "(I)I"⟩
abbrev cX9_becomes : ByteArray := prog_11_method_13_code
def yX9_becomes : MethodName := ⟨RX9, "becomes", "()I"⟩
abbrev cX9_numberOf : ByteArray := prog_11_method_14_code
def yX9_numberOf : MethodName := ⟨RX9, "numberOf", "([I)J"⟩
abbrev cX9_setNumber : ByteArray := prog_11_method_15_code
def yX9_setNumber : MethodName := ⟨RX9, "setNumber", "(J)I"⟩
abbrev cX9_number : ByteArray := prog_11_method_16_code
def yX9_number : MethodName := ⟨RX9, "number", "()J"⟩
abbrev cX9_turned : ByteArray := prog_11_method_17_code
def yX9_turned : MethodName := ⟨RX9, "turned", "(II)I"⟩
abbrev cX9_mirrors : ByteArray := prog_11_method_18_code
def yX9_mirrors : MethodName := ⟨RX9, "mirrors", "([I[I)V"⟩
abbrev cX9_complements : ByteArray := prog_11_method_19_code
def yX9_complements : MethodName := ⟨RX9, "complements", "([I[I)V"⟩
abbrev cX9_mirror : ByteArray := prog_11_method_20_code
def yX9_mirror : MethodName := ⟨RX9, "mirror", "()I"⟩
abbrev cX9_complement : ByteArray := prog_11_method_21_code
def yX9_complement : MethodName := ⟨RX9, "complement", "()I"⟩
abbrev cX9_leastNumber : ByteArray := prog_11_method_22_code
def yX9_leastNumber : MethodName := ⟨RX9, "leastNumber", "()J"⟩
abbrev cX9_compose : ByteArray := prog_11_method_23_code
def yX9_compose : MethodName := ⟨RX9, "compose", "()I"⟩
abbrev cX9_imageOf : ByteArray := prog_11_method_24_code
def yX9_imageOf : MethodName := ⟨RX9, "imageOf", "(II[II)I"⟩
abbrev cX9_cyclicImage : ByteArray := prog_11_method_25_code
def yX9_cyclicImage : MethodName := ⟨RX9, "cyclicImage", "(II)I"⟩
abbrev cX9_append : ByteArray := prog_11_method_26_code
def yX9_append : MethodName := ⟨RX9, "append", "(I)I"⟩
abbrev cX9_here : ByteArray := prog_11_method_27_code
def yX9_here : MethodName := ⟨RX9, "here", "()I"⟩
abbrev cX9_rank : ByteArray := prog_11_method_28_code
def yX9_rank : MethodName := ⟨RX9, "rank", "(I)I"⟩
abbrev cX9_emits : ByteArray := prog_11_method_29_code
def yX9_emits : MethodName := ⟨RX9, "emits", "(I)V"⟩
abbrev cX9_top : ByteArray := prog_11_method_30_code
def yX9_top : MethodName := ⟨RX9, "top", "()I"⟩
abbrev cX9_waitsFor : ByteArray := prog_11_method_31_code
def yX9_waitsFor : MethodName := ⟨RX9, "waitsFor", "(I)V"⟩
abbrev cX9_lets : ByteArray := prog_11_method_32_code
def yX9_lets : MethodName := ⟨RX9, "lets", "(I)V"⟩
abbrev cX9_fails : ByteArray := prog_11_method_33_code
def yX9_fails : MethodName := ⟨RX9, "fails", "(I)Z"⟩
abbrev cX9_isWrong : ByteArray := prog_11_method_34_code
def yX9_isWrong : MethodName := ⟨RX9, "isWrong", "()Z"⟩
abbrev cX9_isBegun : ByteArray := prog_11_method_35_code
def yX9_isBegun : MethodName := ⟨RX9, "isBegun", "()Z"⟩
abbrev cX9_isGone : ByteArray := prog_11_method_36_code
def yX9_isGone : MethodName := ⟨RX9, "isGone", "()Z"⟩
abbrev cX9_isFormula : ByteArray := prog_11_method_37_code
def yX9_isFormula : MethodName := ⟨RX9, "isFormula", "()Z"⟩
abbrev cX9_value : ByteArray := prog_11_method_38_code
def yX9_value : MethodName := ⟨RX9, "value", "(I)I"⟩
abbrev cX9_compile : ByteArray := prog_11_method_39_code
def yX9_compile : MethodName := ⟨RX9, "compile", "()I"⟩
abbrev cX9_error : ByteArray := prog_11_method_40_code
def yX9_error : MethodName := ⟨RX9, "error", "(I)I"⟩
abbrev cX9_isRegister : ByteArray := prog_11_method_41_code
def yX9_isRegister : MethodName := ⟨RX9, "isRegister", "(I)Z"⟩
abbrev cX9_isOne : ByteArray := prog_11_method_42_code
def yX9_isOne : MethodName := ⟨RX9, "isOne", "(I)Z"⟩
abbrev cX9_setWord : ByteArray := prog_11_method_43_code
def yX9_setWord : MethodName := ⟨RX9, "setWord", "(III)I"⟩
abbrev cX9_wordLength : ByteArray := prog_11_method_44_code
def yX9_wordLength : MethodName := ⟨RX9, "wordLength", "(I)I"⟩
abbrev cX9_wordIndex : ByteArray := prog_11_method_45_code
def yX9_wordIndex : MethodName := ⟨RX9, "wordIndex", "(I)I"⟩
abbrev cX9_cellOf : ByteArray := prog_11_method_46_code
def yX9_cellOf : MethodName := ⟨RX9, "cellOf", "(II)I"⟩
abbrev cX9_cell : ByteArray := prog_11_method_47_code
def yX9_cell : MethodName := ⟨RX9, "cell", "(II)I"⟩
abbrev cX9_apply : ByteArray := prog_11_method_48_code
def yX9_apply : MethodName := ⟨RX9, "apply", "(IZ)I"⟩
abbrev cX9_orbit : ByteArray := prog_11_method_49_code
def yX9_orbit : MethodName := ⟨RX9, "orbit", "(II)I"⟩
abbrev cX9_goal : ByteArray := prog_11_method_50_code
def yX9_goal : MethodName := ⟨RX9, "goal", "(II)I"⟩
abbrev cX9_label : ByteArray := prog_11_method_51_code
def yX9_label : MethodName := ⟨RX9, "label", "(II)I"⟩
abbrev cX9_findsWays : ByteArray := prog_11_method_52_code
def yX9_findsWays : MethodName := ⟨RX9, "findsWays", "(II)V"⟩
abbrev cX9_count : ByteArray := prog_11_method_53_code
def yX9_count : MethodName := ⟨RX9, "count", "(IZ)I"⟩
abbrev cX9_preimageCount : ByteArray := prog_11_method_54_code
def yX9_preimageCount : MethodName := ⟨RX9, "preimageCount", "(IZ)I"⟩
abbrev cX9_shortOne : ByteArray := prog_11_method_55_code
def yX9_shortOne : MethodName := ⟨RX9, "shortOne", "(II)I"⟩
abbrev cX9_longOne : ByteArray := prog_11_method_56_code
def yX9_longOne : MethodName := ⟨RX9, "longOne", "(IZI)I"⟩
abbrev cX9_preimage : ByteArray := prog_11_method_57_code
def yX9_preimage : MethodName := ⟨RX9, "preimage", "(IZII)I"⟩
abbrev cX9_preimagesBetween : ByteArray := prog_11_method_58_code
def yX9_preimagesBetween : MethodName := ⟨RX9, "preimagesBetween", "(III)I"⟩
abbrev cX9_preimages : ByteArray := prog_11_method_59_code
def yX9_preimages : MethodName := ⟨RX9, "preimages", "(II)I"⟩
abbrev cX9_wordsWith : ByteArray := prog_11_method_60_code
def yX9_wordsWith : MethodName := ⟨RX9, "wordsWith", "(II)I"⟩
abbrev cX9_mostPreimages : ByteArray := prog_11_method_61_code
def yX9_mostPreimages : MethodName := ⟨RX9, "mostPreimages", "(I)I"⟩
abbrev cX9_fixedWords : ByteArray := prog_11_method_62_code
def yX9_fixedWords : MethodName := ⟨RX9, "fixedWords", "(I)I"⟩
abbrev cX9_edge : ByteArray := prog_11_method_63_code
def yX9_edge : MethodName := ⟨RX9, "edge", "(III)I"⟩
abbrev cX9_successors : ByteArray := prog_11_method_64_code
def yX9_successors : MethodName := ⟨RX9, "successors", "(II)I"⟩
abbrev cX9_reaches : ByteArray := prog_11_method_65_code
def yX9_reaches : MethodName := ⟨RX9, "reaches", "(IIII)V"⟩
abbrev cX9_findsSets : ByteArray := prog_11_method_66_code
def yX9_findsSets : MethodName := ⟨RX9, "findsSets", "()V"⟩
abbrev cX9_subsets : ByteArray := prog_11_method_67_code
def yX9_subsets : MethodName := ⟨RX9, "subsets", "()I"⟩
abbrev cX9_orphans : ByteArray := prog_11_method_68_code
def yX9_orphans : MethodName := ⟨RX9, "orphans", "(I)I"⟩
abbrev cX9_shortestOrphan : ByteArray := prog_11_method_69_code
def yX9_shortestOrphan : MethodName := ⟨RX9, "shortestOrphan", "(I)I"⟩
abbrev cX9_pairs : ByteArray := prog_11_method_70_code
def yX9_pairs : MethodName := ⟨RX9, "pairs", "()I"⟩
abbrev cX9_cyclicPairs : ByteArray := prog_11_method_71_code
def yX9_cyclicPairs : MethodName := ⟨RX9, "cyclicPairs", "()I"⟩
abbrev cX9_isPermutive : ByteArray := prog_11_method_72_code
def yX9_isPermutive : MethodName := ⟨RX9, "isPermutive", "(I)Z"⟩
abbrev cX9_isBalanced : ByteArray := prog_11_method_73_code
def yX9_isBalanced : MethodName := ⟨RX9, "isBalanced", "()Z"⟩
abbrev cX9_isMade : ByteArray := prog_11_method_74_code
def yX9_isMade : MethodName := ⟨RX9, "isMade", "()Z"⟩
abbrev cX9_has : ByteArray := prog_11_method_75_code
def yX9_has : MethodName := ⟨RX9, "has", "(I)Z"⟩
abbrev cX9_isInverse : ByteArray := prog_11_method_76_code
def yX9_isInverse : MethodName := ⟨RX9, "isInverse", "(II)Z"⟩
abbrev cX9_hasInverse : ByteArray := prog_11_method_77_code
def yX9_hasInverse : MethodName := ⟨RX9, "hasInverse", "()Z"⟩
abbrev cX9_inverse : ByteArray := prog_11_method_78_code
def yX9_inverse : MethodName := ⟨RX9, "inverse", "(I)I"⟩
abbrev cX9_inverseOutput : ByteArray := prog_11_method_79_code
def yX9_inverseOutput : MethodName := ⟨RX9, "inverseOutput", "(I)I"⟩
abbrev cX9_copies : ByteArray := prog_11_method_80_code
def yX9_copies : MethodName := ⟨RX9, "copies", "([I[I)V"⟩
abbrev cX9_save : ByteArray := prog_11_method_81_code
def yX9_save : MethodName := ⟨RX9, "save", "()J"⟩
abbrev cX9_restore : ByteArray := prog_11_method_82_code
def yX9_restore : MethodName := ⟨RX9, "restore", "()J"⟩
def RJ6 : String := "java/lang/Integer"
def TJ6 : u_T := fun k => match k with
  | _ => ("", "", "", false)
def tyJ6 : Nat → FieldType := fun k => match k with
  | _ => .int
abbrev wsJ60 : List Cond := u_ws RJ6 TJ6 0
theorem nmJ6 : ∀ a, a < 0 → ∀ b, b < 0 → a ≠ b → (TJ6 a).2.1 ≠ (TJ6 b).2.1 := by decide +kernel
theorem tyJ6_ok : ∀ k, k < 0 → parseFieldDescriptor (TJ6 k).2.2.1 = some (tyJ6 k) := by decide +kernel
abbrev cJ6_getChars_ba4f3 : ByteArray := prog_24_method_12_code
def yJ6_getChars_ba4f3 : MethodName := ⟨RJ6, "getChars", "(II[B)I"⟩
abbrev cJ6_stringSize_0f7a4 : ByteArray := prog_24_method_13_code
def yJ6_stringSize_0f7a4 : MethodName := ⟨RJ6, "stringSize", "(I)I"⟩
abbrev cJ6_numberOfTrailingZeros_0f7a4 : ByteArray := prog_24_method_48_code
def yJ6_numberOfTrailingZeros_0f7a4 : MethodName := ⟨RJ6, "numberOfTrailingZeros", "(I)I"⟩
def RJ9 : String := "java/lang/Math"
def TJ9 : u_T := fun k => match k with
  | _ => ("", "", "", false)
def tyJ9 : Nat → FieldType := fun k => match k with
  | _ => .int
abbrev wsJ90 : List Cond := u_ws RJ9 TJ9 0
theorem nmJ9 : ∀ a, a < 0 → ∀ b, b < 0 → a ≠ b → (TJ9 a).2.1 ≠ (TJ9 b).2.1 := by decide +kernel
theorem tyJ9_ok : ∀ k, k < 0 → parseFieldDescriptor (TJ9 k).2.2.1 = some (tyJ9 k) := by decide +kernel
abbrev cJ9_floorMod_7cf53 : ByteArray := prog_25_method_50_code
def yJ9_floorMod_7cf53 : MethodName := ⟨RJ9, "floorMod", "(II)I"⟩
abbrev cJ9_max_7cf53 : ByteArray := prog_25_method_65_code
def yJ9_max_7cf53 : MethodName := ⟨RJ9, "max", "(II)I"⟩
abbrev cJ9_min_7cf53 : ByteArray := prog_25_method_69_code
def yJ9_min_7cf53 : MethodName := ⟨RJ9, "min", "(II)I"⟩
abbrev cJ9_min_f86c9 : ByteArray := prog_25_method_70_code
def yJ9_min_f86c9 : MethodName := ⟨RJ9, "min", "(JJ)J"⟩
def RJ7 : String := "java/util/Arrays"
def TJ7 : u_T := fun k => match k with
  | _ => ("", "", "", false)
def tyJ7 : Nat → FieldType := fun k => match k with
  | _ => .int
abbrev wsJ70 : List Cond := u_ws RJ7 TJ7 0
theorem nmJ7 : ∀ a, a < 0 → ∀ b, b < 0 → a ≠ b → (TJ7 a).2.1 ≠ (TJ7 b).2.1 := by decide +kernel
theorem tyJ7_ok : ∀ k, k < 0 → parseFieldDescriptor (TJ7 k).2.2.1 = some (tyJ7 k) := by decide +kernel
abbrev cJ7_rangeCheck_23922 : ByteArray := prog_36_method_30_code
def yJ7_rangeCheck_23922 : MethodName := ⟨RJ7, "rangeCheck", "(III)V"⟩
abbrev cJ7_fill_53178 : ByteArray := prog_36_method_103_code
def yJ7_fill_53178 : MethodName := ⟨RJ7, "fill", "([II)V"⟩
abbrev cJ7_fill_fda19 : ByteArray := prog_36_method_104_code
def yJ7_fill_fda19 : MethodName := ⟨RJ7, "fill", "([IIII)V"⟩
abbrev cJ7_copyOf_9075b : ByteArray := prog_36_method_121_code
def yJ7_copyOf_9075b : MethodName := ⟨RJ7, "copyOf", "([BI)[B"⟩
abbrev cJ7_checkLength_df160 : ByteArray := prog_36_method_131_code
def yJ7_checkLength_df160 : MethodName := ⟨RJ7, "checkLength", "(II)V"⟩
abbrev cJ7_copyOfRange_39247 : ByteArray := prog_36_method_132_code
def yJ7_copyOfRange_39247 : MethodName := ⟨RJ7, "copyOfRange", "([BII)[B"⟩
abbrev cJ7_copyOfRangeByte_39247 : ByteArray := prog_36_method_133_code
def yJ7_copyOfRangeByte_39247 : MethodName := ⟨RJ7, "copyOfRangeByte", "([BII)[B"⟩
def RL : String := "PreimageAnalyzerLaw"
abbrev cL_setSize : ByteArray := method_3_code
def yL_setSize : MethodName := ⟨RL, "setSize", "(LPreimageAnalyzer;II[J)I"⟩
abbrev cL_size : ByteArray := method_4_code
def yL_size : MethodName := ⟨RL, "size", "(LPreimageAnalyzer;I[J)I"⟩
abbrev cL_setOutput : ByteArray := method_5_code
def yL_setOutput : MethodName := ⟨RL, "setOutput", "(LPreimageAnalyzer;II[J)I"⟩
abbrev cL_output : ByteArray := method_6_code
def yL_output : MethodName := ⟨RL, "output", "(LPreimageAnalyzer;I[J)I"⟩
abbrev cL_setNumber : ByteArray := method_7_code
def yL_setNumber : MethodName := ⟨RL, "setNumber", "(LPreimageAnalyzer;J[J)I"⟩
abbrev cL_append : ByteArray := method_8_code
def yL_append : MethodName := ⟨RL, "append", "(LPreimageAnalyzer;I[J)I"⟩
abbrev cL_compile : ByteArray := method_9_code
def yL_compile : MethodName := ⟨RL, "compile", "(LPreimageAnalyzer;[J)I"⟩
abbrev cL_error : ByteArray := method_10_code
def yL_error : MethodName := ⟨RL, "error", "(LPreimageAnalyzer;I[J)I"⟩
abbrev cL_compose : ByteArray := method_11_code
def yL_compose : MethodName := ⟨RL, "compose", "(LPreimageAnalyzer;[J)I"⟩
abbrev cL_setWord : ByteArray := method_12_code
def yL_setWord : MethodName := ⟨RL, "setWord", "(LPreimageAnalyzer;III[J)I"⟩
abbrev cL_wordLength : ByteArray := method_13_code
def yL_wordLength : MethodName := ⟨RL, "wordLength", "(LPreimageAnalyzer;I[J)I"⟩
abbrev cL_wordIndex : ByteArray := method_14_code
def yL_wordIndex : MethodName := ⟨RL, "wordIndex", "(LPreimageAnalyzer;I[J)I"⟩
abbrev cL_cell : ByteArray := method_15_code
def yL_cell : MethodName := ⟨RL, "cell", "(LPreimageAnalyzer;II[J)I"⟩
abbrev cL_apply : ByteArray := method_16_code
def yL_apply : MethodName := ⟨RL, "apply", "(LPreimageAnalyzer;IZ[J)I"⟩
abbrev cL_orbit : ByteArray := method_17_code
def yL_orbit : MethodName := ⟨RL, "orbit", "(LPreimageAnalyzer;II[J)I"⟩
abbrev cL_preimageCount : ByteArray := method_18_code
def yL_preimageCount : MethodName := ⟨RL, "preimageCount", "(LPreimageAnalyzer;IZ[J)I"⟩
abbrev cL_preimage : ByteArray := method_19_code
def yL_preimage : MethodName := ⟨RL, "preimage", "(LPreimageAnalyzer;IZII[J)I"⟩
abbrev cL_preimagesBetween : ByteArray := method_20_code
def yL_preimagesBetween : MethodName := ⟨RL, "preimagesBetween", "(LPreimageAnalyzer;III[J)I"⟩
abbrev cL_wordsWith : ByteArray := method_21_code
def yL_wordsWith : MethodName := ⟨RL, "wordsWith", "(LPreimageAnalyzer;II[J)I"⟩
abbrev cL_mostPreimages : ByteArray := method_22_code
def yL_mostPreimages : MethodName := ⟨RL, "mostPreimages", "(LPreimageAnalyzer;I[J)I"⟩
abbrev cL_fixedWords : ByteArray := method_23_code
def yL_fixedWords : MethodName := ⟨RL, "fixedWords", "(LPreimageAnalyzer;I[J)I"⟩
abbrev cL_edge : ByteArray := method_24_code
def yL_edge : MethodName := ⟨RL, "edge", "(LPreimageAnalyzer;III[J)I"⟩
abbrev cL_orphans : ByteArray := method_25_code
def yL_orphans : MethodName := ⟨RL, "orphans", "(LPreimageAnalyzer;I[J)I"⟩
abbrev cL_shortestOrphan : ByteArray := method_26_code
def yL_shortestOrphan : MethodName := ⟨RL, "shortestOrphan", "(LPreimageAnalyzer;I[J)I"⟩
abbrev cL_has : ByteArray := method_27_code
def yL_has : MethodName := ⟨RL, "has", "(LPreimageAnalyzer;I[J)I"⟩
abbrev cL_inverse : ByteArray := method_28_code
def yL_inverse : MethodName := ⟨RL, "inverse", "(LPreimageAnalyzer;I[J)I"⟩
abbrev cL_inverseOutput : ByteArray := method_29_code
def yL_inverseOutput : MethodName := ⟨RL, "inverseOutput", "(LPreimageAnalyzer;I[J)I"⟩
abbrev cL_restore : ByteArray := method_30_code
def yL_restore : MethodName := ⟨RL, "restore", "(LPreimageAnalyzer;[J)I"⟩
abbrev cL_law : ByteArray := code
def yL_law : MethodName := ⟨RL, "law", "([I)Z"⟩
end
section
/-! ===== the pure world: cells by numbers, addresses by a map ===== -/
abbrev PE : Type := (Nat × vp_A) ⊕ (Nat × List Value)
abbrev Hp : Type := Nat → PE
abbrev Wt : Type := (Nat → Nat) × Nat
abbrev GG : Type := va_G × (Nat → ClassId)
abbrev Mi : Type := MethodName × ByteArray × Nat × Option FieldType × Nat
def hu (h : Hp) (q : Nat) (c : PE) : Hp := fun j => if j = q then c else h j
theorem hu_s (h : Hp) (q : Nat) (c : PE) : hu h q c q = c := if_pos rfl
theorem hu_n (h : Hp) {q j : Nat} (c : PE) (hj : j ≠ q) : hu h q c j = h j := if_neg hj
def junk : PE := .inr (1000, [])
abbrev io (n : Nat) (f : Nat → Int32) : PE := .inl (0, n, .inl f)
abbrev zo (n : Nat) (f : Nat → Int32) : PE := .inl (1, n, .inl f)
abbrev jo (n : Nat) (f : Nat → Int64) : PE := .inl (2, n, .inr (.inl f))
abbrev ao (n : Nat) (f : Nat → Option Nat) : PE := .inl (3, n, .inr (.inr (.inr (.inr f))))
abbrev ob (ci : Nat) (fs : List Value) : PE := .inr (ci, fs)
def cv (ad : Nat → Nat) : Value → Value
  | .ref a => .ref (ad a)
  | v => v
theorem cv_cat (ad : Nat → Nat) (v : Value) : (cv ad v).category = v.category := by cases v <;> rfl
def cx (ad : Nat → Nat) : vp_A → vp_A
  | (n, .inr (.inr (.inr (.inr f)))) => (n, .inr (.inr (.inr (.inr (fun j => (f j).map ad)))))
  | a => a
def cz (cA : Nat → ClassId) (ad : Nat → Nat) : PE → va_E
  | .inl (t, a) => .inl (cA t, cx ad a)
  | .inr (ci, fs) => .inr (ci, fs.map (cv ad))
abbrev cls10 : List vw_C := [(RX0, TX0, 10), (RX1, TX1, 4), (RX2, TX2, 4), (RX3, TX3, 1), (RX4, TX4, 5), (RX5, TX5, 2), (RX6, TX6, 9), (RX7, TX7, 9), (RX8, TX8, 13), (RX9, TX9, 42)]
abbrev AB (B : Nat) : Nat → Prop := fun q => B ≤ q
abbrev tysD (G : GG) : List (ClassId × FieldType) := [(G.2 0, .int), (G.2 1, .boolean), (G.2 2, .long), (G.2 3, .array .int)]
def wl (G : GG) (w : Wt) (h : Hp) : va_W := (List.range w.2).map (fun i => (w.1 i, cz G.2 w.1 (h i)))
def okv (N : Nat) : Value → Prop
  | .ref a => a < N
  | _ => True
def clo (N : Nat) : PE → Prop
  | .inl (_, _, .inr (.inr (.inr (.inr f)))) => ∀ j a, f j = some a → a < N
  | .inl _ => True
  | .inr (_, fs) => ∀ v ∈ fs, okv N v
def Wd (G : GG) (B : Nat) (w : Wt) (h : Hp) (H : Heap) : Prop :=
  va_P G.1 cls10 (wl G w h) H ∧ va_D (AB B) (wl G w h) ∧ (∀ q, w.2 ≤ q → h q = junk) ∧ ∀ q, q < w.2 → clo w.2 (h q)
theorem wl_get (G : GG) (w : Wt) (h : Hp) {q : Nat} (hq : q < w.2) : (wl G w h)[q]? = some (w.1 q, cz G.2 w.1 (h q)) := by
  simp [wl, hq]
theorem wl_set (G : GG) (w : Wt) (h : Hp) {q : Nat} (c : PE) (hq : q < w.2) : (wl G w h).set q (w.1 q, cz G.2 w.1 c) = wl G w (hu h q c) := by
  apply List.ext_getElem?
  intro i
  by_cases hi : i = q
  · subst hi
    rw [List.getElem?_set_self (by simp [wl, hq]), wl_get G w _ hq, hu_s]
  · rw [List.getElem?_set_ne (Ne.symm hi)]
    by_cases h2 : i < w.2
    · rw [wl_get G w _ h2, wl_get G w _ h2, hu_n _ _ hi]
    · rw [List.getElem?_eq_none (by simp [wl]; omega), List.getElem?_eq_none (by simp [wl]; omega)]
theorem Wd.lt {G : GG} {B : Nat} {w : Wt} {h : Hp} {H : Heap} (hW : Wd G B w h H) {q : Nat} (hq : h q ≠ junk) : q < w.2 := by
  rcases Nat.lt_or_ge q w.2 with h1 | h1
  · exact h1
  · exact absurd (hW.2.2.1 q h1) hq
theorem Wd.set {G : GG} {B : Nat} {w : Wt} {h : Hp} {H H1 : Heap} (hW : Wd G B w h H) {q : Nat} (hq : q < w.2) {c : PE} {e : va_E} (hc : cz G.2 w.1 c = e) (ho : clo w.2 c) (hP : va_P G.1 cls10 ((wl G w h).set q (w.1 q, e)) H1) (hD : va_D (AB B) ((wl G w h).set q (w.1 q, e))) : Wd G B w (hu h q c) H1 := by
  subst hc
  rw [wl_set G w h c hq] at hP hD
  refine ⟨hP, hD, fun j hj => ?_, fun j hj => ?_⟩
  · rw [hu_n _ _ (by omega)]
    exact hW.2.2.1 j hj
  · by_cases e : j = q
    · subst e; rw [hu_s]; exact ho
    · rw [hu_n _ _ e]; exact hW.2.2.2 j hj
theorem wl_ext (G : GG) {w w' : Wt} (h : Hp) (hN : w.2 = w'.2) (ha : ∀ i, i < w.2 → w'.1 i = w.1 i) (hcl : ∀ q, q < w.2 → clo w.2 (h q)) : wl G w' h = wl G w h := by
  unfold wl
  rw [← hN]
  refine List.map_congr_left fun i hi => ?_
  have hi' : i < w.2 := List.mem_range.mp hi
  rw [ha i hi']
  congr 1
  have hc := hcl i hi'
  revert hc
  generalize h i = c
  intro hc
  match c, hc with
  | .inl (t, n, .inl f), _ => rfl
  | .inl (t, n, .inr (.inl f)), _ => rfl
  | .inl (t, n, .inr (.inr (.inl f))), _ => rfl
  | .inl (t, n, .inr (.inr (.inr (.inl f)))), _ => rfl
  | .inl (t, n, .inr (.inr (.inr (.inr f)))), hc =>
    have hf : (fun j => (f j).map w'.1) = (fun j => (f j).map w.1) := by
      funext j
      cases hj : f j with
      | none => rfl
      | some a => simp only [Option.map_some]; rw [ha a (hc j a hj)]
    show (Sum.inl (G.2 t, (n, .inr (.inr (.inr (.inr (fun j => (f j).map w'.1)))))) : va_E) = .inl (G.2 t, (n, .inr (.inr (.inr (.inr (fun j => (f j).map w.1))))))
    rw [hf]
  | .inr (ci, fs), hc =>
    show (Sum.inr (ci, fs.map (cv w'.1)) : va_E) = .inr (ci, fs.map (cv w.1))
    congr 2
    refine List.map_congr_left fun v hv => ?_
    have := hc v hv
    cases v <;> first | rfl | (show Value.ref _ = Value.ref _; rw [ha _ this])
/-! the locals -/
def Lc (ad : Nat → Nat) (L : List (Option Value)) (ls : Array Slot) : Prop := ls.size = L.length ∧ lv_wf ls ∧ ∀ (i : Nat) (v : Value), L[i]? = some (some v) → ls[i]? = some (.val (cv ad v))
def rdL : List (Option Value) → Nat → Option Value
  | [], _ => none
  | a :: _, 0 => a
  | _ :: l, i + 1 => rdL l i
def killL : Option Value → Option Value
  | some (.long _) => none
  | some (.double _) => none
  | a => a
def sto1 : List (Option Value) → Nat → Value → List (Option Value)
  | [], _, _ => []
  | _ :: l, 0, v => some v :: l
  | a :: l, 1, v => killL a :: sto1 l 0 v
  | a :: l, i + 2, v => a :: sto1 l (i + 1) v
def sto2 : List (Option Value) → Nat → Value → List (Option Value)
  | [], _, _ => []
  | _ :: [], 0, v => [some v]
  | _ :: _ :: l, 0, v => some v :: none :: l
  | a :: l, 1, v => killL a :: sto2 l 0 v
  | a :: l, i + 2, v => a :: sto2 l (i + 1) v
theorem rdL_get : ∀ (L : List (Option Value)) (i : Nat) (v : Value), rdL L i = some v → L[i]? = some (some v)
  | [], _, _, h => by cases h
  | a :: _, 0, v, h => by
    have h : a = some v := h
    rw [h]; rfl
  | _ :: l, i + 1, v, h => by rw [List.getElem?_cons_succ]; exact rdL_get l i v h
theorem Lc.rd {ad : Nat → Nat} {L : List (Option Value)} {ls : Array Slot} (h : Lc ad L ls) {i : Nat} {v : Value} (hi : rdL L i = some v) : ls[i]? = some (.val (cv ad v)) := h.2.2 i v (rdL_get L i v hi)
def lvs (ad : Nat → Nat) (L : List (Option Value)) : List (Nat × Value) := (List.range L.length).filterMap (fun i => match L[i]? with
  | some (some v) => some (i, cv ad v)
  | _ => none)
theorem lvs_mem {ad : Nat → Nat} {L : List (Option Value)} {i : Nat} {v : Value} (h : L[i]? = some (some v)) : (i, cv ad v) ∈ lvs ad L := by
  refine List.mem_filterMap.mpr ⟨i, List.mem_range.mpr (List.getElem?_eq_some_iff.mp h).1, ?_⟩
  rw [h]
theorem Lc.has {ad : Nat → Nat} {L : List (Option Value)} {ls : Array Slot} (h : Lc ad L ls) : lv_has ls L.length (lvs ad L) := by
  refine ⟨h.1, h.2.1, fun q hq => ?_⟩
  obtain ⟨i, -, hi⟩ := List.mem_filterMap.mp hq
  split at hi
  · rename_i v hv
    cases hi
    exact h.2.2 i v hv
  · cases hi
theorem sto1_len : ∀ (L : List (Option Value)) (i : Nat) (v : Value), (sto1 L i v).length = L.length
  | [], _, _ => rfl
  | _ :: _, 0, _ => rfl
  | _ :: l, 1, v => by simp [sto1, sto1_len l 0 v]
  | _ :: l, i + 2, v => by simp [sto1, sto1_len l (i + 1) v]
theorem sto2_len : ∀ (L : List (Option Value)) (i : Nat) (v : Value), (sto2 L i v).length = L.length
  | [], _, _ => rfl
  | _ :: [], 0, _ => rfl
  | _ :: _ :: _, 0, _ => rfl
  | _ :: l, 1, v => by simp [sto2, sto2_len l 0 v]
  | _ :: l, i + 2, v => by simp [sto2, sto2_len l (i + 1) v]
theorem killL_some {a : Option Value} {u : Value} (h : killL a = some u) : a = some u ∧ u.category = 1 := by
  match a, h with
  | some (.int _), h => cases h; exact ⟨rfl, rfl⟩
  | some (.float _), h => cases h; exact ⟨rfl, rfl⟩
  | some .null, h => cases h; exact ⟨rfl, rfl⟩
  | some (.ref _), h => cases h; exact ⟨rfl, rfl⟩
  | some (.retAddr _), h => cases h; exact ⟨rfl, rfl⟩
theorem sto1_get : ∀ (L : List (Option Value)) (i : Nat) (v : Value) (j : Nat) (u : Value), (sto1 L i v)[j]? = some (some u) → (j = i ∧ u = v) ∨ (j ≠ i ∧ L[j]? = some (some u) ∧ ¬ (j + 1 = i ∧ u.category = 2))
  | [], _, _, _, _, h => by simp [sto1] at h
  | a :: l, 0, v, 0, u, h => by
    simp [sto1] at h
    exact Or.inl ⟨rfl, h.symm⟩
  | a :: l, 0, v, j + 1, u, h => by
    simp [sto1] at h
    exact Or.inr ⟨by omega, by simpa using h, by omega⟩
  | a :: l, 1, v, 0, u, h => by
    simp [sto1] at h
    obtain ⟨h1, h2⟩ := killL_some h
    exact Or.inr ⟨by omega, by simp [h1], by omega⟩
  | a :: l, 1, v, j + 1, u, h => by
    have h' : (sto1 l 0 v)[j]? = some (some u) := by simpa [sto1] using h
    rcases sto1_get l 0 v j u h' with ⟨h1, h2⟩ | ⟨h1, h2, h3⟩
    · exact Or.inl ⟨by omega, h2⟩
    · exact Or.inr ⟨by omega, by simpa using h2, by omega⟩
  | a :: l, i + 2, v, 0, u, h => by
    simp [sto1] at h
    exact Or.inr ⟨by omega, by simp [h], by omega⟩
  | a :: l, i + 2, v, j + 1, u, h => by
    have h' : (sto1 l (i + 1) v)[j]? = some (some u) := by simpa [sto1] using h
    rcases sto1_get l (i + 1) v j u h' with ⟨h1, h2⟩ | ⟨h1, h2, h3⟩
    · exact Or.inl ⟨by omega, h2⟩
    · exact Or.inr ⟨by omega, by simpa using h2, by omega⟩
theorem sto2_get : ∀ (L : List (Option Value)) (i : Nat) (v : Value) (j : Nat) (u : Value), (sto2 L i v)[j]? = some (some u) → (j = i ∧ u = v) ∨ (j ≠ i ∧ j ≠ i + 1 ∧ L[j]? = some (some u) ∧ ¬ (j + 1 = i ∧ u.category = 2))
  | [], _, _, _, _, h => by simp [sto2] at h
  | [a], 0, v, 0, u, h => by
    simp [sto2] at h
    exact Or.inl ⟨rfl, h.symm⟩
  | [a], 0, v, j + 1, u, h => by simp [sto2] at h
  | a :: b :: l, 0, v, 0, u, h => by
    simp [sto2] at h
    exact Or.inl ⟨rfl, h.symm⟩
  | a :: b :: l, 0, v, 1, u, h => by simp [sto2] at h
  | a :: b :: l, 0, v, j + 2, u, h => by
    simp [sto2] at h
    exact Or.inr ⟨by omega, by omega, by simpa using h, by omega⟩
  | a :: l, 1, v, 0, u, h => by
    simp [sto2] at h
    obtain ⟨h1, h2⟩ := killL_some h
    exact Or.inr ⟨by omega, by omega, by simp [h1], by omega⟩
  | a :: l, 1, v, j + 1, u, h => by
    have h' : (sto2 l 0 v)[j]? = some (some u) := by simpa [sto2] using h
    rcases sto2_get l 0 v j u h' with ⟨h1, h2⟩ | ⟨h1, h2, h3, h4⟩
    · exact Or.inl ⟨by omega, h2⟩
    · exact Or.inr ⟨by omega, by omega, by simpa using h3, by omega⟩
  | a :: l, i + 2, v, 0, u, h => by
    simp [sto2] at h
    exact Or.inr ⟨by omega, by omega, by simp [h], by omega⟩
  | a :: l, i + 2, v, j + 1, u, h => by
    have h' : (sto2 l (i + 1) v)[j]? = some (some u) := by simpa [sto2] using h
    rcases sto2_get l (i + 1) v j u h' with ⟨h1, h2⟩ | ⟨h1, h2, h3, h4⟩
    · exact Or.inl ⟨by omega, h2⟩
    · exact Or.inr ⟨by omega, by omega, by simpa using h3, by omega⟩
theorem Lc.sto1 {ad : Nat → Nat} {L : List (Option Value)} {ls' : Array Slot} {i : Nat} {v : Value} (h' : lv_has ls' L.length ((i, cv ad v) :: (lvs ad L).filter (fun q => !(q.1 == i) && !(q.1 + 1 == i && q.2.category == 2)))) : Lc ad (sto1 L i v) ls' := by
  refine ⟨by rw [sto1_len]; exact h'.1, h'.2.1, fun j u hj => ?_⟩
  rcases sto1_get L i v j u hj with ⟨h1, h2⟩ | ⟨h1, h2, h3⟩
  · subst h1; subst h2
    exact h'.2.2 _ List.mem_cons_self
  · refine h'.2.2 (j, cv ad u) (List.mem_cons_of_mem _ (List.mem_filter.mpr ⟨lvs_mem h2, ?_⟩))
    simp [h1, cv_cat]
    omega
theorem Lc.sto2 {ad : Nat → Nat} {L : List (Option Value)} {ls' : Array Slot} {i : Nat} {v : Value} (h' : lv_has ls' L.length ((i, cv ad v) :: (lvs ad L).filter (fun q => !(q.1 == i) && (!(q.1 == i + 1) && !(q.1 + 1 == i && q.2.category == 2))))) : Lc ad (sto2 L i v) ls' := by
  refine ⟨by rw [sto2_len]; exact h'.1, h'.2.1, fun j u hj => ?_⟩
  rcases sto2_get L i v j u hj with ⟨h1, h2⟩ | ⟨h1, h2, h3, h4⟩
  · subst h1; subst h2
    exact h'.2.2 _ List.mem_cons_self
  · refine h'.2.2 (j, cv ad u) (List.mem_cons_of_mem _ (List.mem_filter.mpr ⟨lvs_mem h3, ?_⟩))
    simp [h1, h2, cv_cat]
    omega
end
section
/-! ===== contexts, contracts, the judgement V ===== -/
def TSg : List Cond := lw_tbl.filter goodWord
theorem tsg {w : Cond} (h : w ∈ lw_tbl) (hg : goodWord w = true) : w ∈ TSg := List.mem_filter.mpr ⟨h, hg⟩
theorem tsg1 {w : Cond} (h : w ∈ tables_1) (hg : goodWord w = true) : w ∈ TSg := tsg (List.mem_append_right _ h) hg
theorem tsg_good {w : Cond} (h : w ∈ TSg) : goodWord w = true := (List.mem_filter.mp h).2
theorem tsg_in {Ts ws : List Cond} (h1 : ∀ w ∈ TSg, w ∈ Ts) (h2 : ∀ w ∈ ws, w ∈ TSg) : GoodIn Ts ws := fun w hw => ⟨h1 w (h2 w hw), good_of_word (tsg_good (h2 w hw))⟩
/-- words that aren't good but stay -/
def exOk : Cond → Bool
  | .castable .. => true
  | .declares .. => true
  | _ => false
def ncL : List (String × String) := [("java/lang/ArithmeticException", "java/lang/IllegalArgumentException"), ("java/lang/ArithmeticException", "java/lang/IllegalStateException"), ("java/lang/ArithmeticException", "java/lang/IndexOutOfBoundsException"), ("java/lang/ArithmeticException", "java/util/NoSuchElementException"), ("java/lang/IllegalArgumentException", "java/lang/ArithmeticException"), ("java/lang/IllegalArgumentException", "java/lang/IllegalStateException"), ("java/lang/IllegalArgumentException", "java/lang/IndexOutOfBoundsException"), ("java/lang/IllegalArgumentException", "java/util/NoSuchElementException"), ("java/lang/IllegalStateException", "java/lang/ArithmeticException"), ("java/lang/IllegalStateException", "java/lang/IllegalArgumentException"), ("java/lang/IllegalStateException", "java/lang/IndexOutOfBoundsException"), ("java/lang/IllegalStateException", "java/util/NoSuchElementException"), ("java/lang/IndexOutOfBoundsException", "java/lang/ArithmeticException"), ("java/lang/IndexOutOfBoundsException", "java/lang/IllegalArgumentException"), ("java/lang/IndexOutOfBoundsException", "java/lang/IllegalStateException"), ("java/lang/IndexOutOfBoundsException", "java/util/NoSuchElementException"), ("java/util/NoSuchElementException", "java/lang/ArithmeticException"), ("java/util/NoSuchElementException", "java/lang/IllegalArgumentException"), ("java/util/NoSuchElementException", "java/lang/IllegalStateException"), ("java/util/NoSuchElementException", "java/lang/IndexOutOfBoundsException")]
def ExD (U : State) : Prop := (∀ w ∈ lw_tbl, exOk w = true → va_Nw w U) ∧ (∀ own k tx, Cond.stringRef own k tx ∈ lw_tbl → ∃ a, vk_R own k tx a U) ∧ (∀ q ∈ ncL, va_Nc q.1 q.2 U) ∧ va_AOA .int U
def StD (B : Nat) (U : State) (H : Heap) : Prop := vx_Zq Bundle.tN "UNASSIGNED_STACK" Bundle.steD (AB B) U H ∧ vx_Zq Bundle.tN "SUPPRESSED_SENTINEL" Bundle.listD (AB B) U H
theorem aoa_moved {ty : FieldType} {u U : State} (hvm : u.vm.Alike U.vm) (h : va_AOA ty u) : va_AOA ty U := by
  unfold va_AOA at h ⊢
  have h1 := (Cond.arrayOver_setVmC (args := #[]) hvm (.array ty)).trans h
  exact h1
theorem ExD.warm {s U : State} (hW : s.WarmedH U.vm) (h : ExD s) : ExD U := by
  obtain ⟨h1, h2, h3, h4⟩ := h
  refine ⟨fun w hw he => ?_, fun own k tx hw => ?_, fun q hq => (h3 q hq).moved hW.alike, aoa_moved hW.alike h4⟩
  · have := h1 w hw he
    cases w with
    | castable C T => exact va_Nw.warmC hW this
    | declares x => exact va_Nw.warmD hW this
    | _ => cases he
  · obtain ⟨a, ha⟩ := h2 own k tx hw
    exact ⟨a, ha.warm hW⟩
def PreD (G : GG) (B : Nat) (w : Wt) (h : Hp) (U : State) : Prop := Wd G B w h U.heap ∧ va_K G.1 cls10 (tysD G) U ∧ B ≤ U.heap.size ∧ StD B U U.heap ∧ ExD U
abbrev Oc : Type := Option Value ⊕ String
def QcD (G : GG) (B : Nat) (o : Oc) (P : Wt → Hp → Prop) : Array Value → State → Outcome → State → Prop := fun _ st oc t => (∃ v w' h', oc = .returned v ∧ o = .inl v ∧ P w' h' ∧ Wd G B w' h' t.heap) ∧ va_F (AB B) st t
def XcD (G : GG) (B : Nat) (o : Oc) (P : Wt → Hp → Prop) : String → State → State → Prop := fun E st t => (∃ w' h', o = .inr E ∧ P w' h' ∧ Wd G B w' h' t.heap) ∧ va_F (AB B) st t
def rmD (d : Nat) (z : Nat × Nat) : Room := { frames := 20 + d, cells := z.1, slots := z.2, locals := 200 + 80 * d }
/-- a method's contract: from the heap h it comes to the outcome o with P of world and heap; at most z new cells and slots -/
def Con (μ : Mi) (d : Nat) (z : Nat × Nat) (w : Wt) (as : List Value) (h : Hp) (o : Oc) (P : Wt → Hp → Prop) : Prop :=
  ∀ (l : Launch) (G : GG) (B : Nat), l.stackTraces = false → vx_Met l μ.1 (.code μ.1 μ.2.1 μ.2.2.1 μ.2.2.2.1 :: TSg) (rmD d z) (va_Pc (as.map (cv w.1)) (PreD G B w h)) (QcD G B o P) (XcD G B o P) z.1 z.2 (AB B)
abbrev CT : Type := Program × Launch × Env × Room × State × MethodId × Array Value × List Frame × Method × Code × GG × Nat × (State → Prop)
def Cx (X : CT) (μ : Mi) (tab : List ExceptionTableEntry) (d : Nat) (zR : Nat × Nat) (o : Oc) (P : Wt → Hp → Prop) : Prop := match X with
  | (p, l, _, R, s, m, args, below, meth, c, G, B, Q) => p.tables.exec = Jvm.exec ∧ c.code = μ.2.1 ∧ c.maxLocals = μ.2.2.1 ∧ s.vm.findClass μ.1.cls = some m.cls ∧ (∀ w ∈ TSg, w.before args s = true) ∧ meth.locks = false ∧ l.stackTraces = false ∧ va_K G.1 cls10 (tysD G) s ∧ B ≤ s.heap.size ∧ StD B s s.heap ∧ ExD s ∧ (20 + d ≤ R.frames ∧ 200 + 80 * d ≤ R.locals ∧ zR.1 ≤ R.cells ∧ zR.2 ≤ R.slots) ∧ c.exceptionTable.toList = tab ∧ meth.sig.returnType = μ.2.2.2.1 ∧ meth.name = μ.1.name ∧ Q = vx_MQ below (QcD G B o P) (XcD G B o P) args s zR.1 zR.2 (AB B)
def V (X : CT) (z : Nat × Nat) (w : Wt) (h : Hp) (pc : Nat) (L : List (Option Value)) (st : List Value) : Prop := match X with
  | (p, l, e, R, s, m, args, below, meth, c, G, B, Q) => ∀ (H : Heap) (locs : List Loc) (ls : Array Slot), Wd G B w h H → va_S (AB B) s.heap H locs → Lc w.1 L ls → W p l e R s m args below meth c H locs z.1 z.2 Q (F0 m pc ls (st.map (cv w.1)))
def entL : Nat → List Value → List (Option Value)
  | n, [] => List.replicate n none
  | n + 2, .long x :: vs => some (.long x) :: none :: entL n vs
  | n + 1, v :: vs => some v :: entL n vs
  | 0, _ :: _ => []
end
section
/-! ===== the rules of V: straight instructions ===== -/
section VR
variable {X : CT} {μ : Mi} {tab : List ExceptionTableEntry} {d : Nat} {zR : Nat × Nat} {o : Oc} {P : Wt → Hp → Prop} {z : Nat × Nat} {w : Wt} {h : Hp} {pc : Nat} {L : List (Option Value)} {st : List Value}
theorem v_code (C : Cx X μ tab d zR o P) {Vn : Prop} (k : X.1.tables.exec = Jvm.exec → (X.2.2.2.2.2.2.2.2.2.1).code = μ.2.1 → Vn) : Vn := by
  rcases X with ⟨p, l, e, R, s, m, args, below, meth, c, G, B, Q⟩
  exact k C.1 C.2.1
theorem v_iconst (C : Cx X μ tab d zR o P) {n : Int} {v : Int32} (hd : decode μ.2.1 pc = .ok (.iconst n, 1)) (hv : Int32.ofInt n = v) (k : V X z w h (pc + 1) L (.int v :: st)) : V X z w h pc L st := by
  rcases X with ⟨p, l, e, R, s, m, args, below, meth, c, G, B, Q⟩
  intro H locs ls hW hS hl
  exact lv_iconst C.1 C.2.1 hd hv (k H locs ls hW hS hl)
theorem v_bipush (C : Cx X μ tab d zR o P) {n : Int} {v : Int32} (hd : decode μ.2.1 pc = .ok (.bipush n, 2)) (hv : (Int8.ofInt n).toInt32 = v) (k : V X z w h (pc + 2) L (.int v :: st)) : V X z w h pc L st := by
  rcases X with ⟨p, l, e, R, s, m, args, below, meth, c, G, B, Q⟩
  intro H locs ls hW hS hl
  exact lv_bipush C.1 C.2.1 hd hv (k H locs ls hW hS hl)
theorem v_sipush (C : Cx X μ tab d zR o P) {n : Int} {v : Int32} (hd : decode μ.2.1 pc = .ok (.sipush n, 3)) (hv : (Int16.ofInt n).toInt32 = v) (k : V X z w h (pc + 3) L (.int v :: st)) : V X z w h pc L st := by
  rcases X with ⟨p, l, e, R, s, m, args, below, meth, c, G, B, Q⟩
  intro H locs ls hW hS hl
  exact lv_sipush C.1 C.2.1 hd hv (k H locs ls hW hS hl)
theorem v_lconst (C : Cx X μ tab d zR o P) {n : Fin 2} {v : Int64} (hd : decode μ.2.1 pc = .ok (.lconst n, 1)) (hv : Int64.ofNat (n : Nat) = v) (k : V X z w h (pc + 1) L (.long v :: st)) : V X z w h pc L st := by
  rcases X with ⟨p, l, e, R, s, m, args, below, meth, c, G, B, Q⟩
  intro H locs ls hW hS hl
  exact lv_lconst C.1 C.2.1 hd hv (k H locs ls hW hS hl)
theorem v_iload_n (C : Cx X μ tab d zR o P) {n : Fin 4} {x : Int32} (hd : decode μ.2.1 pc = .ok (.iload_n n, 1)) (hr : rdL L (n : Nat) = some (.int x)) (k : V X z w h (pc + 1) L (.int x :: st)) : V X z w h pc L st := by
  rcases X with ⟨p, l, e, R, s, m, args, below, meth, c, G, B, Q⟩
  intro H locs ls hW hS hl
  exact lv_iload_n C.1 C.2.1 hd rfl (hl.rd hr) (k H locs ls hW hS hl)
theorem v_iload (C : Cx X μ tab d zR o P) {i : Nat} {x : Int32} (hd : decode μ.2.1 pc = .ok (.iload i, 2)) (hr : rdL L i = some (.int x)) (k : V X z w h (pc + 2) L (.int x :: st)) : V X z w h pc L st := by
  rcases X with ⟨p, l, e, R, s, m, args, below, meth, c, G, B, Q⟩
  intro H locs ls hW hS hl
  exact lv_iload C.1 C.2.1 hd (hl.rd hr) (k H locs ls hW hS hl)
theorem v_lload_n (C : Cx X μ tab d zR o P) {n : Fin 4} {x : Int64} (hd : decode μ.2.1 pc = .ok (.lload_n n, 1)) (hr : rdL L (n : Nat) = some (.long x)) (k : V X z w h (pc + 1) L (.long x :: st)) : V X z w h pc L st := by
  rcases X with ⟨p, l, e, R, s, m, args, below, meth, c, G, B, Q⟩
  intro H locs ls hW hS hl
  exact lv_lload_n C.1 C.2.1 hd rfl (hl.rd hr) (k H locs ls hW hS hl)
theorem v_lload (C : Cx X μ tab d zR o P) {i : Nat} {x : Int64} (hd : decode μ.2.1 pc = .ok (.lload i, 2)) (hr : rdL L i = some (.long x)) (k : V X z w h (pc + 2) L (.long x :: st)) : V X z w h pc L st := by
  rcases X with ⟨p, l, e, R, s, m, args, below, meth, c, G, B, Q⟩
  intro H locs ls hW hS hl
  exact lv_lload C.1 C.2.1 hd (hl.rd hr) (k H locs ls hW hS hl)
theorem v_aload_n (C : Cx X μ tab d zR o P) {n : Fin 4} {x : Nat} (hd : decode μ.2.1 pc = .ok (.aload_n n, 1)) (hr : rdL L (n : Nat) = some (.ref x)) (k : V X z w h (pc + 1) L (.ref x :: st)) : V X z w h pc L st := by
  rcases X with ⟨p, l, e, R, s, m, args, below, meth, c, G, B, Q⟩
  intro H locs ls hW hS hl
  exact lv_aload_n C.1 C.2.1 hd rfl (hl.rd hr) (k H locs ls hW hS hl)
theorem v_aload (C : Cx X μ tab d zR o P) {i : Nat} {x : Nat} (hd : decode μ.2.1 pc = .ok (.aload i, 2)) (hr : rdL L i = some (.ref x)) (k : V X z w h (pc + 2) L (.ref x :: st)) : V X z w h pc L st := by
  rcases X with ⟨p, l, e, R, s, m, args, below, meth, c, G, B, Q⟩
  intro H locs ls hW hS hl
  exact lv_aload C.1 C.2.1 hd (hl.rd hr) (k H locs ls hW hS hl)
theorem v_istore_n (C : Cx X μ tab d zR o P) {n : Fin 4} {x : Int32} (hd : decode μ.2.1 pc = .ok (.istore_n n, 1)) (hn : Nat.blt (n : Nat) L.length = true) (k : V X z w h (pc + 1) (sto1 L (n : Nat) (.int x)) st) : V X z w h pc L (.int x :: st) := by
  rcases X with ⟨p, l, e, R, s, m, args, below, meth, c, G, B, Q⟩
  intro H locs ls hW hS hl
  exact lv_istore_n C.1 C.2.1 hd rfl hl.has (Nat.le_of_ble_eq_true hn) rfl (fun ls' h' => k H locs ls' hW hS (Lc.sto1 (v := .int x) h'))
theorem v_istore (C : Cx X μ tab d zR o P) {i : Nat} {x : Int32} (hd : decode μ.2.1 pc = .ok (.istore i, 2)) (hn : Nat.blt i L.length = true) (k : V X z w h (pc + 2) (sto1 L i (.int x)) st) : V X z w h pc L (.int x :: st) := by
  rcases X with ⟨p, l, e, R, s, m, args, below, meth, c, G, B, Q⟩
  intro H locs ls hW hS hl
  exact lv_istore C.1 C.2.1 hd hl.has (Nat.le_of_ble_eq_true hn) rfl (fun ls' h' => k H locs ls' hW hS (Lc.sto1 (v := .int x) h'))
theorem v_astore_n (C : Cx X μ tab d zR o P) {n : Fin 4} {x : Nat} (hd : decode μ.2.1 pc = .ok (.astore_n n, 1)) (hn : Nat.blt (n : Nat) L.length = true) (k : V X z w h (pc + 1) (sto1 L (n : Nat) (.ref x)) st) : V X z w h pc L (.ref x :: st) := by
  rcases X with ⟨p, l, e, R, s, m, args, below, meth, c, G, B, Q⟩
  intro H locs ls hW hS hl
  exact lv_astore_n C.1 C.2.1 hd rfl hl.has (Nat.le_of_ble_eq_true hn) rfl (fun ls' h' => k H locs ls' hW hS (Lc.sto1 (v := .ref x) h'))
theorem v_astore (C : Cx X μ tab d zR o P) {i : Nat} {x : Nat} (hd : decode μ.2.1 pc = .ok (.astore i, 2)) (hn : Nat.blt i L.length = true) (k : V X z w h (pc + 2) (sto1 L i (.ref x)) st) : V X z w h pc L (.ref x :: st) := by
  rcases X with ⟨p, l, e, R, s, m, args, below, meth, c, G, B, Q⟩
  intro H locs ls hW hS hl
  exact lv_astore C.1 C.2.1 hd hl.has (Nat.le_of_ble_eq_true hn) rfl (fun ls' h' => k H locs ls' hW hS (Lc.sto1 (v := .ref x) h'))
theorem v_lstore_n (C : Cx X μ tab d zR o P) {n : Fin 4} {x : Int64} (hd : decode μ.2.1 pc = .ok (.lstore_n n, 1)) (hn : Nat.blt ((n : Nat) + 1) L.length = true) (k : V X z w h (pc + 1) (sto2 L (n : Nat) (.long x)) st) : V X z w h pc L (.long x :: st) := by
  rcases X with ⟨p, l, e, R, s, m, args, below, meth, c, G, B, Q⟩
  intro H locs ls hW hS hl
  exact lv_lstore_n C.1 C.2.1 hd rfl hl.has (Nat.le_of_ble_eq_true hn) rfl (fun ls' h' => k H locs ls' hW hS (Lc.sto2 (v := .long x) h'))
theorem v_lstore (C : Cx X μ tab d zR o P) {i : Nat} {x : Int64} (hd : decode μ.2.1 pc = .ok (.lstore i, 2)) (hn : Nat.blt (i + 1) L.length = true) (k : V X z w h (pc + 2) (sto2 L i (.long x)) st) : V X z w h pc L (.long x :: st) := by
  rcases X with ⟨p, l, e, R, s, m, args, below, meth, c, G, B, Q⟩
  intro H locs ls hW hS hl
  exact lv_lstore C.1 C.2.1 hd hl.has (Nat.le_of_ble_eq_true hn) rfl (fun ls' h' => k H locs ls' hW hS (Lc.sto2 (v := .long x) h'))
theorem v_iinc (C : Cx X μ tab d zR o P) {i : Nat} {n : Int} {x v : Int32} (hd : decode μ.2.1 pc = .ok (.iinc i n, 3)) (hr : rdL L i = some (.int x)) (hv : x + Int32.ofInt n = v) (k : V X z w h (pc + 3) (sto1 L i (.int v)) st) : V X z w h pc L st := by
  rcases X with ⟨p, l, e, R, s, m, args, below, meth, c, G, B, Q⟩
  intro H locs ls hW hS hl
  have hi := rdL_get L i _ hr
  have hn : i < L.length := (List.getElem?_eq_some_iff.mp hi).1
  obtain ⟨kk, hk⟩ := List.getElem?_of_mem (lvs_mem (ad := w.1) hi)
  exact lv_iinc C.1 C.2.1 hd hl.has hk hv hn rfl (fun ls' h' => k H locs ls' hW hS (Lc.sto1 (v := .int v) h'))
theorem v_iadd (C : Cx X μ tab d zR o P) {x y : Int32} (hd : decode μ.2.1 pc = .ok (.iadd, 1)) (k : V X z w h (pc + 1) L (.int (x + y) :: st)) : V X z w h pc L (.int y :: .int x :: st) := by
  rcases X with ⟨p, l, e, R, s, m, args, below, meth, c, G, B, Q⟩
  intro H locs ls hW hS hl
  exact lv_iadd C.1 C.2.1 hd (k H locs ls hW hS hl)
theorem v_ladd (C : Cx X μ tab d zR o P) {x y : Int64} (hd : decode μ.2.1 pc = .ok (.ladd, 1)) (k : V X z w h (pc + 1) L (.long (x + y) :: st)) : V X z w h pc L (.long y :: .long x :: st) := by
  rcases X with ⟨p, l, e, R, s, m, args, below, meth, c, G, B, Q⟩
  intro H locs ls hW hS hl
  exact lv_ladd C.1 C.2.1 hd (k H locs ls hW hS hl)
theorem v_isub (C : Cx X μ tab d zR o P) {x y : Int32} (hd : decode μ.2.1 pc = .ok (.isub, 1)) (k : V X z w h (pc + 1) L (.int (x - y) :: st)) : V X z w h pc L (.int y :: .int x :: st) := by
  rcases X with ⟨p, l, e, R, s, m, args, below, meth, c, G, B, Q⟩
  intro H locs ls hW hS hl
  exact lv_isub C.1 C.2.1 hd (k H locs ls hW hS hl)
theorem v_lsub (C : Cx X μ tab d zR o P) {x y : Int64} (hd : decode μ.2.1 pc = .ok (.lsub, 1)) (k : V X z w h (pc + 1) L (.long (x - y) :: st)) : V X z w h pc L (.long y :: .long x :: st) := by
  rcases X with ⟨p, l, e, R, s, m, args, below, meth, c, G, B, Q⟩
  intro H locs ls hW hS hl
  exact lv_lsub C.1 C.2.1 hd (k H locs ls hW hS hl)
theorem v_imul (C : Cx X μ tab d zR o P) {x y : Int32} (hd : decode μ.2.1 pc = .ok (.imul, 1)) (k : V X z w h (pc + 1) L (.int (x * y) :: st)) : V X z w h pc L (.int y :: .int x :: st) := by
  rcases X with ⟨p, l, e, R, s, m, args, below, meth, c, G, B, Q⟩
  intro H locs ls hW hS hl
  exact lv_imul C.1 C.2.1 hd (k H locs ls hW hS hl)
theorem v_lmul (C : Cx X μ tab d zR o P) {x y : Int64} (hd : decode μ.2.1 pc = .ok (.lmul, 1)) (k : V X z w h (pc + 1) L (.long (x * y) :: st)) : V X z w h pc L (.long y :: .long x :: st) := by
  rcases X with ⟨p, l, e, R, s, m, args, below, meth, c, G, B, Q⟩
  intro H locs ls hW hS hl
  exact lv_lmul C.1 C.2.1 hd (k H locs ls hW hS hl)
theorem v_iand (C : Cx X μ tab d zR o P) {x y : Int32} (hd : decode μ.2.1 pc = .ok (.iand, 1)) (k : V X z w h (pc + 1) L (.int (x &&& y) :: st)) : V X z w h pc L (.int y :: .int x :: st) := by
  rcases X with ⟨p, l, e, R, s, m, args, below, meth, c, G, B, Q⟩
  intro H locs ls hW hS hl
  exact lv_iand C.1 C.2.1 hd (k H locs ls hW hS hl)
theorem v_land (C : Cx X μ tab d zR o P) {x y : Int64} (hd : decode μ.2.1 pc = .ok (.land, 1)) (k : V X z w h (pc + 1) L (.long (x &&& y) :: st)) : V X z w h pc L (.long y :: .long x :: st) := by
  rcases X with ⟨p, l, e, R, s, m, args, below, meth, c, G, B, Q⟩
  intro H locs ls hW hS hl
  exact lv_land C.1 C.2.1 hd (k H locs ls hW hS hl)
theorem v_ior (C : Cx X μ tab d zR o P) {x y : Int32} (hd : decode μ.2.1 pc = .ok (.ior, 1)) (k : V X z w h (pc + 1) L (.int (x ||| y) :: st)) : V X z w h pc L (.int y :: .int x :: st) := by
  rcases X with ⟨p, l, e, R, s, m, args, below, meth, c, G, B, Q⟩
  intro H locs ls hW hS hl
  exact lv_ior C.1 C.2.1 hd (k H locs ls hW hS hl)
theorem v_lor (C : Cx X μ tab d zR o P) {x y : Int64} (hd : decode μ.2.1 pc = .ok (.lor, 1)) (k : V X z w h (pc + 1) L (.long (x ||| y) :: st)) : V X z w h pc L (.long y :: .long x :: st) := by
  rcases X with ⟨p, l, e, R, s, m, args, below, meth, c, G, B, Q⟩
  intro H locs ls hW hS hl
  exact lv_lor C.1 C.2.1 hd (k H locs ls hW hS hl)
theorem v_ixor (C : Cx X μ tab d zR o P) {x y : Int32} (hd : decode μ.2.1 pc = .ok (.ixor, 1)) (k : V X z w h (pc + 1) L (.int (x ^^^ y) :: st)) : V X z w h pc L (.int y :: .int x :: st) := by
  rcases X with ⟨p, l, e, R, s, m, args, below, meth, c, G, B, Q⟩
  intro H locs ls hW hS hl
  exact lv_ixor C.1 C.2.1 hd (k H locs ls hW hS hl)
theorem v_lxor (C : Cx X μ tab d zR o P) {x y : Int64} (hd : decode μ.2.1 pc = .ok (.lxor, 1)) (k : V X z w h (pc + 1) L (.long (x ^^^ y) :: st)) : V X z w h pc L (.long y :: .long x :: st) := by
  rcases X with ⟨p, l, e, R, s, m, args, below, meth, c, G, B, Q⟩
  intro H locs ls hW hS hl
  exact lv_lxor C.1 C.2.1 hd (k H locs ls hW hS hl)
theorem v_idiv (C : Cx X μ tab d zR o P) {x y : Int32} (hd : decode μ.2.1 pc = .ok (.idiv, 1)) (hne : ¬ y = 0) (k : V X z w h (pc + 1) L (.int (x / y) :: st)) : V X z w h pc L (.int y :: .int x :: st) := by
  rcases X with ⟨p, l, e, R, s, m, args, below, meth, c, G, B, Q⟩
  intro H locs ls hW hS hl
  exact lv_idiv C.1 C.2.1 hd hne (k H locs ls hW hS hl)
theorem v_irem (C : Cx X μ tab d zR o P) {x y : Int32} (hd : decode μ.2.1 pc = .ok (.irem, 1)) (hne : ¬ y = 0) (k : V X z w h (pc + 1) L (.int (x - x / y * y) :: st)) : V X z w h pc L (.int y :: .int x :: st) := by
  rcases X with ⟨p, l, e, R, s, m, args, below, meth, c, G, B, Q⟩
  intro H locs ls hW hS hl
  exact lv_irem C.1 C.2.1 hd hne (k H locs ls hW hS hl)
theorem v_ldiv (C : Cx X μ tab d zR o P) {x y : Int64} (hd : decode μ.2.1 pc = .ok (.ldiv, 1)) (hne : ¬ y = 0) (k : V X z w h (pc + 1) L (.long (x / y) :: st)) : V X z w h pc L (.long y :: .long x :: st) := by
  rcases X with ⟨p, l, e, R, s, m, args, below, meth, c, G, B, Q⟩
  intro H locs ls hW hS hl
  exact lv_ldiv C.1 C.2.1 hd hne (k H locs ls hW hS hl)
theorem v_lrem (C : Cx X μ tab d zR o P) {x y : Int64} (hd : decode μ.2.1 pc = .ok (.lrem, 1)) (hne : ¬ y = 0) (k : V X z w h (pc + 1) L (.long (x - x / y * y) :: st)) : V X z w h pc L (.long y :: .long x :: st) := by
  rcases X with ⟨p, l, e, R, s, m, args, below, meth, c, G, B, Q⟩
  intro H locs ls hW hS hl
  exact lv_lrem C.1 C.2.1 hd hne (k H locs ls hW hS hl)
theorem v_ishl (C : Cx X μ tab d zR o P) {x y : Int32} (hd : decode μ.2.1 pc = .ok (.ishl, 1)) (k : V X z w h (pc + 1) L (.int (x <<< (y &&& 31)) :: st)) : V X z w h pc L (.int y :: .int x :: st) := by
  rcases X with ⟨p, l, e, R, s, m, args, below, meth, c, G, B, Q⟩
  intro H locs ls hW hS hl
  exact lv_ishl C.1 C.2.1 hd (k H locs ls hW hS hl)
theorem v_ishr (C : Cx X μ tab d zR o P) {x y : Int32} (hd : decode μ.2.1 pc = .ok (.ishr, 1)) (k : V X z w h (pc + 1) L (.int (x >>> (y &&& 31)) :: st)) : V X z w h pc L (.int y :: .int x :: st) := by
  rcases X with ⟨p, l, e, R, s, m, args, below, meth, c, G, B, Q⟩
  intro H locs ls hW hS hl
  exact lv_ishr C.1 C.2.1 hd (k H locs ls hW hS hl)
theorem v_iushr (C : Cx X μ tab d zR o P) {x y : Int32} (hd : decode μ.2.1 pc = .ok (.iushr, 1)) (k : V X z w h (pc + 1) L (.int ((x.toUInt32 >>> (y.toUInt32 &&& Int32.toUInt32 31)).toInt32) :: st)) : V X z w h pc L (.int y :: .int x :: st) := by
  rcases X with ⟨p, l, e, R, s, m, args, below, meth, c, G, B, Q⟩
  intro H locs ls hW hS hl
  exact lv_iushr C.1 C.2.1 hd rfl (k H locs ls hW hS hl)
theorem v_lushr (C : Cx X μ tab d zR o P) {x : Int64} {y : Int32} (hd : decode μ.2.1 pc = .ok (.lushr, 1)) (k : V X z w h (pc + 1) L (.long ((x.toUInt64 >>> (y.toInt64.toUInt64 &&& Int64.toUInt64 63)).toInt64) :: st)) : V X z w h pc L (.int y :: .long x :: st) := by
  rcases X with ⟨p, l, e, R, s, m, args, below, meth, c, G, B, Q⟩
  intro H locs ls hW hS hl
  exact lv_lushr C.1 C.2.1 hd rfl (k H locs ls hW hS hl)
theorem v_lshl (C : Cx X μ tab d zR o P) {x : Int64} {y : Int32} (hd : decode μ.2.1 pc = .ok (.lshl, 1)) (k : V X z w h (pc + 1) L (.long (x <<< (y.toInt64 &&& 63)) :: st)) : V X z w h pc L (.int y :: .long x :: st) := by
  rcases X with ⟨p, l, e, R, s, m, args, below, meth, c, G, B, Q⟩
  intro H locs ls hW hS hl
  exact lv_lshl C.1 C.2.1 hd rfl (k H locs ls hW hS hl)
theorem v_i2l (C : Cx X μ tab d zR o P) {x : Int32} (hd : decode μ.2.1 pc = .ok (.i2l, 1)) (k : V X z w h (pc + 1) L (.long x.toInt64 :: st)) : V X z w h pc L (.int x :: st) := by
  rcases X with ⟨p, l, e, R, s, m, args, below, meth, c, G, B, Q⟩
  intro H locs ls hW hS hl
  exact lv_i2l C.1 C.2.1 hd rfl (k H locs ls hW hS hl)
theorem v_l2i (C : Cx X μ tab d zR o P) {x : Int64} (hd : decode μ.2.1 pc = .ok (.l2i, 1)) (k : V X z w h (pc + 1) L (.int x.toInt32 :: st)) : V X z w h pc L (.long x :: st) := by
  rcases X with ⟨p, l, e, R, s, m, args, below, meth, c, G, B, Q⟩
  intro H locs ls hW hS hl
  exact lv_l2i C.1 C.2.1 hd rfl (k H locs ls hW hS hl)
theorem v_lcmp (C : Cx X μ tab d zR o P) {x y : Int64} (hd : decode μ.2.1 pc = .ok (.lcmp, 1)) (k : V X z w h (pc + 1) L (.int (lg_cmp x y) :: st)) : V X z w h pc L (.long y :: .long x :: st) := by
  rcases X with ⟨p, l, e, R, s, m, args, below, meth, c, G, B, Q⟩
  intro H locs ls hW hS hl
  exact W.lcmp C.1 C.2.1 hd (k H locs ls hW hS hl)
theorem v_dup (C : Cx X μ tab d zR o P) {v : Value} (hd : decode μ.2.1 pc = .ok (.dup, 1)) (hv : v.category = 1) (k : V X z w h (pc + 1) L (v :: v :: st)) : V X z w h pc L (v :: st) := by
  rcases X with ⟨p, l, e, R, s, m, args, below, meth, c, G, B, Q⟩
  intro H locs ls hW hS hl
  exact lv_dup C.1 C.2.1 hd ((cv_cat _ _).trans hv) (k H locs ls hW hS hl)
theorem v_dup2 (C : Cx X μ tab d zR o P) {u v : Value} (hd : decode μ.2.1 pc = .ok (.dup2, 1)) (hu : u.category = 1) (hv : v.category = 1) (k : V X z w h (pc + 1) L (u :: v :: u :: v :: st)) : V X z w h pc L (u :: v :: st) := by
  rcases X with ⟨p, l, e, R, s, m, args, below, meth, c, G, B, Q⟩
  intro H locs ls hW hS hl
  exact lv_dup2_11 C.1 C.2.1 hd ((cv_cat _ _).trans hu) ((cv_cat _ _).trans hv) (k H locs ls hW hS hl)
theorem v_pop (C : Cx X μ tab d zR o P) {v : Value} (hd : decode μ.2.1 pc = .ok (.pop, 1)) (hv : v.category = 1) (k : V X z w h (pc + 1) L st) : V X z w h pc L (v :: st) := by
  rcases X with ⟨p, l, e, R, s, m, args, below, meth, c, G, B, Q⟩
  intro H locs ls hW hS hl
  exact lv_pop C.1 C.2.1 hd ((cv_cat _ _).trans hv) (k H locs ls hW hS hl)
theorem v_goto (C : Cx X μ tab d zR o P) {off : Int} {tgt : Nat} (hd : decode μ.2.1 pc = .ok (.goto off, 3)) (ht : (pc : Int) + off = (tgt : Int)) (k : V X z w h tgt L st) : V X z w h pc L st := by
  rcases X with ⟨p, l, e, R, s, m, args, below, meth, c, G, B, Q⟩
  intro H locs ls hW hS hl
  exact lv_goto C.1 C.2.1 hd ht (k H locs ls hW hS hl)
theorem v_ldc2 (C : Cx X μ tab d zR o P) {ix : Nat} {v : Int64} (hc : Cond.constantLong μ.1.cls ix v ∈ TSg) (hd : decode μ.2.1 pc = .ok (.ldc2_w ix, 3)) (k : V X z w h (pc + 3) L (.long v :: st)) : V X z w h pc L st := by
  rcases X with ⟨p, l, e, R, s, m, args, below, meth, c, G, B, Q⟩
  intro H locs ls hW hS hl
  exact lv_ldc2 C.1 C.2.1 C.2.2.2.1 (C.2.2.2.2.1 _ hc) hd (k H locs ls hW hS hl)
theorem v_if_eq (C : Cx X μ tab d zR o P) {x : Int32} {off : Int} {tgt : Nat} (hd : decode μ.2.1 pc = .ok (.ifCond .eq off, 3)) (ht : (pc : Int) + off = (tgt : Int)) (kt : x = 0 → V X z w h tgt L st) (kf : ¬ (x = 0) → V X z w h (pc + 3) L st) : V X z w h pc L (.int x :: st) := by
  rcases X with ⟨p, l, e, R, s, m, args, below, meth, c, G, B, Q⟩
  intro H locs ls hW hS hl
  exact lv_if_eq C.1 C.2.1 hd ht (fun q => kt q H locs ls hW hS hl) (fun q => kf q H locs ls hW hS hl)
theorem v_icmp_eq (C : Cx X μ tab d zR o P) {x y : Int32} {off : Int} {tgt : Nat} (hd : decode μ.2.1 pc = .ok (.if_icmp .eq off, 3)) (ht : (pc : Int) + off = (tgt : Int)) (kt : x = y → V X z w h tgt L st) (kf : ¬ (x = y) → V X z w h (pc + 3) L st) : V X z w h pc L (.int y :: .int x :: st) := by
  rcases X with ⟨p, l, e, R, s, m, args, below, meth, c, G, B, Q⟩
  intro H locs ls hW hS hl
  exact lv_icmp_eq C.1 C.2.1 hd ht (fun q => kt q H locs ls hW hS hl) (fun q => kf q H locs ls hW hS hl)
theorem v_if_ne (C : Cx X μ tab d zR o P) {x : Int32} {off : Int} {tgt : Nat} (hd : decode μ.2.1 pc = .ok (.ifCond .ne off, 3)) (ht : (pc : Int) + off = (tgt : Int)) (kt : ¬ x = 0 → V X z w h tgt L st) (kf : x = 0 → V X z w h (pc + 3) L st) : V X z w h pc L (.int x :: st) := by
  rcases X with ⟨p, l, e, R, s, m, args, below, meth, c, G, B, Q⟩
  intro H locs ls hW hS hl
  exact lv_if_ne C.1 C.2.1 hd ht (fun q => kt q H locs ls hW hS hl) (fun q => kf q H locs ls hW hS hl)
theorem v_icmp_ne (C : Cx X μ tab d zR o P) {x y : Int32} {off : Int} {tgt : Nat} (hd : decode μ.2.1 pc = .ok (.if_icmp .ne off, 3)) (ht : (pc : Int) + off = (tgt : Int)) (kt : ¬ x = y → V X z w h tgt L st) (kf : x = y → V X z w h (pc + 3) L st) : V X z w h pc L (.int y :: .int x :: st) := by
  rcases X with ⟨p, l, e, R, s, m, args, below, meth, c, G, B, Q⟩
  intro H locs ls hW hS hl
  exact lv_icmp_ne C.1 C.2.1 hd ht (fun q => kt q H locs ls hW hS hl) (fun q => kf q H locs ls hW hS hl)
theorem v_if_lt (C : Cx X μ tab d zR o P) {x : Int32} {off : Int} {tgt : Nat} (hd : decode μ.2.1 pc = .ok (.ifCond .lt off, 3)) (ht : (pc : Int) + off = (tgt : Int)) (kt : x < 0 → V X z w h tgt L st) (kf : ¬ (x < 0) → V X z w h (pc + 3) L st) : V X z w h pc L (.int x :: st) := by
  rcases X with ⟨p, l, e, R, s, m, args, below, meth, c, G, B, Q⟩
  intro H locs ls hW hS hl
  exact lv_if_lt C.1 C.2.1 hd ht (fun q => kt q H locs ls hW hS hl) (fun q => kf q H locs ls hW hS hl)
theorem v_icmp_lt (C : Cx X μ tab d zR o P) {x y : Int32} {off : Int} {tgt : Nat} (hd : decode μ.2.1 pc = .ok (.if_icmp .lt off, 3)) (ht : (pc : Int) + off = (tgt : Int)) (kt : x < y → V X z w h tgt L st) (kf : ¬ (x < y) → V X z w h (pc + 3) L st) : V X z w h pc L (.int y :: .int x :: st) := by
  rcases X with ⟨p, l, e, R, s, m, args, below, meth, c, G, B, Q⟩
  intro H locs ls hW hS hl
  exact lv_icmp_lt C.1 C.2.1 hd ht (fun q => kt q H locs ls hW hS hl) (fun q => kf q H locs ls hW hS hl)
theorem v_if_ge (C : Cx X μ tab d zR o P) {x : Int32} {off : Int} {tgt : Nat} (hd : decode μ.2.1 pc = .ok (.ifCond .ge off, 3)) (ht : (pc : Int) + off = (tgt : Int)) (kt : 0 ≤ x → V X z w h tgt L st) (kf : ¬ (0 ≤ x) → V X z w h (pc + 3) L st) : V X z w h pc L (.int x :: st) := by
  rcases X with ⟨p, l, e, R, s, m, args, below, meth, c, G, B, Q⟩
  intro H locs ls hW hS hl
  exact lv_if_ge C.1 C.2.1 hd ht (fun q => kt q H locs ls hW hS hl) (fun q => kf q H locs ls hW hS hl)
theorem v_icmp_ge (C : Cx X μ tab d zR o P) {x y : Int32} {off : Int} {tgt : Nat} (hd : decode μ.2.1 pc = .ok (.if_icmp .ge off, 3)) (ht : (pc : Int) + off = (tgt : Int)) (kt : y ≤ x → V X z w h tgt L st) (kf : ¬ (y ≤ x) → V X z w h (pc + 3) L st) : V X z w h pc L (.int y :: .int x :: st) := by
  rcases X with ⟨p, l, e, R, s, m, args, below, meth, c, G, B, Q⟩
  intro H locs ls hW hS hl
  exact lv_icmp_ge C.1 C.2.1 hd ht (fun q => kt q H locs ls hW hS hl) (fun q => kf q H locs ls hW hS hl)
theorem v_if_gt (C : Cx X μ tab d zR o P) {x : Int32} {off : Int} {tgt : Nat} (hd : decode μ.2.1 pc = .ok (.ifCond .gt off, 3)) (ht : (pc : Int) + off = (tgt : Int)) (kt : 0 < x → V X z w h tgt L st) (kf : ¬ (0 < x) → V X z w h (pc + 3) L st) : V X z w h pc L (.int x :: st) := by
  rcases X with ⟨p, l, e, R, s, m, args, below, meth, c, G, B, Q⟩
  intro H locs ls hW hS hl
  exact lv_if_gt C.1 C.2.1 hd ht (fun q => kt q H locs ls hW hS hl) (fun q => kf q H locs ls hW hS hl)
theorem v_icmp_gt (C : Cx X μ tab d zR o P) {x y : Int32} {off : Int} {tgt : Nat} (hd : decode μ.2.1 pc = .ok (.if_icmp .gt off, 3)) (ht : (pc : Int) + off = (tgt : Int)) (kt : y < x → V X z w h tgt L st) (kf : ¬ (y < x) → V X z w h (pc + 3) L st) : V X z w h pc L (.int y :: .int x :: st) := by
  rcases X with ⟨p, l, e, R, s, m, args, below, meth, c, G, B, Q⟩
  intro H locs ls hW hS hl
  exact lv_icmp_gt C.1 C.2.1 hd ht (fun q => kt q H locs ls hW hS hl) (fun q => kf q H locs ls hW hS hl)
theorem v_if_le (C : Cx X μ tab d zR o P) {x : Int32} {off : Int} {tgt : Nat} (hd : decode μ.2.1 pc = .ok (.ifCond .le off, 3)) (ht : (pc : Int) + off = (tgt : Int)) (kt : x ≤ 0 → V X z w h tgt L st) (kf : ¬ (x ≤ 0) → V X z w h (pc + 3) L st) : V X z w h pc L (.int x :: st) := by
  rcases X with ⟨p, l, e, R, s, m, args, below, meth, c, G, B, Q⟩
  intro H locs ls hW hS hl
  exact lv_if_le C.1 C.2.1 hd ht (fun q => kt q H locs ls hW hS hl) (fun q => kf q H locs ls hW hS hl)
theorem v_icmp_le (C : Cx X μ tab d zR o P) {x y : Int32} {off : Int} {tgt : Nat} (hd : decode μ.2.1 pc = .ok (.if_icmp .le off, 3)) (ht : (pc : Int) + off = (tgt : Int)) (kt : x ≤ y → V X z w h tgt L st) (kf : ¬ (x ≤ y) → V X z w h (pc + 3) L st) : V X z w h pc L (.int y :: .int x :: st) := by
  rcases X with ⟨p, l, e, R, s, m, args, below, meth, c, G, B, Q⟩
  intro H locs ls hW hS hl
  exact lv_icmp_le C.1 C.2.1 hd ht (fun q => kt q H locs ls hW hS hl) (fun q => kf q H locs ls hW hS hl)
theorem v_tableOut (C : Cx X μ tab d zR o P) {dflt lo hi : Int} {offs : Array Int} {len : Nat} {x : Int32} {tgt : Nat} (hd : decode μ.2.1 pc = .ok (.tableswitch dflt lo hi offs, len)) (hx : x.toInt < lo ∨ hi < x.toInt) (ht : (pc : Int) + dflt = (tgt : Int)) (k : V X z w h tgt L st) : V X z w h pc L (.int x :: st) := by
  rcases X with ⟨p, l, e, R, s, m, args, below, meth, c, G, B, Q⟩
  intro H locs ls hW hS hl
  exact lv_tableOut C.1 C.2.1 hd hx ht (k H locs ls hW hS hl)
theorem v_tableIn (C : Cx X μ tab d zR o P) {dflt lo hi : Int} {offs : Array Int} {len : Nat} {x : Int32} {off : Int} {tgt : Nat} (hd : decode μ.2.1 pc = .ok (.tableswitch dflt lo hi offs, len)) (h1 : ¬ x.toInt < lo) (h2 : ¬ hi < x.toInt) (ho : offs[(x.toInt - lo).toNat]? = some off) (ht : (pc : Int) + off = (tgt : Int)) (k : V X z w h tgt L st) : V X z w h pc L (.int x :: st) := by
  rcases X with ⟨p, l, e, R, s, m, args, below, meth, c, G, B, Q⟩
  intro H locs ls hW hS hl
  exact lv_tableIn C.1 C.2.1 hd h1 h2 ho ht (k H locs ls hW hS hl)
theorem v_lookup (C : Cx X μ tab d zR o P) {dflt : Int} {ps : Array (Int × Int)} {len : Nat} {x : Int32} {off : Int} {tgt : Nat} (hd : decode μ.2.1 pc = .ok (.lookupswitch dflt ps, len)) (hp : (ps.toList.zip (ps.toList.drop 1)).all (fun (a, next) => a.1 < next.1) = true) (ho : Op.lookupswitch.offset ps.toList dflt x.toInt = off) (ht : (pc : Int) + off = (tgt : Int)) (k : V X z w h tgt L st) : V X z w h pc L (.int x :: st) := by
  rcases X with ⟨p, l, e, R, s, m, args, below, meth, c, G, B, Q⟩
  intro H locs ls hW hS hl
  exact lv_lookup C.1 C.2.1 hd hp ho ht (k H locs ls hW hS hl)
end VR
end
section
/-! ===== the rules of V: fields and arrays ===== -/
def tyC : Nat → Nat → FieldType
  | 0 => tyX0
  | 1 => tyX1
  | 2 => tyX2
  | 3 => tyX3
  | 4 => tyX4
  | 5 => tyX5
  | 6 => tyX6
  | 7 => tyX7
  | 8 => tyX8
  | _ => tyX9
theorem inX0 : ∀ w ∈ u_ws RX0 TX0 10, w ∈ TSg := by decide +kernel
theorem inX1 : ∀ w ∈ u_ws RX1 TX1 4, w ∈ TSg := by decide +kernel
theorem inX2 : ∀ w ∈ u_ws RX2 TX2 4, w ∈ TSg := by decide +kernel
theorem inX3 : ∀ w ∈ u_ws RX3 TX3 1, w ∈ TSg := by decide +kernel
theorem inX4 : ∀ w ∈ u_ws RX4 TX4 5, w ∈ TSg := by decide +kernel
theorem inX5 : ∀ w ∈ u_ws RX5 TX5 2, w ∈ TSg := by decide +kernel
theorem inX6 : ∀ w ∈ u_ws RX6 TX6 9, w ∈ TSg := by decide +kernel
theorem inX7 : ∀ w ∈ u_ws RX7 TX7 9, w ∈ TSg := by decide +kernel
theorem inX8 : ∀ w ∈ u_ws RX8 TX8 13, w ∈ TSg := by decide +kernel
theorem inX9 : ∀ w ∈ u_ws RX9 TX9 42, w ∈ TSg := by decide +kernel
theorem inC : ∀ (ci : Nat) (C : String) (T : u_T) (N : Nat), cls10[ci]? = some (C, T, N) → (∀ w ∈ u_ws C T N, w ∈ TSg) ∧ (∀ k, k < N → parseFieldDescriptor (T k).2.2.1 = some (tyC ci k)) ∧ (∀ a, a < N → ∀ b, b < N → a ≠ b → (T a).2.1 ≠ (T b).2.1)
  | 0, _, _, _, h => by cases h; exact ⟨inX0, tyX0_ok, nmX0⟩
  | 1, _, _, _, h => by cases h; exact ⟨inX1, tyX1_ok, nmX1⟩
  | 2, _, _, _, h => by cases h; exact ⟨inX2, tyX2_ok, nmX2⟩
  | 3, _, _, _, h => by cases h; exact ⟨inX3, tyX3_ok, nmX3⟩
  | 4, _, _, _, h => by cases h; exact ⟨inX4, tyX4_ok, nmX4⟩
  | 5, _, _, _, h => by cases h; exact ⟨inX5, tyX5_ok, nmX5⟩
  | 6, _, _, _, h => by cases h; exact ⟨inX6, tyX6_ok, nmX6⟩
  | 7, _, _, _, h => by cases h; exact ⟨inX7, tyX7_ok, nmX7⟩
  | 8, _, _, _, h => by cases h; exact ⟨inX8, tyX8_ok, nmX8⟩
  | 9, _, _, _, h => by cases h; exact ⟨inX9, tyX9_ok, nmX9⟩
  | n + 10, _, _, _, h => by simp at h
/-- the constant ix of the class own names the field k of the class ci -/
def FLk (own : String) (ix ci k : Nat) : Prop := ∃ C T N, cls10[ci]? = some (C, T, N) ∧ k < N ∧ Cond.fieldLink own ix (T k).1 (T k).2.1 (T k).2.2.1 ∈ TSg
/-- .. and it is an int's, not final -/
def FPt (ci k : Nat) (ty : FieldType) (fin : Bool) : Prop := ∃ C T N, cls10[ci]? = some (C, T, N) ∧ parseFieldDescriptor (T k).2.2.1 = some ty ∧ (T k).2.2.2 = fin
theorem ob_nj {ci : Nat} {fs : List Value} {C : vw_C} (hc : cls10[ci]? = some C) : (ob ci fs) ≠ junk := by
  intro e
  have e2 : (Sum.inr (ci, fs) : PE) = Sum.inr (1000, []) := e
  cases e2
  simp at hc
theorem ar_nj {x : Nat × vp_A} : (Sum.inl x : PE) ≠ junk := fun e => by
  have e2 : (Sum.inl x : PE) = Sum.inr (1000, []) := e
  cases e2
section VH
variable {X : CT} {μ : Mi} {tab : List ExceptionTableEntry} {d : Nat} {zR : Nat × Nat} {o : Oc} {P : Wt → Hp → Prop} {z : Nat × Nat} {w : Wt} {h : Hp} {pc : Nat} {L : List (Option Value)} {st : List Value}
theorem v_getf (C : Cx X μ tab d zR o P) {ix ci kf q : Nat} {fs : List Value} {v : Value} (hd : decode μ.2.1 pc = .ok (.getfield ix, 3)) (hF : FLk μ.1.cls ix ci kf) (hh : h q = .inr (ci, fs)) (hv : fs[kf]? = some v) (k : V X z w h (pc + 3) L (v :: st)) : V X z w h pc L (.ref q :: st) := by
  rcases X with ⟨p, l, e, R, s, m, args, below, meth, c, G, B, Q⟩
  intro H locs ls hW hS hl
  obtain ⟨C1, T, N, hc, hk, hm⟩ := hF
  have hq : q < w.2 := hW.lt (by rw [hh]; exact ob_nj hc)
  have he : (wl G w h)[q]? = some (w.1 q, .inr (ci, fs.map (cv w.1))) := by rw [wl_get G w h hq, hh]; rfl
  exact va_get (ref := (T kf).1) C.1 C.2.1 C.2.2.2.2.1 (inC ci C1 T N hc).1 C.2.2.2.1 C.2.2.2.2.2.2.2.1 hW.1 q he hc kf hk (C.2.2.2.2.1 _ hm) (fun x hx => hx) (by rw [List.getElem?_map, hv]; rfl) hd (k H locs ls hW hS hl)
theorem v_putf (C : Cx X μ tab d zR o P) {ix ci kf q : Nat} {fs : List Value} {v : Value} {ty : FieldType} (hd : decode μ.2.1 pc = .ok (.putfield ix, 3)) (hF : FLk μ.1.cls ix ci kf) (hT : FPt ci kf ty false) (hh : h q = .inr (ci, fs)) (hn : ∀ ad, narrow ty (cv ad v) = cv ad v) (hf : ∀ ad, fits ty (cv ad v) = true) (hok : ∀ N, okv N v) (hl : kf < fs.length) (k : V X z w (hu h q (.inr (ci, fs.set kf v))) (pc + 3) L st) : V X z w h pc L (v :: .ref q :: st) := by
  rcases X with ⟨p, l, e, R, s, m, args, below, meth, c, G, B, Q⟩
  intro H locs ls hW hS hL
  obtain ⟨C1, T, N, hc, hk, hm⟩ := hF
  obtain ⟨C2, T2, N2, hc2, hp, hfin⟩ := hT
  cases hc.symm.trans hc2
  have hq : q < w.2 := hW.lt (by rw [hh]; exact ob_nj hc)
  have he : (wl G w h)[q]? = some (w.1 q, .inr (ci, fs.map (cv w.1))) := by rw [wl_get G w h hq, hh]; rfl
  refine va_put (ref := (T kf).1) C.1 C.2.1 C.2.2.2.2.1 (inC ci C1 T N hc).1 (tyC ci) (inC ci C1 T N hc).2.1 (inC ci C1 T N hc).2.2 C.2.2.2.1 C.2.2.2.2.2.2.2.1 hW.1 hW.2.1 hS q he hc kf hk (C.2.2.2.2.1 _ hm) (fun x hx => hx) hfin hp (hn _) (hf _) (by rw [List.length_map]; exact hl) hd (fun H1 locs1 hP1 hD1 hS1 => k H1 locs1 ls (hW.set hq (c := .inr (ci, fs.set kf v)) ?_ ?_ hP1 hD1) hS1 hL)
  · show (Sum.inr (ci, (fs.set kf v).map (cv w.1)) : va_E) = _
    rw [List.map_set]
  · intro v' hv'
    have hcl := hW.2.2.2 q hq
    rw [hh] at hcl
    rcases List.mem_or_eq_of_mem_set hv' with h1 | h1
    · exact hcl v' h1
    · rw [h1]; exact hok _
theorem v_putI (C : Cx X μ tab d zR o P) {ix ci kf q : Nat} {fs : List Value} {x : Int32} (hd : decode μ.2.1 pc = .ok (.putfield ix, 3)) (hF : FLk μ.1.cls ix ci kf) (hT : FPt ci kf .int false) (hh : h q = .inr (ci, fs)) (hl : Nat.blt kf fs.length = true) (k : V X z w (hu h q (.inr (ci, fs.set kf (.int x)))) (pc + 3) L st) : V X z w h pc L (.int x :: .ref q :: st) :=
  v_putf C hd hF hT hh (fun _ => rfl) (fun _ => rfl) (fun _ => trivial) (by simpa using hl) k
def bI (b : Bool) : Int32 := if b then 1 else 0
theorem v_putZ (C : Cx X μ tab d zR o P) {ix ci kf q : Nat} {fs : List Value} {b : Bool} (hd : decode μ.2.1 pc = .ok (.putfield ix, 3)) (hF : FLk μ.1.cls ix ci kf) (hT : FPt ci kf .boolean false) (hh : h q = .inr (ci, fs)) (hl : Nat.blt kf fs.length = true) (k : V X z w (hu h q (.inr (ci, fs.set kf (.int (bI b))))) (pc + 3) L st) : V X z w h pc L (.int (bI b) :: .ref q :: st) :=
  v_putf C hd hF hT hh (fun _ => by cases b <;> rfl) (fun _ => by cases b <;> rfl) (fun _ => trivial) (by simpa using hl) k
theorem v_iald (C : Cx X μ tab d zR o P) {q n j : Nat} {f : Nat → Int32} {i v : Int32} (hd : decode μ.2.1 pc = .ok (.iaload, 1)) (hh : h q = io n f) (hn : n < 2 ^ 31) (hi : i = nI j) (hj : j < n) (hv : f j = v) (k : V X z w h (pc + 1) L (.int v :: st)) : V X z w h pc L (.int i :: .ref q :: st) := by
  rcases X with ⟨p, l, e, R, s, m, args, below, meth, c, G, B, Q⟩
  intro H locs ls hW hS hl
  have hq : q < w.2 := hW.lt (by rw [hh]; exact ar_nj)
  have he : (wl G w h)[q]? = some (w.1 q, .inl (G.2 0, n, .inl f)) := by rw [wl_get G w h hq, hh]; rfl
  subst hi
  refine va_iald C.1 C.2.1 C.2.2.2.2.2.2.2.1 hW.1 q 0 he rfl (vp_in_nI hj hn) hd ?_
  rw [nI_clamp (by omega), hv]
  exact k H locs ls hW hS hl
theorem v_iast (C : Cx X μ tab d zR o P) {q n j : Nat} {f : Nat → Int32} {i x : Int32} (hd : decode μ.2.1 pc = .ok (.iastore, 1)) (hh : h q = io n f) (hn : n < 2 ^ 31) (hi : i = nI j) (hj : j < n) (k : V X z w (hu h q (io n (upd f j x))) (pc + 1) L st) : V X z w h pc L (.int x :: .int i :: .ref q :: st) := by
  rcases X with ⟨p, l, e, R, s, m, args, below, meth, c, G, B, Q⟩
  intro H locs ls hW hS hl
  have hq : q < w.2 := hW.lt (by rw [hh]; exact ar_nj)
  have he : (wl G w h)[q]? = some (w.1 q, .inl (G.2 0, n, .inl f)) := by rw [wl_get G w h hq, hh]; rfl
  subst hi
  refine va_iast C.1 C.2.1 C.2.2.2.2.2.2.2.1 hW.1 hW.2.1 hS q 0 he rfl (vp_in_nI hj hn) hd (fun H1 locs1 hP1 hD1 hS1 => ?_)
  rw [nI_clamp (by omega)] at hP1 hD1
  exact k H1 locs1 ls (hW.set hq (c := io n (upd f j x)) rfl trivial hP1 hD1) hS1 hl
theorem v_lald (C : Cx X μ tab d zR o P) {q n j : Nat} {f : Nat → Int64} {i : Int32} {v : Int64} (hd : decode μ.2.1 pc = .ok (.laload, 1)) (hh : h q = jo n f) (hn : n < 2 ^ 31) (hi : i = nI j) (hj : j < n) (hv : f j = v) (k : V X z w h (pc + 1) L (.long v :: st)) : V X z w h pc L (.int i :: .ref q :: st) := by
  rcases X with ⟨p, l, e, R, s, m, args, below, meth, c, G, B, Q⟩
  intro H locs ls hW hS hl
  have hq : q < w.2 := hW.lt (by rw [hh]; exact ar_nj)
  have he : (wl G w h)[q]? = some (w.1 q, .inl (G.2 2, n, .inr (.inl f))) := by rw [wl_get G w h hq, hh]; rfl
  subst hi
  refine va_lald C.1 C.2.1 C.2.2.2.2.2.2.2.1 hW.1 q 2 he rfl (vp_in_nI hj hn) hd ?_
  rw [nI_clamp (by omega), hv]
  exact k H locs ls hW hS hl
theorem v_last (C : Cx X μ tab d zR o P) {q n j : Nat} {f : Nat → Int64} {i : Int32} {x : Int64} (hd : decode μ.2.1 pc = .ok (.lastore, 1)) (hh : h q = jo n f) (hn : n < 2 ^ 31) (hi : i = nI j) (hj : j < n) (k : V X z w (hu h q (jo n (vp_updL f j x))) (pc + 1) L st) : V X z w h pc L (.long x :: .int i :: .ref q :: st) := by
  rcases X with ⟨p, l, e, R, s, m, args, below, meth, c, G, B, Q⟩
  intro H locs ls hW hS hl
  have hq : q < w.2 := hW.lt (by rw [hh]; exact ar_nj)
  have he : (wl G w h)[q]? = some (w.1 q, .inl (G.2 2, n, .inr (.inl f))) := by rw [wl_get G w h hq, hh]; rfl
  subst hi
  refine va_last C.1 C.2.1 C.2.2.2.2.2.2.2.1 hW.1 hW.2.1 hS q 2 he rfl (vp_in_nI hj hn) hd (fun H1 locs1 hP1 hD1 hS1 => ?_)
  rw [nI_clamp (by omega)] at hP1 hD1
  exact k H1 locs1 ls (hW.set hq (c := jo n (vp_updL f j x)) rfl trivial hP1 hD1) hS1 hl
theorem v_zald (C : Cx X μ tab d zR o P) {q n j : Nat} {f : Nat → Int32} {i v : Int32} (hd : decode μ.2.1 pc = .ok (.baload, 1)) (hh : h q = zo n f) (hn : n < 2 ^ 31) (hi : i = nI j) (hj : j < n) (hv : f j = v) (k : V X z w h (pc + 1) L (.int v :: st)) : V X z w h pc L (.int i :: .ref q :: st) := by
  rcases X with ⟨p, l, e, R, s, m, args, below, meth, c, G, B, Q⟩
  intro H locs ls hW hS hl
  have hq : q < w.2 := hW.lt (by rw [hh]; exact ar_nj)
  have he : (wl G w h)[q]? = some (w.1 q, .inl (G.2 1, n, .inl f)) := by rw [wl_get G w h hq, hh]; rfl
  subst hi
  refine va_zald C.1 C.2.1 C.2.2.2.2.2.2.2.1 hW.1 q 1 he rfl (vp_in_nI hj hn) hd ?_
  rw [nI_clamp (by omega), hv]
  exact k H locs ls hW hS hl
theorem nar_bI (b : Bool) : vp_nar .boolean (bI b) = bI b := by cases b <;> rfl
theorem v_zast (C : Cx X μ tab d zR o P) {q n j : Nat} {f : Nat → Int32} {i : Int32} {b : Bool} (hd : decode μ.2.1 pc = .ok (.bastore, 1)) (hh : h q = zo n f) (hn : n < 2 ^ 31) (hi : i = nI j) (hj : j < n) (k : V X z w (hu h q (zo n (upd f j (bI b)))) (pc + 1) L st) : V X z w h pc L (.int (bI b) :: .int i :: .ref q :: st) := by
  rcases X with ⟨p, l, e, R, s, m, args, below, meth, c, G, B, Q⟩
  intro H locs ls hW hS hl
  have hq : q < w.2 := hW.lt (by rw [hh]; exact ar_nj)
  have he : (wl G w h)[q]? = some (w.1 q, .inl (G.2 1, n, .inl f)) := by rw [wl_get G w h hq, hh]; rfl
  subst hi
  refine va_zast C.1 C.2.1 C.2.2.2.2.2.2.2.1 hW.1 hW.2.1 hS q 1 he rfl (vp_in_nI hj hn) hd (fun H1 locs1 hP1 hD1 hS1 => ?_)
  rw [nI_clamp (by omega), nar_bI] at hP1 hD1
  exact k H1 locs1 ls (hW.set hq (c := zo n (upd f j (bI b))) rfl trivial hP1 hD1) hS1 hl
theorem v_alen (C : Cx X μ tab d zR o P) {q t : Nat} {a : vp_A} (hd : decode μ.2.1 pc = .ok (.arraylength, 1)) (hh : h q = .inl (t, a)) (ht : Nat.blt t 4 = true) (k : V X z w h (pc + 1) L (.int (nI a.1) :: st)) : V X z w h pc L (.ref q :: st) := by
  rcases X with ⟨p, l, e, R, s, m, args, below, meth, c, G, B, Q⟩
  intro H locs ls hW hS hl
  have hq : q < w.2 := hW.lt (by rw [hh]; exact ar_nj)
  have he : (wl G w h)[q]? = some (w.1 q, .inl (G.2 t, cx w.1 a)) := by rw [wl_get G w h hq, hh]; rfl
  have ha : (cx w.1 a).1 = a.1 := by
    obtain ⟨n, f | f | f | f | f⟩ := a <;> rfl
  have ht' : ∃ ty, (tysD G)[t]? = some (G.2 t, ty) := by
    have : t < 4 := by simpa using ht
    rcases (by omega : t = 0 ∨ t = 1 ∨ t = 2 ∨ t = 3) with rfl | rfl | rfl | rfl <;> exact ⟨_, rfl⟩
  obtain ⟨ty, ht'⟩ := ht'
  exact va_alen C.1 C.2.1 C.2.2.2.2.2.2.2.1 hW.1 q t he ht' (by rw [ha]; rfl) hd (k H locs ls hW hS hl)
theorem v_aald (C : Cx X μ tab d zR o P) {q n j r : Nat} {f : Nat → Option Nat} {i : Int32} (hd : decode μ.2.1 pc = .ok (.aaload, 1)) (hh : h q = ao n f) (hn : n < 2 ^ 31) (hi : i = nI j) (hj : j < n) (hv : f j = some r) (k : V X z w h (pc + 1) L (.ref r :: st)) : V X z w h pc L (.int i :: .ref q :: st) := by
  rcases X with ⟨p, l, e, R, s, m, args, below, meth, c, G, B, Q⟩
  intro H locs ls hW hS hl
  have hq : q < w.2 := hW.lt (by rw [hh]; exact ar_nj)
  have he : (wl G w h)[q]? = some (w.1 q, .inl (G.2 3, n, .inr (.inr (.inr (.inr (fun j => (f j).map w.1)))))) := by rw [wl_get G w h hq, hh]; rfl
  subst hi
  have hlt : (nI j).toNatClampNeg < n := by rw [nI_clamp (by omega)]; exact hj
  exact W.aald (v := .ref (w.1 r)) (ty := .array .int) C.1 C.2.1 (hW.1 q _ he) ((C.2.2.2.2.2.2.2.1.2 3 _ rfl).1 n (fun j => va_rf ((f j).map w.1))) rfl (fun q => by cases q) (by show ¬ (nI j < 0 ∨ (arrV _ _ _).slots.size ≤ _); rw [arrV_size]; exact vp_in_nI hj hn) (by show (arrV _ _ _).slots[_]? = _; rw [arrV_read _ _ hlt, nI_clamp (by omega)]; dsimp only; rw [hv]; rfl) rfl rfl hd (k H locs ls hW hS hl)
end VH
end
section
/-! ===== the rules of V: ends, entries, calls, throws ===== -/
theorem entL_mem (ad : Nat → Nat) : ∀ (n : Nat) (vs : List Value) (k i : Nat) (v : Value), (entL n vs)[i]? = some (some v) → (∀ u ∈ vs, ∀ x, u ≠ .double x) → (k + i, cv ad v) ∈ lv_args k (vs.map (cv ad))
  | n, [], k, i, v, h, _ => by
    simp [entL] at h
    have := List.mem_of_getElem? h
    simp at this
  | 0, u :: vs, k, i, v, h, _ => by
    cases u <;> simp [entL] at h
  | 1, u :: vs, k, i, v, h, hd => by
    have e : entL 1 (u :: vs) = some u :: entL 0 vs := by cases u <;> rfl
    rw [e] at h
    cases i with
    | zero => simp at h; subst h; exact List.mem_cons_self
    | succ i =>
      cases vs with
      | nil => simp [entL] at h
      | cons a b => cases a <;> simp [entL] at h
  | n + 2, u :: vs, k, i, v, h, hd => by
    cases u with
    | double x => exact absurd rfl (hd _ List.mem_cons_self x)
    | long x =>
      simp only [entL] at h
      cases i with
      | zero => simp at h; subst h; exact List.mem_cons_self
      | succ i =>
        cases i with
        | zero => simp at h
        | succ i =>
          have := entL_mem ad n vs (k + 2) i v (by simpa using h) (fun u hu => hd u (List.mem_cons_of_mem _ hu))
          rw [show k + (i + 1 + 1) = k + 2 + i by omega]
          exact List.mem_cons_of_mem _ (by simpa [cv, Value.category] using this)
    | int x =>
      simp only [entL] at h
      cases i with
      | zero => simp at h; subst h; exact List.mem_cons_self
      | succ i =>
        have := entL_mem ad (n + 1) vs (k + 1) i v (by simpa using h) (fun u hu => hd u (List.mem_cons_of_mem _ hu))
        rw [show k + (i + 1) = k + 1 + i by omega]
        exact List.mem_cons_of_mem _ (by simpa [cv, Value.category] using this)
    | float x =>
      simp only [entL] at h
      cases i with
      | zero => simp at h; subst h; exact List.mem_cons_self
      | succ i =>
        have := entL_mem ad (n + 1) vs (k + 1) i v (by simpa using h) (fun u hu => hd u (List.mem_cons_of_mem _ hu))
        rw [show k + (i + 1) = k + 1 + i by omega]
        exact List.mem_cons_of_mem _ (by simpa [cv, Value.category] using this)
    | null =>
      simp only [entL] at h
      cases i with
      | zero => simp at h; subst h; exact List.mem_cons_self
      | succ i =>
        have := entL_mem ad (n + 1) vs (k + 1) i v (by simpa using h) (fun u hu => hd u (List.mem_cons_of_mem _ hu))
        rw [show k + (i + 1) = k + 1 + i by omega]
        exact List.mem_cons_of_mem _ (by simpa [cv, Value.category] using this)
    | ref x =>
      simp only [entL] at h
      cases i with
      | zero => simp at h; subst h; exact List.mem_cons_self
      | succ i =>
        have := entL_mem ad (n + 1) vs (k + 1) i v (by simpa using h) (fun u hu => hd u (List.mem_cons_of_mem _ hu))
        rw [show k + (i + 1) = k + 1 + i by omega]
        exact List.mem_cons_of_mem _ (by simpa [cv, Value.category] using this)
    | retAddr x =>
      simp only [entL] at h
      cases i with
      | zero => simp at h; subst h; exact List.mem_cons_self
      | succ i =>
        have := entL_mem ad (n + 1) vs (k + 1) i v (by simpa using h) (fun u hu => hd u (List.mem_cons_of_mem _ hu))
        rw [show k + (i + 1) = k + 1 + i by omega]
        exact List.mem_cons_of_mem _ (by simpa [cv, Value.category] using this)
/-- the arguments fit the locals -/
def ent_ok (n : Nat) (vs : List Value) : Prop := (∀ ad : Nat → Nat, Nat.ble (lg_sl (vs.map (cv ad))).length n = true) ∧ (entL n vs).length = n ∧ ∀ u ∈ vs, ∀ x, u ≠ .double x
theorem conI {μ : Mi} {d : Nat} {z : Nat × Nat} {w : Wt} {as : List Value} {h : Hp} {o : Oc} {P : Wt → Hp → Prop} (hy : plainName μ.1.cls = true) (he : ent_ok μ.2.2.1 as) (body : ∀ X, Cx X μ [] d z o P → V X (0, 0) w h 0 (entL μ.2.2.1 as) []) : Con μ d z w as h o P := by
  intro l G B hl0
  refine vx_ofW hy rfl ?_
  intro p e s m args below meth c s₁ B' hml htab hv
  obtain ⟨rfl, hWd, hK, hB, hSt, hEx⟩ := hv
  have hts := atoms_spec (ws := .code μ.1 μ.2.1 μ.2.2.1 μ.2.2.2.1 :: TSg) B'.pre
  have ht : c.exceptionTable.toList = [] := by
    cases hc : c.exceptionTable.toList with
    | nil => rfl
    | cons a b => exact absurd (htab a (by rw [hc]; exact List.mem_cons_self)) id
  have hC : Cx (p, l, e, (headSpec (.code μ.1 μ.2.1 μ.2.2.1 μ.2.2.2.1 :: TSg) (rmD d z)).room, s, m, (as.map (cv w.1)).toArray, below, meth, c, G, B, vx_MQ below (QcD G B o P) (XcD G B o P) (as.map (cv w.1)).toArray s z.1 z.2 (AB B)) μ [] d z o P :=
    ⟨B'.exec, B'.bytes, hml, findClass_of_methodNamed B'.named, fun w hw => hts w (List.mem_cons_of_mem _ hw), B'.notSynchronized, hl0, hK, hB, hSt, hEx, ⟨Nat.le_refl _, Nat.le_refl _, Nat.le_refl _, Nat.le_refl _⟩, ht, B'.returns, (name_of_methodNamed B'.named B'.method).1, rfl⟩
  have hV := body _ hC
  have hl := lv_entry (as.map (cv w.1)) (n := μ.2.2.1) (Nat.le_of_ble_eq_true (he.1 _))
  rw [lg_entry_eq]
  refine hV s.heap [] _ hWd va_S.rf ⟨hl.1.trans he.2.1.symm, hl.2.1, fun i v hi => ?_⟩
  have := hl.2.2 (0 + i, cv w.1 v) (entL_mem w.1 μ.2.2.1 as 0 i v hi he.2.2)
  simpa using this
section VC
variable {X : CT} {μ : Mi} {tab : List ExceptionTableEntry} {d : Nat} {zR : Nat × Nat} {o : Oc} {P : Wt → Hp → Prop} {z : Nat × Nat} {w : Wt} {h : Hp} {pc : Nat} {L : List (Option Value)} {st : List Value}
theorem v_iret (C : Cx X μ tab d zR o P) {x : Int32} (hd : decode μ.2.1 pc = .ok (.ireturn, 1)) (hr : μ.2.2.2.1 = some .int) (ho : o = .inl (some (.int x))) (hz : z.1 ≤ zR.1 ∧ z.2 ≤ zR.2) (hP : P w h) : V X z w h pc L [.int x] := by
  rcases X with ⟨p, l, e, R, s, m, args, below, meth, c, G, B, Q⟩
  intro H locs ls hW hS hl
  have hQ := C.2.2.2.2.2.2.2.2.2.2.2.2.2.2.2
  subst hQ
  exact W.widen hz.1 hz.2 (vx_ret (W.widen (Nat.le_refl _) (Nat.le_refl _) (W.iret C.1 C.2.1 (C.2.2.2.2.2.2.2.2.2.2.2.2.2.1.trans hr) (fun t ht hWm => ⟨⟨some (.int x), w, h, rfl, ho, hP, by rw [ht]; exact hW⟩, hS.F ht⟩) hS.2.2 hd C.2.2.2.2.2.1)))
theorem v_zret (C : Cx X μ tab d zR o P) {b : Bool} (hd : decode μ.2.1 pc = .ok (.ireturn, 1)) (hr : μ.2.2.2.1 = some .boolean) (ho : o = .inl (some (.int (bI b)))) (hz : z.1 ≤ zR.1 ∧ z.2 ≤ zR.2) (hP : P w h) : V X z w h pc L [.int (bI b)] := by
  rcases X with ⟨p, l, e, R, s, m, args, below, meth, c, G, B, Q⟩
  intro H locs ls hW hS hl
  have hQ := C.2.2.2.2.2.2.2.2.2.2.2.2.2.2.2
  subst hQ
  exact W.widen hz.1 hz.2 (vx_ret (W.zret C.1 C.2.1 (C.2.2.2.2.2.2.2.2.2.2.2.2.2.1.trans hr) (by cases b <;> rfl) (fun t ht hWm => ⟨⟨some (.int (bI b)), w, h, rfl, ho, hP, by rw [ht]; exact hW⟩, hS.F ht⟩) hS.2.2 hd C.2.2.2.2.2.1))
theorem v_lret (C : Cx X μ tab d zR o P) {x : Int64} (hd : decode μ.2.1 pc = .ok (.lreturn, 1)) (hr : μ.2.2.2.1 = some .long) (ho : o = .inl (some (.long x))) (hz : z.1 ≤ zR.1 ∧ z.2 ≤ zR.2) (hP : P w h) : V X z w h pc L [.long x] := by
  rcases X with ⟨p, l, e, R, s, m, args, below, meth, c, G, B, Q⟩
  intro H locs ls hW hS hl
  have hQ := C.2.2.2.2.2.2.2.2.2.2.2.2.2.2.2
  subst hQ
  exact W.widen hz.1 hz.2 (vx_ret (W.lret C.1 C.2.1 (C.2.2.2.2.2.2.2.2.2.2.2.2.2.1.trans hr) (fun t ht hWm => ⟨⟨some (.long x), w, h, rfl, ho, hP, by rw [ht]; exact hW⟩, hS.F ht⟩) hS.2.2 hd C.2.2.2.2.2.1))
theorem v_vret (C : Cx X μ tab d zR o P) (hd : decode μ.2.1 pc = .ok (.return_, 1)) (hr : μ.2.2.2.1 = none) (ho : o = .inl none) (hz : z.1 ≤ zR.1 ∧ z.2 ≤ zR.2) (hP : P w h) : V X z w h pc L [] := by
  rcases X with ⟨p, l, e, R, s, m, args, below, meth, c, G, B, Q⟩
  intro H locs ls hW hS hl
  have hQ := C.2.2.2.2.2.2.2.2.2.2.2.2.2.2.2
  subst hQ
  exact W.widen hz.1 hz.2 (vx_ret (W.vret C.1 C.2.1 (C.2.2.2.2.2.2.2.2.2.2.2.2.2.1.trans hr) (fun t ht hWm => ⟨⟨none, w, h, rfl, ho, hP, by rw [ht]; exact hW⟩, hS.F ht⟩) hS.2.2 hd C.2.2.2.2.2.1))
/-- the state behind a throw in this frame -/
def VT (X : CT) (z : Nat × Nat) (w : Wt) (h : Hp) (pc : Nat) (L : List (Option Value)) (st : List Value) (E : String) : Prop := match X with
  | (p, l, e, R, s, m, args, below, meth, c, G, B, Q) => ∀ (H : Heap) (locs : List Loc) (ls : Array Slot) (q : Addr) (ce : Cell), Wd G B w h H → va_S (AB B) s.heap H locs → Lc w.1 L ls → H[q]? = some ce → ce.vm = .none → s.vm.findClass E = some ce.cls → vx_W p l e R s m args below meth c H locs z.1 z.2 Q (F0 m pc ls (st.map (cv w.1))) q
/-- what a method must have to be called -/
def MK (μ : Mi) : Prop := Cond.code μ.1 μ.2.1 μ.2.2.1 μ.2.2.2.1 ∈ TSg ∧ Cond.initialized μ.1.cls ∈ TSg ∧ (μ.1.cls ≠ "java/lang/invoke/MethodHandle" ∧ μ.1.cls ≠ "java/lang/invoke/VarHandle") ∧ (parseMethodDescriptor μ.1.desc).map (fun d => d.parameters.length) = some μ.2.2.2.2 ∧ μ.2.2.1 ≤ 60
def MKv (μ : Mi) (ci : Nat) : Prop := Cond.instanceMethod μ.1 ∈ TSg ∧ Cond.selects μ.1.cls μ.1 μ.1 ∈ TSg ∧ ∃ T N, cls10[ci]? = some (μ.1.cls, T, N)
theorem preD_of {p : Program} {l : Launch} {e : Env} {R : Room} {s : State} {m : MethodId} {args : Array Value} {below : List Frame} {meth : Method} {c : Code} {G : GG} {B : Nat} {Q : State → Prop} (C : Cx (p, l, e, R, s, m, args, below, meth, c, G, B, Q) μ tab d zR o P) {H : Heap} {locs : List Loc} (hW : Wd G B w h H) (hS : va_S (AB B) s.heap H locs) {U : State} (hU : U.heap = H) (hWm : s.WarmedH U.vm) : PreD G B w h U := by
  obtain ⟨-, -, -, -, -, -, -, hK, hB, hSt, hEx, -⟩ := C
  refine ⟨by rw [hU]; exact hW, hK.moved hWm.alike, by rw [hU]; exact Nat.le_trans hB hS.1, ?_, hEx.warm hWm⟩
  rw [hU]
  exact ⟨vx_Zq.moved hWm.alike (hSt.1.kept hS.2.1), vx_Zq.moved hWm.alike (hSt.2.kept hS.2.1)⟩
theorem blindD (G : GG) (B : Nat) (as : List Value) (w : Wt) (h : Hp) : FrameBlind (va_Pc as (PreD G B w h)) := fun a U g mk q => by
  obtain ⟨q0, q1, q2, q3, q4, q5⟩ := q
  exact ⟨q0, q1, va_K.moved (u := U) (U := U.calling g mk a) (Vm.Alike.refl U.vm) q2, q3, ⟨vx_Zq.moved (u := U) (U := U.calling g mk a) (Vm.Alike.refl U.vm) q4.1, vx_Zq.moved (u := U) (U := U.calling g mk a) (Vm.Alike.refl U.vm) q4.2⟩, ExD.warm (s := U) (U := U.calling g mk a) (State.WarmedH.refl U) q5⟩
theorem tsg_code (μ' : Mi) (hM : MK μ') : GoodIn TSg (.code μ'.1 μ'.2.1 μ'.2.2.1 μ'.2.2.2.1 :: TSg) := tsg_in (fun _ h => h) (fun w hw => by
  rcases List.mem_cons.mp hw with h1 | h1
  · rw [h1]; exact hM.1
  · exact h1)
/-- behind a run of a callee -/
theorem v_after {p : Program} {l : Launch} {e : Env} {R : Room} {s : State} {m : MethodId} {args : Array Value} {below : List Frame} {meth : Method} {c : Code} {G : GG} {B : Nat} {Q : State → Prop} {H : Heap} {locs : List Loc} {ls : Array Slot} {z' : Nat × Nat} {as : Array Value} {o' : Oc} {P' : Hp → Prop} {g0 : List Value} (hS : va_S (AB B) s.heap H locs) (hl : Lc w.1 L ls)
    (hr : vx_Run p l e R s m args below meth c H locs z.1 z.2 z'.1 z'.2 (F0 m pc ls g0) (st.map (cv w.1)) (QcD G B o' (fun w' h' => w' = w ∧ P' h') as) (XcD G B o' (fun w' h' => w' = w ∧ P' h')) (AB B))
    (kr : ∀ v h', o' = .inl v → P' h' → (∀ ad : Nat → Nat, v.toList.map (cv ad) = v.toList) ∧ V (p, l, e, R, s, m, args, below, meth, c, G, B, Q) (z.1 + z'.1, z.2 + z'.2) w h' (pc + 3) L (v.toList ++ st)) (kt : ∀ E h', o' = .inr E → P' h' → VT (p, l, e, R, s, m, args, below, meth, c, G, B, Q) (z.1 + z'.1, z.2 + z'.2) w h' pc L st E) : W p l e R s m args below meth c H locs z.1 z.2 Q (F0 m pc ls g0) := by
  intro T hT Xs
  rcases hr T hT Xs with ⟨v, st₀, t, T', L1, h0, X', hL, e1, e2, ⟨⟨v', w', h', hv, ho, ⟨rfl, hP⟩, hWd⟩, hF⟩, stp⟩ | ⟨q, st₀, t, T', L1, E, ce, h0, X', hL, e1, e2, ⟨⟨w', h', ho, ⟨rfl, hP⟩, hWd⟩, hF⟩, hce, hcv, hcl, stp⟩
  · cases hv
    obtain ⟨k1, k2, k3⟩ := vx_keep h0 e1 hS (fun q _ h => h) (fun q h => h) hL hF
    obtain ⟨hn, hV⟩ := kr v h' ho hP
    have hV2 := hV T'.heap (locs ++ L1) ls (by rw [e1]; exact hWd) k3 hl
    rw [List.map_append, hn] at hV2
    obtain ⟨t2, a1, b1⟩ := hV2 T' rfl X'
    exact ⟨t2, stp t2 a1, b1⟩
  · obtain ⟨k1, k2, k3⟩ := vx_keep h0 e1 hS (fun q _ h => h) (fun q h => h) hL hF
    obtain ⟨t2, a1, b1⟩ := kt E h' ho hP T'.heap (locs ++ L1) ls q ce (by rw [e1]; exact hWd) k3 hl (by rw [e1]; exact hce) hcv hcl T' rfl X'
    exact ⟨t2, stp.trans a1, b1⟩
theorem cv_sum (ad : Nat → Nat) (st : List Value) : ((st.map (cv ad)).map fun v => v.category).sum = (st.map fun v => v.category).sum := by
  rw [List.map_map]
  congr 1
  refine List.map_congr_left fun v _ => cv_cat ad v
/-- a normal contract: the addresses stay -/
abbrev ConN (μ : Mi) (d : Nat) (z : Nat × Nat) (w : Wt) (as : List Value) (h : Hp) (o : Oc) (P : Hp → Prop) : Prop := Con μ d z w as h o (fun w' h' => w' = w ∧ P h')
theorem v_callV0 (C : Cx X μ tab d zR o P) {ix ci q d' : Nat} {μ' : Mi} {z' : Nat × Nat} {as : List Value} {fs : List Value} {o' : Oc} {P' : Hp → Prop} {stk : List Value} (hd : decode μ.2.1 pc = .ok (.invokevirtual ix, 3)) (hM : MK μ') (hMv : MKv μ' ci) (hml : Cond.methodLink μ.1.cls ix μ'.1 ∈ TSg) (hh : h q = .inr (ci, fs)) (hc : ConN μ' d' z' w (.ref q :: as) h o' P') (hs : stk = as.reverse ++ .ref q :: st) (hdd : Nat.blt d' d = true) (hn : as.length = μ'.2.2.2.2) (hz : Nat.ble (z.1 + z'.1) zR.1 = true ∧ Nat.ble (z.2 + z'.2) zR.2 = true) (hcat : Nat.ble (st.map fun v => v.category).sum 8 = true) (hLn : L.length = μ.2.2.1)
    (kr : ∀ v h', o' = .inl v → P' h' → (∀ ad : Nat → Nat, v.toList.map (cv ad) = v.toList) ∧ V X (z.1 + z'.1, z.2 + z'.2) w h' (pc + 3) L (v.toList ++ st)) (kt : ∀ E h', o' = .inr E → P' h' → VT X (z.1 + z'.1, z.2 + z'.2) w h' pc L st E) : V X z w h pc L stk := by
  rcases X with ⟨p, l, e, R, s, m, args, below, meth, c, G, B, Q⟩
  intro H locs ls hW hS hl
  obtain ⟨hin, hsel, T, N, hci⟩ := hMv
  have hdd : d' < d := by simpa using hdd
  have hq : q < w.2 := hW.lt (by rw [hh]; exact ob_nj hci)
  have he : (wl G w h)[q]? = some (w.1 q, .inr (ci, fs.map (cv w.1))) := by rw [wl_get G w h hq, hh]; rfl
  have hrec := va_recv C.2.2.2.2.2.2.2.1 hW.1 hci he
  obtain ⟨r1, r2, r3, r4⟩ := C.2.2.2.2.2.2.2.2.2.2.2.1
  obtain ⟨z1, z2⟩ := hz
  have hts := C.2.2.2.2.1
  refine v_after (st := st) hS hl (vx_runV (As := as.map (cv w.1)) (rest := st.map (cv w.1)) (C := μ'.1.cls) (bytes := μ'.2.1) (maxL := μ'.2.2.1) (ret := μ'.2.2.2.1) (n := μ'.2.2.2.2) ⟨C.1, C.2.1, C.2.2.1, C.2.2.2.1, hts⟩ (hc l G B C.2.2.2.2.2.2.1) ⟨callB_of _ hts (tsg_code μ' hM) rfl rfl rfl (hts _ hM.2.1) (hts _ hml) ⟨hM.2.2.1.1, hM.2.2.1.2, hM.2.2.2.1⟩ ⟨?_, ?_⟩, hts _ hin, hts _ hsel⟩ ⟨blindD G B _ w h, hrec, fun U hU hWm => ⟨rfl, preD_of C hW hS hU hWm⟩⟩ rfl (by rw [List.length_map]; exact hn) (hl.1.trans hLn) ?_ (lv_room (by rw [cv_sum]; exact Nat.le_of_ble_eq_true hcat)) hd ⟨?_, ?_⟩) kr kt
  · show 20 + d' + 1 ≤ R.frames
    omega
  · show 8 + (μ'.2.2.1 + 11) + (200 + 80 * d') ≤ R.locals
    have := hM.2.2.2.2
    omega
  · show stk.map (cv w.1) = _
    rw [hs]
    simp [cv]
  · exact Nat.le_trans (Nat.le_of_ble_eq_true z1) r3
  · exact Nat.le_trans (Nat.le_of_ble_eq_true z2) r4
theorem v_callS0 (C : Cx X μ tab d zR o P) {ix d' : Nat} {μ' : Mi} {z' : Nat × Nat} {as : List Value} {o' : Oc} {P' : Hp → Prop} {stk : List Value} (hd : decode μ.2.1 pc = .ok (.invokestatic ix, 3)) (hM : MK μ') (hMs : Cond.static μ'.1 ∈ TSg) (hml : Cond.methodLink μ.1.cls ix μ'.1 ∈ TSg) (hc : ConN μ' d' z' w as h o' P') (hs : stk = as.reverse ++ st) (hdd : Nat.blt d' d = true) (hn : as.length = μ'.2.2.2.2) (hz : Nat.ble (z.1 + z'.1) zR.1 = true ∧ Nat.ble (z.2 + z'.2) zR.2 = true) (hcat : Nat.ble (st.map fun v => v.category).sum 8 = true) (hLn : L.length = μ.2.2.1)
    (kr : ∀ v h', o' = .inl v → P' h' → (∀ ad : Nat → Nat, v.toList.map (cv ad) = v.toList) ∧ V X (z.1 + z'.1, z.2 + z'.2) w h' (pc + 3) L (v.toList ++ st)) (kt : ∀ E h', o' = .inr E → P' h' → VT X (z.1 + z'.1, z.2 + z'.2) w h' pc L st E) : V X z w h pc L stk := by
  rcases X with ⟨p, l, e, R, s, m, args, below, meth, c, G, B, Q⟩
  intro H locs ls hW hS hl
  have hdd : d' < d := by simpa using hdd
  obtain ⟨r1, r2, r3, r4⟩ := C.2.2.2.2.2.2.2.2.2.2.2.1
  obtain ⟨z1, z2⟩ := hz
  have hts := C.2.2.2.2.1
  refine v_after (st := st) hS hl (vx_runS (As := as.map (cv w.1)) (rest := st.map (cv w.1)) (bytes := μ'.2.1) (maxL := μ'.2.2.1) (ret := μ'.2.2.2.1) (n := μ'.2.2.2.2) ⟨C.1, C.2.1, C.2.2.1, C.2.2.2.1, hts⟩ (hc l G B C.2.2.2.2.2.2.1) ⟨callB_of _ hts (tsg_code μ' hM) rfl rfl rfl (hts _ hM.2.1) (hts _ hml) ⟨hM.2.2.1.1, hM.2.2.1.2, hM.2.2.2.1⟩ ⟨?_, ?_⟩, hts _ hMs⟩ ⟨blindD G B _ w h, fun U hU hWm => ⟨rfl, preD_of C hW hS hU hWm⟩⟩ rfl (by rw [List.length_map]; exact hn) (hl.1.trans hLn) ?_ (lv_room (by rw [cv_sum]; exact Nat.le_of_ble_eq_true hcat)) hd ⟨?_, ?_⟩) kr kt
  · show 20 + d' + 1 ≤ R.frames
    omega
  · show 8 + (μ'.2.2.1 + 11) + (200 + 80 * d') ≤ R.locals
    have := hM.2.2.2.2
    omega
  · show stk.map (cv w.1) = _
    rw [hs]
    simp
  · exact Nat.le_trans (Nat.le_of_ble_eq_true z1) r3
  · exact Nat.le_trans (Nat.le_of_ble_eq_true z2) r4
/-- a throw that no handler of this method takes -/
theorem vt_out (C : Cx X μ [] d zR o P) {E : String} (ho : o = .inr E) (hz : z.1 ≤ zR.1 ∧ z.2 ≤ zR.2) (hP : P w h) : VT X z w h pc L st E := by
  rcases X with ⟨p, l, e, R, s, m, args, below, meth, c, G, B, Q⟩
  intro H locs ls q ce hW hS hl hce hcv hcl
  have hQ := C.2.2.2.2.2.2.2.2.2.2.2.2.2.2.2
  subst hQ
  have ht := C.2.2.2.2.2.2.2.2.2.2.2.2.1
  exact vx_out (E := E) (by rw [ht]; exact fun x hx => by cases hx) C.2.2.2.2.2.1 hce hcv hcl (fun t ht hv => ⟨⟨w, h, ho, hP, by rw [ht]; exact hW⟩, hS.F ht⟩) hS.2.2 hz.1 hz.2
end VC
end
section
/-! ===== the rules of V for use: calls by outcome, throws, numbers as naturals ===== -/
def MVL (own : String) (ix : Nat) (μ' : Mi) (ci : Nat) : Prop := MK μ' ∧ MKv μ' ci ∧ Cond.methodLink own ix μ'.1 ∈ TSg
def MSL (own : String) (ix : Nat) (μ' : Mi) : Prop := MK μ' ∧ Cond.static μ'.1 ∈ TSg ∧ Cond.methodLink own ix μ'.1 ∈ TSg
theorem ofInt_nI (n : Nat) : Int32.ofInt (n : Int) = nI n := rfl
theorem Wd.kept {G : GG} {B : Nat} {w : Wt} {h : Hp} {H H1 : Heap} (hW : Wd G B w h H) (hk : ∀ q : Nat, q < H.size → H1[q]? = H[q]?) : Wd G B w h H1 := ⟨hW.1.kept (fun k q hq => hk q.1 ((hW.1 k q hq).lt)), hW.2⟩
def xnm : List String := ["java/lang/RuntimeException", "java/lang/Exception"]
def THR (ik ic : Nat) (E : String) : Prop := Bundle.fit E = true ∧ Cond.classLink RX8 ik E ∈ TSg ∧ Cond.initialized E ∈ TSg ∧ ∀ w ∈ vx_atS RX8 ic E xnm, vx_ot w = true ∧ (w ∈ TSg ∨ (exOk w = true ∧ w ∈ lw_tbl))
theorem hu_hu (h : Hp) (q : Nat) (c c' : PE) : hu (hu h q c) q c' = hu h q c' := by
  funext j; unfold hu; split <;> rfl
theorem hu_id (h : Hp) {q : Nat} {c : PE} (e : h q = c) : hu h q c = h := by
  funext j; unfold hu; split
  · rename_i e2; rw [e2, e]
  · rfl
def mix (f g : Nat → Int32) (i : Nat) : Nat → Int32 := fun j => if j < i then g j else f j
theorem mix_0 (f g : Nat → Int32) : mix f g 0 = f := by funext j; simp [mix]
theorem mix_s (f g : Nat → Int32) (i : Nat) (v : Int32) (hv : g i = v) : upd (mix f g i) i v = mix f g (i + 1) := by
  funext j; unfold upd mix
  subst hv
  by_cases e : j = i
  · subst e; simp
  · have : (j < i + 1) ↔ (j < i) := by omega
    simp [e, this]
theorem mix_lt {f g : Nat → Int32} {i j : Nat} (h : j < i) : mix f g i j = g j := if_pos h
theorem mix_ge {f g : Nat → Int32} {i j : Nat} (h : i ≤ j) : mix f g i j = f j := if_neg (by omega)
def cnt (p : Nat → Bool) : Nat → Nat
  | 0 => 0
  | n + 1 => cnt p n + (if p n then 1 else 0)
section VS
variable {X : CT} {μ : Mi} {tab : List ExceptionTableEntry} {d : Nat} {zR : Nat × Nat} {o : Oc} {P : Wt → Hp → Prop} {z : Nat × Nat} {w : Wt} {h : Hp} {pc : Nat} {L : List (Option Value)} {st : List Value}
theorem v_callV (C : Cx X μ tab d zR o P) {ix ci q d' : Nat} {μ' : Mi} {as : List Value} {fs : List Value} {v : Option Value} {P' : Hp → Prop} {stk : List Value} (hd : decode μ.2.1 pc = .ok (.invokevirtual ix, 3)) (hM : MVL μ.1.cls ix μ' ci) (hh : h q = .inr (ci, fs)) (hc : ConN μ' d' (0, 0) w (.ref q :: as) h (.inl v) P') (hs : stk = as.reverse ++ .ref q :: st) (hdd : Nat.blt d' d = true) (hn : as.length = μ'.2.2.2.2) (hz : Nat.ble z.1 zR.1 = true ∧ Nat.ble z.2 zR.2 = true) (hcat : Nat.ble (st.map fun v => v.category).sum 8 = true) (hLn : L.length = μ.2.2.1) (hnr : ∀ ad : Nat → Nat, v.toList.map (cv ad) = v.toList)
    (k : ∀ h', P' h' → V X z w h' (pc + 3) L (v.toList ++ st)) : V X z w h pc L stk :=
  v_callV0 C hd hM.1 hM.2.1 hM.2.2 hh hc hs hdd hn hz hcat hLn (fun v' h' e hp => by cases e; exact ⟨hnr, k h' hp⟩) (fun _ _ e _ => by cases e)
theorem v_callS (C : Cx X μ tab d zR o P) {ix d' : Nat} {μ' : Mi} {as : List Value} {v : Option Value} {P' : Hp → Prop} {stk : List Value} (hd : decode μ.2.1 pc = .ok (.invokestatic ix, 3)) (hM : MSL μ.1.cls ix μ') (hc : ConN μ' d' (0, 0) w as h (.inl v) P') (hs : stk = as.reverse ++ st) (hdd : Nat.blt d' d = true) (hn : as.length = μ'.2.2.2.2) (hz : Nat.ble z.1 zR.1 = true ∧ Nat.ble z.2 zR.2 = true) (hcat : Nat.ble (st.map fun v => v.category).sum 8 = true) (hLn : L.length = μ.2.2.1) (hnr : ∀ ad : Nat → Nat, v.toList.map (cv ad) = v.toList)
    (k : ∀ h', P' h' → V X z w h' (pc + 3) L (v.toList ++ st)) : V X z w h pc L stk :=
  v_callS0 C hd hM.1 hM.2.1 hM.2.2 hc hs hdd hn hz hcat hLn (fun v' h' e hp => by cases e; exact ⟨hnr, k h' hp⟩) (fun _ _ e _ => by cases e)
/-- a callee that throws, and so does this method -/
theorem v_callVT {E : String} (C : Cx X μ [] d (1, 6) (.inr E) P) {ix ci q d' : Nat} {μ' : Mi} {as : List Value} {fs : List Value} {P' : Hp → Prop} {stk : List Value} (hd : decode μ.2.1 pc = .ok (.invokevirtual ix, 3)) (hM : MVL μ.1.cls ix μ' ci) (hh : h q = .inr (ci, fs)) (hc : ConN μ' d' (1, 6) w (.ref q :: as) h (.inr E) P') (hs : stk = as.reverse ++ .ref q :: st) (hdd : Nat.blt d' d = true) (hn : as.length = μ'.2.2.2.2) (hcat : Nat.ble (st.map fun v => v.category).sum 8 = true) (hLn : L.length = μ.2.2.1) (hP : ∀ h', P' h' → P w h') : V X (0, 0) w h pc L stk :=
  v_callV0 C hd hM.1 hM.2.1 hM.2.2 hh hc hs hdd hn ⟨rfl, rfl⟩ hcat hLn (fun _ _ e _ => by cases e) (fun E' h' e hp => by cases e; exact vt_out C rfl ⟨Nat.le_refl _, Nat.le_refl _⟩ (hP h' hp))
theorem v_callST {E : String} (C : Cx X μ [] d (1, 6) (.inr E) P) {ix d' : Nat} {μ' : Mi} {as : List Value} {P' : Hp → Prop} {stk : List Value} (hd : decode μ.2.1 pc = .ok (.invokestatic ix, 3)) (hM : MSL μ.1.cls ix μ') (hc : ConN μ' d' (1, 6) w as h (.inr E) P') (hs : stk = as.reverse ++ st) (hdd : Nat.blt d' d = true) (hn : as.length = μ'.2.2.2.2) (hcat : Nat.ble (st.map fun v => v.category).sum 8 = true) (hLn : L.length = μ.2.2.1) (hP : ∀ h', P' h' → P w h') : V X (0, 0) w h pc L stk :=
  v_callS0 C hd hM.1 hM.2.1 hM.2.2 hc hs hdd hn ⟨rfl, rfl⟩ hcat hLn (fun _ _ e _ => by cases e) (fun E' h' e hp => by cases e; exact vt_out C rfl ⟨Nat.le_refl _, Nat.le_refl _⟩ (hP h' hp))
theorem v_throwS {E : String} (C : Cx X μ [] d (1, 6) (.inr E) P) {ik is ic : Nat} {tx : String} (hown : μ.1.cls = RX8) (hT : THR ik ic E) (hstr : Cond.stringRef RX8 is tx ∈ lw_tbl) (d0 : decode μ.2.1 pc = .ok (.new ik, 3)) (d3 : decode μ.2.1 (pc + 3) = .ok (.dup, 1)) (d4 : decode μ.2.1 (pc + 4) = .ok (.ldc is, 2)) (d6 : decode μ.2.1 (pc + 6) = .ok (.invokespecial ic, 3)) (d9 : decode μ.2.1 (pc + 9) = .ok (.athrow, 1)) (hLn : L.length = μ.2.2.1) (hcat : Nat.ble (st.map fun v => v.category).sum 8 = true) (hP : P w h) : V X (0, 0) w h pc L st := by
  rcases X with ⟨p, l, e, R, s, m, args, below, meth, c, G, B, Q⟩
  intro H locs ls hW hS hl
  obtain ⟨hx, hb, hml, ho, hts, hlk, hlt, hK, hB, hSt, hEx, ⟨r1, r2, r3, r4⟩, htab, hret, hnm, hQ⟩ := C
  subst hQ
  rw [hown] at ho
  obtain ⟨t1, t2, t3, t4⟩ := hT
  obtain ⟨sa, hsa⟩ := hEx.2.1 _ _ _ hstr
  have hcat := Nat.le_of_ble_eq_true hcat
  have hsm : ((st.map (cv w.1)).map fun v => v.category).sum ≤ 8 := by rw [cv_sum]; exact hcat
  refine vx_throwS (names := xnm) (ik := ik) (is := is) (ic := ic) (sa := sa) (A := AB B) (text := tx) hx hb hlt ho t1 (by decide) (hts _ t2) (hts _ t3) hsa (fun w hw => ?_) ?_ hSt.1 hSt.2 hS (hl.1.trans (hLn.trans hml.symm)) d0 d3 d4 d6 d9 (by rw [htab]; exact fun x hx => by cases hx) ?_ ?_ r3 r4 hlk (fun t hv h1 h2 => ⟨⟨w, h, rfl, hP, hW.kept h2⟩, Nat.le_trans hS.1 h1, fun q hq hA => (h2 q (Nat.lt_of_lt_of_le hq hS.1)).trans (hS.2.1 q hq hA)⟩) hS.2.2 (Nat.le_refl _) (Nat.le_refl _)
  · rcases (t4 w hw).2 with h1 | ⟨h1, h2⟩
    · exact hts w h1
    · have := hEx.1 w h2 h1
      cases w with
      | castable C T => exact va_Nw.use rfl this
      | declares x => exact va_Nw.use rfl this
      | _ => cases h1
  · intro w hw
    rcases List.mem_cons.mp hw with h1 | h1
    · rw [h1]; rfl
    · rcases List.mem_cons.mp h1 with h1 | h1
      · rw [h1]; rfl
      · exact (t4 w h1).1
  · show 2 + 3 < R.frames
    omega
  · show _ + (13 * (2 + 1) + 43) ≤ R.locals
    omega
theorem v_throwSW {E : String} (C : Cx X μ [] d (1, 6) (.inr E) P) {ik is ic : Nat} {tx : String} (hown : μ.1.cls = RX8) (hT : THR ik ic E) (hstr : Cond.stringRef RX8 is tx ∈ lw_tbl) (d0 : decode μ.2.1 pc = .ok (.new ik, 3)) (d3 : decode μ.2.1 (pc + 3) = .ok (.dup, 1)) (d4 : decode μ.2.1 (pc + 4) = .ok (.ldc_w is, 3)) (d6 : decode μ.2.1 (pc + 7) = .ok (.invokespecial ic, 3)) (d9 : decode μ.2.1 (pc + 10) = .ok (.athrow, 1)) (hLn : L.length = μ.2.2.1) (hcat : Nat.ble (st.map fun v => v.category).sum 8 = true) (hP : P w h) : V X (0, 0) w h pc L st := by
  rcases X with ⟨p, l, e, R, s, m, args, below, meth, c, G, B, Q⟩
  intro H locs ls hW hS hl
  obtain ⟨hx, hb, hml, ho, hts, hlk, hlt, hK, hB, hSt, hEx, ⟨r1, r2, r3, r4⟩, htab, hret, hnm, hQ⟩ := C
  subst hQ
  rw [hown] at ho
  obtain ⟨t1, t2, t3, t4⟩ := hT
  obtain ⟨sa, hsa⟩ := hEx.2.1 _ _ _ hstr
  have hcat := Nat.le_of_ble_eq_true hcat
  have hsm : ((st.map (cv w.1)).map fun v => v.category).sum ≤ 8 := by rw [cv_sum]; exact hcat
  refine vx_throwSW (names := xnm) (ik := ik) (is := is) (ic := ic) (sa := sa) (A := AB B) (text := tx) hx hb hlt ho t1 (by decide) (hts _ t2) (hts _ t3) hsa (fun w hw => ?_) ?_ hSt.1 hSt.2 hS (hl.1.trans (hLn.trans hml.symm)) d0 d3 d4 d6 d9 (by rw [htab]; exact fun x hx => by cases hx) ?_ ?_ r3 r4 hlk (fun t hv h1 h2 => ⟨⟨w, h, rfl, hP, hW.kept h2⟩, Nat.le_trans hS.1 h1, fun q hq hA => (h2 q (Nat.lt_of_lt_of_le hq hS.1)).trans (hS.2.1 q hq hA)⟩) hS.2.2 (Nat.le_refl _) (Nat.le_refl _)
  · rcases (t4 w hw).2 with h1 | ⟨h1, h2⟩
    · exact hts w h1
    · have := hEx.1 w h2 h1
      cases w with
      | castable C T => exact va_Nw.use rfl this
      | declares x => exact va_Nw.use rfl this
      | _ => cases h1
  · intro w hw
    rcases List.mem_cons.mp hw with h1 | h1
    · rw [h1]; rfl
    · rcases List.mem_cons.mp h1 with h1 | h1
      · rw [h1]; rfl
      · exact (t4 w h1).1
  · show 2 + 3 < R.frames
    omega
  · show _ + (13 * (2 + 1) + 43) ≤ R.locals
    omega
theorem v_iaddN (C : Cx X μ tab d zR o P) {a b : Nat} (hd : decode μ.2.1 pc = .ok (.iadd, 1)) (k : V X z w h (pc + 1) L (.int (nI (a + b)) :: st)) : V X z w h pc L (.int (nI b) :: .int (nI a) :: st) := v_iadd C hd (by rw [nI_add]; exact k)
theorem v_imulN (C : Cx X μ tab d zR o P) {a b : Nat} (hd : decode μ.2.1 pc = .ok (.imul, 1)) (k : V X z w h (pc + 1) L (.int (nI (a * b)) :: st)) : V X z w h pc L (.int (nI b) :: .int (nI a) :: st) := v_imul C hd (by rw [pk_mul]; exact k)
theorem v_isubN (C : Cx X μ tab d zR o P) {a b : Nat} (hd : decode μ.2.1 pc = .ok (.isub, 1)) (hb : b ≤ a) (k : V X z w h (pc + 1) L (.int (nI (a - b)) :: st)) : V X z w h pc L (.int (nI b) :: .int (nI a) :: st) := v_isub C hd (by rw [pk_sub hb]; exact k)
theorem v_idivN (C : Cx X μ tab d zR o P) {a b : Nat} (hd : decode μ.2.1 pc = .ok (.idiv, 1)) (ha : a < 2 ^ 31) (h0 : 0 < b) (hb : b < 2 ^ 31) (k : V X z w h (pc + 1) L (.int (nI (a / b)) :: st)) : V X z w h pc L (.int (nI b) :: .int (nI a) :: st) := v_idiv C hd (nI_ne0 h0 hb) (by rw [pk_div ha h0 hb]; exact k)
theorem v_iremN (C : Cx X μ tab d zR o P) {a b : Nat} (hd : decode μ.2.1 pc = .ok (.irem, 1)) (ha : a < 2 ^ 31) (h0 : 0 < b) (hb : b < 2 ^ 31) (k : V X z w h (pc + 1) L (.int (nI (a % b)) :: st)) : V X z w h pc L (.int (nI b) :: .int (nI a) :: st) := v_irem C hd (nI_ne0 h0 hb) (by rw [pk_rem ha h0 hb]; exact k)
theorem v_iincN (C : Cx X μ tab d zR o P) {i a : Nat} (hd : decode μ.2.1 pc = .ok (.iinc i 1, 3)) (hr : rdL L i = some (.int (nI a))) (k : V X z w h (pc + 3) (sto1 L i (.int (nI (a + 1)))) st) : V X z w h pc L st := v_iinc C hd hr (nI_1 a) k
theorem v_idecN (C : Cx X μ tab d zR o P) {i a : Nat} (hd : decode μ.2.1 pc = .ok (.iinc i (-1), 3)) (hr : rdL L i = some (.int (nI (a + 1)))) (k : V X z w h (pc + 3) (sto1 L i (.int (nI a))) st) : V X z w h pc L st := v_iinc C hd hr (pk_m1 a) k
theorem v_icmp_eqN (C : Cx X μ tab d zR o P) {a b : Nat} {off : Int} {tgt : Nat} (hd : decode μ.2.1 pc = .ok (.if_icmp .eq off, 3)) (ht : (pc : Int) + off = (tgt : Int)) (ha : a < 2 ^ 31) (hb : b < 2 ^ 31) (kt : a = b → V X z w h tgt L st) (kf : a ≠ b → V X z w h (pc + 3) L st) : V X z w h pc L (.int (nI b) :: .int (nI a) :: st) :=
  v_icmp_eq C hd ht (fun q => kt ((nI_eq ha hb).mp q)) (fun q => kf (fun e => q ((nI_eq ha hb).mpr e)))
theorem v_icmp_neN (C : Cx X μ tab d zR o P) {a b : Nat} {off : Int} {tgt : Nat} (hd : decode μ.2.1 pc = .ok (.if_icmp .ne off, 3)) (ht : (pc : Int) + off = (tgt : Int)) (ha : a < 2 ^ 31) (hb : b < 2 ^ 31) (kt : a ≠ b → V X z w h tgt L st) (kf : a = b → V X z w h (pc + 3) L st) : V X z w h pc L (.int (nI b) :: .int (nI a) :: st) :=
  v_icmp_ne C hd ht (fun q => kt (fun e => q ((nI_eq ha hb).mpr e))) (fun q => kf ((nI_eq ha hb).mp q))
theorem v_icmp_ltN (C : Cx X μ tab d zR o P) {a b : Nat} {off : Int} {tgt : Nat} (hd : decode μ.2.1 pc = .ok (.if_icmp .lt off, 3)) (ht : (pc : Int) + off = (tgt : Int)) (ha : a < 2 ^ 31) (hb : b < 2 ^ 31) (kt : a < b → V X z w h tgt L st) (kf : b ≤ a → V X z w h (pc + 3) L st) : V X z w h pc L (.int (nI b) :: .int (nI a) :: st) :=
  v_icmp_lt C hd ht (fun q => kt ((nI_ltI ha hb).mp q)) (fun q => kf (Nat.not_lt.mp (fun e => q ((nI_ltI ha hb).mpr e))))
theorem v_icmp_geN (C : Cx X μ tab d zR o P) {a b : Nat} {off : Int} {tgt : Nat} (hd : decode μ.2.1 pc = .ok (.if_icmp .ge off, 3)) (ht : (pc : Int) + off = (tgt : Int)) (ha : a < 2 ^ 31) (hb : b < 2 ^ 31) (kt : b ≤ a → V X z w h tgt L st) (kf : a < b → V X z w h (pc + 3) L st) : V X z w h pc L (.int (nI b) :: .int (nI a) :: st) :=
  v_icmp_ge C hd ht (fun q => kt ((nI_leI hb ha).mp q)) (fun q => kf (Nat.not_le.mp (fun e => q ((nI_leI hb ha).mpr e))))
theorem v_icmp_gtN (C : Cx X μ tab d zR o P) {a b : Nat} {off : Int} {tgt : Nat} (hd : decode μ.2.1 pc = .ok (.if_icmp .gt off, 3)) (ht : (pc : Int) + off = (tgt : Int)) (ha : a < 2 ^ 31) (hb : b < 2 ^ 31) (kt : b < a → V X z w h tgt L st) (kf : a ≤ b → V X z w h (pc + 3) L st) : V X z w h pc L (.int (nI b) :: .int (nI a) :: st) :=
  v_icmp_gt C hd ht (fun q => kt ((nI_ltI hb ha).mp q)) (fun q => kf (Nat.not_lt.mp (fun e => q ((nI_ltI hb ha).mpr e))))
theorem v_icmp_leN (C : Cx X μ tab d zR o P) {a b : Nat} {off : Int} {tgt : Nat} (hd : decode μ.2.1 pc = .ok (.if_icmp .le off, 3)) (ht : (pc : Int) + off = (tgt : Int)) (ha : a < 2 ^ 31) (hb : b < 2 ^ 31) (kt : a ≤ b → V X z w h tgt L st) (kf : b < a → V X z w h (pc + 3) L st) : V X z w h pc L (.int (nI b) :: .int (nI a) :: st) :=
  v_icmp_le C hd ht (fun q => kt ((nI_leI ha hb).mp q)) (fun q => kf (Nat.not_le.mp (fun e => q ((nI_leI ha hb).mpr e))))
theorem nI_z {a : Nat} (ha : a < 2 ^ 31) : nI a = 0 ↔ a = 0 := by
  rw [← nI_0]; exact nI_eq ha (by decide)
theorem v_if_eqN (C : Cx X μ tab d zR o P) {a : Nat} {off : Int} {tgt : Nat} (hd : decode μ.2.1 pc = .ok (.ifCond .eq off, 3)) (ht : (pc : Int) + off = (tgt : Int)) (ha : a < 2 ^ 31) (kt : a = 0 → V X z w h tgt L st) (kf : a ≠ 0 → V X z w h (pc + 3) L st) : V X z w h pc L (.int (nI a) :: st) :=
  v_if_eq C hd ht (fun q => kt ((nI_z ha).mp q)) (fun q => kf (fun e => q ((nI_z ha).mpr e)))
theorem v_if_neN (C : Cx X μ tab d zR o P) {a : Nat} {off : Int} {tgt : Nat} (hd : decode μ.2.1 pc = .ok (.ifCond .ne off, 3)) (ht : (pc : Int) + off = (tgt : Int)) (ha : a < 2 ^ 31) (kt : a ≠ 0 → V X z w h tgt L st) (kf : a = 0 → V X z w h (pc + 3) L st) : V X z w h pc L (.int (nI a) :: st) :=
  v_if_ne C hd ht (fun q => kt (fun e => q ((nI_z ha).mpr e))) (fun q => kf ((nI_z ha).mp q))
theorem v_if_leN (C : Cx X μ tab d zR o P) {a : Nat} {off : Int} {tgt : Nat} (hd : decode μ.2.1 pc = .ok (.ifCond .le off, 3)) (ht : (pc : Int) + off = (tgt : Int)) (ha : a < 2 ^ 31) (kt : a = 0 → V X z w h tgt L st) (kf : 0 < a → V X z w h (pc + 3) L st) : V X z w h pc L (.int (nI a) :: st) :=
  v_if_le C hd ht (fun q => kt (by rcases Nat.eq_zero_or_pos a with h0 | h0; exact h0; exact absurd q (nI_nle h0 ha))) (fun q => kf (by rcases Nat.eq_zero_or_pos a with h0 | h0; (subst h0; exact absurd (by decide) q); exact h0))
theorem v_if_gtN (C : Cx X μ tab d zR o P) {a : Nat} {off : Int} {tgt : Nat} (hd : decode μ.2.1 pc = .ok (.ifCond .gt off, 3)) (ht : (pc : Int) + off = (tgt : Int)) (ha : a < 2 ^ 31) (kt : 0 < a → V X z w h tgt L st) (kf : a = 0 → V X z w h (pc + 3) L st) : V X z w h pc L (.int (nI a) :: st) :=
  v_if_gt C hd ht (fun q => kt (by rcases Nat.eq_zero_or_pos a with h0 | h0; (subst h0; exact absurd q (by decide)); exact h0)) (fun q => kf (by rcases Nat.eq_zero_or_pos a with h0 | h0; exact h0; exact absurd (by rw [← nI_0]; exact nI_lt h0 ha) q))
theorem v_if_ltN (C : Cx X μ tab d zR o P) {a : Nat} {off : Int} (hd : decode μ.2.1 pc = .ok (.ifCond .lt off, 3)) {tgt : Nat} (ht : (pc : Int) + off = (tgt : Int)) (ha : a < 2 ^ 31) (kf : V X z w h (pc + 3) L st) : V X z w h pc L (.int (nI a) :: st) :=
  v_if_lt C hd ht (fun q => absurd q (nI_pos ha)) (fun _ => kf)
theorem v_if_geN (C : Cx X μ tab d zR o P) {a : Nat} {off : Int} {tgt : Nat} (hd : decode μ.2.1 pc = .ok (.ifCond .ge off, 3)) (ht : (pc : Int) + off = (tgt : Int)) (ha : a < 2 ^ 31) (kt : V X z w h tgt L st) : V X z w h pc L (.int (nI a) :: st) :=
  v_if_ge C hd ht (fun _ => kt) (fun q => absurd (nI_pos' ha) q)
def pI (a : Nat) : Int32 := nI a - nI 1
theorem pI_succ (a : Nat) : pI (a + 1) = nI a := nI_pred a
theorem pI_0 : pI 0 = -1 := by decide
theorem v_isubP (C : Cx X μ tab d zR o P) {a : Nat} (hd : decode μ.2.1 pc = .ok (.isub, 1)) (k : V X z w h (pc + 1) L (.int (pI a) :: st)) : V X z w h pc L (.int (nI 1) :: .int (nI a) :: st) := v_isub C hd k
theorem v_idecP (C : Cx X μ tab d zR o P) {i a : Nat} (hd : decode μ.2.1 pc = .ok (.iinc i (-1), 3)) (hr : rdL L i = some (.int (nI a))) (k : V X z w h (pc + 3) (sto1 L i (.int (pI a))) st) : V X z w h pc L st := v_iinc C hd hr (by unfold pI; rw [Int32.sub_eq_add_neg]; rfl) k
theorem v_if_ltP (C : Cx X μ tab d zR o P) {a : Nat} {off : Int} {tgt : Nat} (hd : decode μ.2.1 pc = .ok (.ifCond .lt off, 3)) (ht : (pc : Int) + off = (tgt : Int)) (ha : a < 2 ^ 31) (kt : a = 0 → V X z w h tgt L st) (kf : ∀ b, a = b + 1 → V X z w h (pc + 3) L st) : V X z w h pc L (.int (pI a) :: st) :=
  v_if_lt C hd ht (fun q => kt (by
    cases a with
    | zero => rfl
    | succ b => rw [pI_succ] at q; exact absurd q (nI_pos (by omega)))) (fun q => by
    cases a with
    | zero => exact absurd (by decide) q
    | succ b => exact kf b rfl)
theorem v_if_eqB (C : Cx X μ tab d zR o P) {b : Bool} {off : Int} {tgt : Nat} (hd : decode μ.2.1 pc = .ok (.ifCond .eq off, 3)) (ht : (pc : Int) + off = (tgt : Int)) (kt : b = false → V X z w h tgt L st) (kf : b = true → V X z w h (pc + 3) L st) : V X z w h pc L (.int (bI b) :: st) :=
  v_if_eq C hd ht (fun q => kt (by cases b; rfl; exact absurd q (by decide))) (fun q => kf (by cases b; exact absurd (by decide) q; rfl))
theorem v_if_neB (C : Cx X μ tab d zR o P) {b : Bool} {off : Int} {tgt : Nat} (hd : decode μ.2.1 pc = .ok (.ifCond .ne off, 3)) (ht : (pc : Int) + off = (tgt : Int)) (kt : b = true → V X z w h tgt L st) (kf : b = false → V X z w h (pc + 3) L st) : V X z w h pc L (.int (bI b) :: st) :=
  v_if_ne C hd ht (fun q => kt (by cases b; exact absurd (by decide) q; rfl)) (fun q => kf (by cases b; rfl; exact absurd q (by decide)))
end VS
/-- a row of a method's code, by its place -/
abbrev Ct : Type := List (Nat × Instr × Nat)
def CtOk (b : ByteArray) (t : Ct) : Prop := ∀ e ∈ t, decode b e.1 = .ok (e.2.1, e.2.2)
theorem CtOk.at {b : ByteArray} {t : Ct} (h : CtOk b t) (j : Nat) {pc n : Nat} {i : Instr} (hj : t[j]? = some (pc, i, n)) : decode b pc = .ok (i, n) := h (pc, i, n) (List.mem_of_getElem? hj)
theorem tb1 {w : Cond} (i : Nat) (h : tables_1[i]? = some w) (hg : goodWord w = true) : w ∈ TSg := tsg1 (List.mem_of_getElem? h) hg
theorem tj1 {w : Cond} (i : Nat) (h : tables_1_1[i]? = some w) (hg : goodWord w = true) : w ∈ TSg := tsg1 (List.mem_append_left _ (List.mem_of_getElem? h)) hg
theorem tj2 {w : Cond} (i : Nat) (h : tables_1_2[i]? = some w) (hg : goodWord w = true) : w ∈ TSg := tsg1 (List.mem_append_right _ (List.mem_append_left _ (List.mem_of_getElem? h))) hg
theorem tj3 {w : Cond} (i : Nat) (h : tables_1_3[i]? = some w) (hg : goodWord w = true) : w ∈ TSg := tsg1 (List.mem_append_right _ (List.mem_append_right _ (List.mem_append_left _ (List.mem_of_getElem? h)))) hg
theorem tj4 {w : Cond} (i : Nat) (h : tables_1_4[i]? = some w) (hg : goodWord w = true) : w ∈ TSg := tsg1 (List.mem_append_right _ (List.mem_append_right _ (List.mem_append_right _ (List.mem_append_left _ (List.mem_of_getElem? h))))) hg
theorem tj5 {w : Cond} (i : Nat) (h : tables_1_5[i]? = some w) (hg : goodWord w = true) : w ∈ TSg := tsg1 (List.mem_append_right _ (List.mem_append_right _ (List.mem_append_right _ (List.mem_append_right _ (List.mem_append_left _ (List.mem_of_getElem? h)))))) hg
theorem tj6 {w : Cond} (i : Nat) (h : tables_1_6[i]? = some w) (hg : goodWord w = true) : w ∈ TSg := tsg1 (List.mem_append_right _ (List.mem_append_right _ (List.mem_append_right _ (List.mem_append_right _ (List.mem_append_right _ (List.mem_append_left _ (List.mem_of_getElem? h))))))) hg
theorem tj7 {w : Cond} (i : Nat) (h : tables_1_7[i]? = some w) (hg : goodWord w = true) : w ∈ TSg := tsg1 (List.mem_append_right _ (List.mem_append_right _ (List.mem_append_right _ (List.mem_append_right _ (List.mem_append_right _ (List.mem_append_right _ (List.mem_append_left _ (List.mem_of_getElem? h)))))))) hg
theorem tj8 {w : Cond} (i : Nat) (h : tables_1_8[i]? = some w) (hg : goodWord w = true) : w ∈ TSg := tsg1 (List.mem_append_right _ (List.mem_append_right _ (List.mem_append_right _ (List.mem_append_right _ (List.mem_append_right _ (List.mem_append_right _ (List.mem_append_right _ (List.mem_of_getElem? h)))))))) hg
theorem tb0 {w : Cond} (i : Nat) (h : (k2_sels lw_privs)[i]? = some w) (hg : goodWord w = true) : w ∈ TSg := tsg (List.mem_append_left _ (List.mem_of_getElem? h)) hg
end
section
/-! ===== code tables: class and JDK ===== -/
def mJ7_fill_53178 : Mi := (yJ7_fill_53178, cJ7_fill_53178, 4, none, 2)
def tJ7_fill_53178 : Ct := [(0, .iconst 0, 1), (1, .istore_n 2, 1), (2, .aload_n 0, 1), (3, .arraylength, 1), (4, .istore_n 3, 1), (5, .iload_n 2, 1), (6, .iload_n 3, 1), (7, .if_icmp .ge 13, 3), (10, .aload_n 0, 1), (11, .iload_n 2, 1), (12, .iload_n 1, 1), (13, .iastore, 1), (14, .iinc 2 1, 3), (17, .goto (-12), 3), (20, .return_, 1)]
set_option maxRecDepth 20000 in
theorem oJ7_fill_53178 : CtOk mJ7_fill_53178.2.1 tJ7_fill_53178 := by unfold CtOk; decide +kernel
set_option maxRecDepth 20000 in
theorem kJ7_fill_53178 : MK mJ7_fill_53178 := ⟨tj2 144 (by rfl) rfl, tj1 15 (by rfl) rfl, by decide +kernel, by decide +kernel, by decide +kernel⟩
theorem sJ7_fill_53178 : Cond.static mJ7_fill_53178.1 ∈ TSg := tj2 143 (by rfl) rfl
def mJ7_fill_fda19 : Mi := (yJ7_fill_fda19, cJ7_fill_fda19, 5, none, 4)
def tJ7_fill_fda19 : Ct := [(0, .aload_n 0, 1), (1, .arraylength, 1), (2, .iload_n 1, 1), (3, .iload_n 2, 1), (4, .invokestatic 13, 3), (7, .iload_n 1, 1), (8, .istore 4, 2), (10, .iload 4, 2), (12, .iload_n 2, 1), (13, .if_icmp .ge 14, 3), (16, .aload_n 0, 1), (17, .iload 4, 2), (19, .iload_n 3, 1), (20, .iastore, 1), (21, .iinc 4 1, 3), (24, .goto (-14), 3), (27, .return_, 1)]
set_option maxRecDepth 20000 in
theorem oJ7_fill_fda19 : CtOk mJ7_fill_fda19.2.1 tJ7_fill_fda19 := by unfold CtOk; decide +kernel
set_option maxRecDepth 20000 in
theorem kJ7_fill_fda19 : MK mJ7_fill_fda19 := ⟨tj4 101 (by rfl) rfl, tj1 15 (by rfl) rfl, by decide +kernel, by decide +kernel, by decide +kernel⟩
theorem sJ7_fill_fda19 : Cond.static mJ7_fill_fda19.1 ∈ TSg := tj4 100 (by rfl) rfl
def mJ7_rangeCheck_23922 : Mi := (yJ7_rangeCheck_23922, cJ7_rangeCheck_23922, 3, none, 3)
def tJ7_rangeCheck_23922 : Ct := [(0, .iload_n 1, 1), (1, .iload_n 2, 1), (2, .if_icmp .le 44, 3), (5, .new 43, 3), (8, .dup, 1), (9, .new 45, 3), (12, .dup, 1), (13, .invokespecial 47, 3), (16, .ldc 48, 2), (18, .invokevirtual 50, 3), (21, .iload_n 1, 1), (22, .invokevirtual 54, 3), (25, .ldc 57, 2), (27, .invokevirtual 50, 3), (30, .iload_n 2, 1), (31, .invokevirtual 54, 3), (34, .ldc 59, 2), (36, .invokevirtual 50, 3), (39, .invokevirtual 61, 3), (42, .invokespecial 65, 3), (45, .athrow, 1), (46, .iload_n 1, 1), (47, .ifCond .ge 12, 3), (50, .new 68, 3), (53, .dup, 1), (54, .iload_n 1, 1), (55, .invokespecial 70, 3), (58, .athrow, 1), (59, .iload_n 2, 1), (60, .iload_n 0, 1), (61, .if_icmp .le 12, 3), (64, .new 68, 3), (67, .dup, 1), (68, .iload_n 2, 1), (69, .invokespecial 70, 3), (72, .athrow, 1), (73, .return_, 1)]
set_option maxRecDepth 20000 in
theorem oJ7_rangeCheck_23922 : CtOk mJ7_rangeCheck_23922.2.1 tJ7_rangeCheck_23922 := by unfold CtOk; decide +kernel
set_option maxRecDepth 20000 in
theorem kJ7_rangeCheck_23922 : MK mJ7_rangeCheck_23922 := ⟨tj4 104 (by rfl) rfl, tj1 15 (by rfl) rfl, by decide +kernel, by decide +kernel, by decide +kernel⟩
theorem sJ7_rangeCheck_23922 : Cond.static mJ7_rangeCheck_23922.1 ∈ TSg := tj4 103 (by rfl) rfl
def mJ9_max_7cf53 : Mi := (yJ9_max_7cf53, cJ9_max_7cf53, 2, some .int, 2)
def tJ9_max_7cf53 : Ct := [(0, .iload_n 0, 1), (1, .iload_n 1, 1), (2, .if_icmp .lt 7, 3), (5, .iload_n 0, 1), (6, .goto 4, 3), (9, .iload_n 1, 1), (10, .ireturn, 1)]
set_option maxRecDepth 20000 in
theorem oJ9_max_7cf53 : CtOk mJ9_max_7cf53.2.1 tJ9_max_7cf53 := by unfold CtOk; decide +kernel
set_option maxRecDepth 20000 in
theorem kJ9_max_7cf53 : MK mJ9_max_7cf53 := ⟨tj2 170 (by rfl) rfl, tj1 21 (by rfl) rfl, by decide +kernel, by decide +kernel, by decide +kernel⟩
theorem sJ9_max_7cf53 : Cond.static mJ9_max_7cf53.1 ∈ TSg := tj2 169 (by rfl) rfl
def mJ9_min_7cf53 : Mi := (yJ9_min_7cf53, cJ9_min_7cf53, 2, some .int, 2)
def tJ9_min_7cf53 : Ct := [(0, .iload_n 0, 1), (1, .iload_n 1, 1), (2, .if_icmp .gt 7, 3), (5, .iload_n 0, 1), (6, .goto 4, 3), (9, .iload_n 1, 1), (10, .ireturn, 1)]
set_option maxRecDepth 20000 in
theorem oJ9_min_7cf53 : CtOk mJ9_min_7cf53.2.1 tJ9_min_7cf53 := by unfold CtOk; decide +kernel
set_option maxRecDepth 20000 in
theorem kJ9_min_7cf53 : MK mJ9_min_7cf53 := ⟨tj2 173 (by rfl) rfl, tj1 21 (by rfl) rfl, by decide +kernel, by decide +kernel, by decide +kernel⟩
theorem sJ9_min_7cf53 : Cond.static mJ9_min_7cf53.1 ∈ TSg := tj2 172 (by rfl) rfl
def mJ9_min_f86c9 : Mi := (yJ9_min_f86c9, cJ9_min_f86c9, 4, some .long, 2)
def tJ9_min_f86c9 : Ct := [(0, .lload_n 0, 1), (1, .lload_n 2, 1), (2, .lcmp, 1), (3, .ifCond .gt 7, 3), (6, .lload_n 0, 1), (7, .goto 4, 3), (10, .lload_n 2, 1), (11, .lreturn, 1)]
set_option maxRecDepth 20000 in
theorem oJ9_min_f86c9 : CtOk mJ9_min_f86c9.2.1 tJ9_min_f86c9 := by unfold CtOk; decide +kernel
set_option maxRecDepth 20000 in
theorem kJ9_min_f86c9 : MK mJ9_min_f86c9 := ⟨tj2 129 (by rfl) rfl, tj1 21 (by rfl) rfl, by decide +kernel, by decide +kernel, by decide +kernel⟩
theorem sJ9_min_f86c9 : Cond.static mJ9_min_f86c9.1 ∈ TSg := tj2 128 (by rfl) rfl
def mJ9_floorMod_7cf53 : Mi := (yJ9_floorMod_7cf53, cJ9_floorMod_7cf53, 3, some .int, 2)
def tJ9_floorMod_7cf53 : Ct := [(0, .iload_n 0, 1), (1, .iload_n 1, 1), (2, .irem, 1), (3, .istore_n 2, 1), (4, .iload_n 0, 1), (5, .iload_n 1, 1), (6, .ixor, 1), (7, .ifCond .ge 11, 3), (10, .iload_n 2, 1), (11, .ifCond .eq 7, 3), (14, .iload_n 2, 1), (15, .iload_n 1, 1), (16, .iadd, 1), (17, .ireturn, 1), (18, .iload_n 2, 1), (19, .ireturn, 1)]
set_option maxRecDepth 20000 in
theorem oJ9_floorMod_7cf53 : CtOk mJ9_floorMod_7cf53.2.1 tJ9_floorMod_7cf53 := by unfold CtOk; decide +kernel
set_option maxRecDepth 20000 in
theorem kJ9_floorMod_7cf53 : MK mJ9_floorMod_7cf53 := ⟨tj3 236 (by rfl) rfl, tj1 21 (by rfl) rfl, by decide +kernel, by decide +kernel, by decide +kernel⟩
theorem sJ9_floorMod_7cf53 : Cond.static mJ9_floorMod_7cf53.1 ∈ TSg := tj3 235 (by rfl) rfl
def mJ6_numberOfTrailingZeros_0f7a4 : Mi := (yJ6_numberOfTrailingZeros_0f7a4, cJ6_numberOfTrailingZeros_0f7a4, 2, some .int, 1)
def tJ6_numberOfTrailingZeros_0f7a4 : Ct := [(0, .iload_n 0, 1), (1, .iconst (-1), 1), (2, .ixor, 1), (3, .iload_n 0, 1), (4, .iconst 1, 1), (5, .isub, 1), (6, .iand, 1), (7, .istore_n 0, 1), (8, .iload_n 0, 1), (9, .ifCond .gt 8, 3), (12, .iload_n 0, 1), (13, .bipush 32, 2), (15, .iand, 1), (16, .ireturn, 1), (17, .iconst 1, 1), (18, .istore_n 1, 1), (19, .iload_n 0, 1), (20, .ldc_w 264, 3), (23, .if_icmp .le 11, 3), (26, .iinc 1 16, 3), (29, .iload_n 0, 1), (30, .bipush 16, 2), (32, .iushr, 1), (33, .istore_n 0, 1), (34, .iload_n 0, 1), (35, .sipush 256, 3), (38, .if_icmp .le 11, 3), (41, .iinc 1 8, 3), (44, .iload_n 0, 1), (45, .bipush 8, 2), (47, .iushr, 1), (48, .istore_n 0, 1), (49, .iload_n 0, 1), (50, .bipush 16, 2), (52, .if_icmp .le 10, 3), (55, .iinc 1 4, 3), (58, .iload_n 0, 1), (59, .iconst 4, 1), (60, .iushr, 1), (61, .istore_n 0, 1), (62, .iload_n 0, 1), (63, .iconst 4, 1), (64, .if_icmp .le 10, 3), (67, .iinc 1 2, 3), (70, .iload_n 0, 1), (71, .iconst 2, 1), (72, .iushr, 1), (73, .istore_n 0, 1), (74, .iload_n 1, 1), (75, .iload_n 0, 1), (76, .iconst 1, 1), (77, .iushr, 1), (78, .iadd, 1), (79, .ireturn, 1)]
set_option maxRecDepth 20000 in
theorem oJ6_numberOfTrailingZeros_0f7a4 : CtOk mJ6_numberOfTrailingZeros_0f7a4.2.1 tJ6_numberOfTrailingZeros_0f7a4 := by unfold CtOk; decide +kernel
set_option maxRecDepth 20000 in
theorem kJ6_numberOfTrailingZeros_0f7a4 : MK mJ6_numberOfTrailingZeros_0f7a4 := ⟨tj6 119 (by rfl) rfl, tj1 30 (by rfl) rfl, by decide +kernel, by decide +kernel, by decide +kernel⟩
theorem sJ6_numberOfTrailingZeros_0f7a4 : Cond.static mJ6_numberOfTrailingZeros_0f7a4.1 ∈ TSg := tj6 118 (by rfl) rfl
def mX0_add : Mi := (yX0_add, cX0_add, 2, none, 1)
def tX0_add : Ct := [(0, .aload_n 0, 1), (1, .getfield 19, 3), (4, .aload_n 0, 1), (5, .getfield 7, 3), (8, .iload_n 1, 1), (9, .iastore, 1), (10, .aload_n 0, 1), (11, .dup, 1), (12, .getfield 7, 3), (15, .iconst 1, 1), (16, .iadd, 1), (17, .putfield 7, 3), (20, .return_, 1)]
set_option maxRecDepth 20000 in
theorem oX0_add : CtOk mX0_add.2.1 tX0_add := by unfold CtOk; decide +kernel
set_option maxRecDepth 20000 in
theorem kX0_add : MK mX0_add := ⟨tj3 154 (by rfl) rfl, tj1 4 (by rfl) rfl, by decide +kernel, by decide +kernel, by decide +kernel⟩
theorem vX0_add : MKv mX0_add 0 := ⟨tj3 152 (by rfl) rfl, tj3 153 (by rfl) rfl, _, _, rfl⟩
def mX0_read : Mi := (yX0_read, cX0_read, 4, none, 1)
def tX0_read : Ct := [(0, .aload_n 0, 1), (1, .iconst 0, 1), (2, .putfield 13, 3), (5, .aload_n 0, 1), (6, .iconst (-1), 1), (7, .putfield 16, 3), (10, .aload_n 0, 1), (11, .iconst 0, 1), (12, .putfield 37, 3), (15, .aload_n 0, 1), (16, .iconst 0, 1), (17, .putfield 40, 3), (20, .iconst 0, 1), (21, .istore_n 2, 1), (22, .iconst 0, 1), (23, .istore_n 3, 1), (24, .iload_n 3, 1), (25, .aload_n 0, 1), (26, .getfield 7, 3), (29, .if_icmp .ge 35, 3), (32, .aload_n 0, 1), (33, .iload_n 2, 1), (34, .aload_n 0, 1), (35, .getfield 19, 3), (38, .iload_n 3, 1), (39, .iaload, 1), (40, .iload_n 1, 1), (41, .invokevirtual 43, 3), (44, .istore_n 2, 1), (45, .aload_n 0, 1), (46, .getfield 13, 3), (49, .ifCond .eq 9, 3), (52, .aload_n 0, 1), (53, .iload_n 3, 1), (54, .putfield 16, 3), (57, .return_, 1), (58, .iinc 3 1, 3), (61, .goto (-37), 3), (64, .aload_n 0, 1), (65, .iconst 1, 1), (66, .invokevirtual 47, 3), (69, .iload_n 2, 1), (70, .iconst 1, 1), (71, .if_icmp .ne 10, 3), (74, .aload_n 0, 1), (75, .getfield 40, 3), (78, .ifCond .eq 16, 3), (81, .aload_n 0, 1), (82, .iconst 2, 1), (83, .putfield 13, 3), (86, .aload_n 0, 1), (87, .aload_n 0, 1), (88, .getfield 7, 3), (91, .putfield 16, 3), (94, .return_, 1)]
set_option maxRecDepth 20000 in
theorem oX0_read : CtOk mX0_read.2.1 tX0_read := by unfold CtOk; decide +kernel
set_option maxRecDepth 20000 in
theorem kX0_read : MK mX0_read := ⟨tj3 179 (by rfl) rfl, tj1 4 (by rfl) rfl, by decide +kernel, by decide +kernel, by decide +kernel⟩
theorem vX0_read : MKv mX0_read 0 := ⟨tj3 177 (by rfl) rfl, tj3 178 (by rfl) rfl, _, _, rfl⟩
def mX0_readSign : Mi := (yX0_readSign, cX0_readSign, 4, some .int, 3)
def tX0_readSign : Ct := [(0, .iload_n 1, 1), (1, .tableswitch 115 0 4 #[35, 42, 48, 73, 94], 35), (36, .aload_n 0, 1), (37, .iload_n 2, 1), (38, .iload_n 3, 1), (39, .invokevirtual 51, 3), (42, .ireturn, 1), (43, .aload_n 0, 1), (44, .iload_n 2, 1), (45, .invokevirtual 55, 3), (48, .ireturn, 1), (49, .iload_n 2, 1), (50, .bipush 105, 2), (52, .if_icmp .ne 7, 3), (55, .iconst 3, 1), (56, .goto 17, 3), (59, .iload_n 2, 1), (60, .bipush 97, 2), (62, .if_icmp .ne 7, 3), (65, .iconst 4, 1), (66, .goto 7, 3), (69, .aload_n 0, 1), (70, .invokevirtual 59, 3), (73, .ireturn, 1), (74, .iload_n 2, 1), (75, .bipush 110, 2), (77, .if_icmp .ne 13, 3), (80, .aload_n 0, 1), (81, .bipush 78, 2), (83, .iconst 5, 1), (84, .invokevirtual 63, 3), (87, .goto 7, 3), (90, .aload_n 0, 1), (91, .invokevirtual 59, 3), (94, .ireturn, 1), (95, .iload_n 2, 1), (96, .bipush 120, 2), (98, .if_icmp .ne 13, 3), (101, .aload_n 0, 1), (102, .bipush 88, 2), (104, .iconst 5, 1), (105, .invokevirtual 63, 3), (108, .goto 7, 3), (111, .aload_n 0, 1), (112, .invokevirtual 59, 3), (115, .ireturn, 1), (116, .iload_n 2, 1), (117, .bipush 40, 2), (119, .if_icmp .ne 7, 3), (122, .iconst 0, 1), (123, .goto 7, 3), (126, .aload_n 0, 1), (127, .invokevirtual 59, 3), (130, .ireturn, 1)]
set_option maxRecDepth 20000 in
theorem oX0_readSign : CtOk mX0_readSign.2.1 tX0_readSign := by unfold CtOk; decide +kernel
set_option maxRecDepth 20000 in
theorem kX0_readSign : MK mX0_readSign := ⟨tj3 183 (by rfl) rfl, tj1 4 (by rfl) rfl, by decide +kernel, by decide +kernel, by decide +kernel⟩
theorem vX0_readSign : MKv mX0_readSign 0 := ⟨tj3 182 (by rfl) rfl, tb0 6 (by rfl) rfl, _, _, rfl⟩
def mX0_readOperand : Mi := (yX0_readOperand, cX0_readOperand, 3, some .int, 2)
def tX0_readOperand : Ct := [(0, .iload_n 1, 1), (1, .bipush 97, 2), (3, .if_icmp .lt 24, 3), (6, .iload_n 1, 1), (7, .bipush 100, 2), (9, .if_icmp .gt 18, 3), (12, .iload_n 1, 1), (13, .bipush 97, 2), (15, .isub, 1), (16, .iload_n 2, 1), (17, .if_icmp .lt 10, 3), (20, .aload_n 0, 1), (21, .iconst 3, 1), (22, .putfield 13, 3), (25, .iconst 0, 1), (26, .ireturn, 1), (27, .iload_n 1, 1), (28, .bipush 48, 2), (30, .if_icmp .lt 9, 3), (33, .iload_n 1, 1), (34, .bipush 57, 2), (36, .if_icmp .le 15, 3), (39, .iload_n 1, 1), (40, .bipush 97, 2), (42, .if_icmp .lt 19, 3), (45, .iload_n 1, 1), (46, .bipush 100, 2), (48, .if_icmp .gt 13, 3), (51, .aload_n 0, 1), (52, .iload_n 1, 1), (53, .invokevirtual 66, 3), (56, .aload_n 0, 1), (57, .invokevirtual 69, 3), (60, .ireturn, 1), (61, .iload_n 1, 1), (62, .bipush 33, 2), (64, .if_icmp .eq 9, 3), (67, .iload_n 1, 1), (68, .bipush 40, 2), (70, .if_icmp .ne 10, 3), (73, .aload_n 0, 1), (74, .iload_n 1, 1), (75, .iconst 0, 1), (76, .invokevirtual 63, 3), (79, .ireturn, 1), (80, .iload_n 1, 1), (81, .bipush 109, 2), (83, .if_icmp .ne 7, 3), (86, .iconst 2, 1), (87, .goto 7, 3), (90, .aload_n 0, 1), (91, .invokevirtual 59, 3), (94, .ireturn, 1)]
set_option maxRecDepth 20000 in
theorem oX0_readOperand : CtOk mX0_readOperand.2.1 tX0_readOperand := by unfold CtOk; decide +kernel
set_option maxRecDepth 20000 in
theorem kX0_readOperand : MK mX0_readOperand := ⟨tj3 187 (by rfl) rfl, tj1 4 (by rfl) rfl, by decide +kernel, by decide +kernel, by decide +kernel⟩
theorem vX0_readOperand : MKv mX0_readOperand 0 := ⟨tj3 186 (by rfl) rfl, tb0 7 (by rfl) rfl, _, _, rfl⟩
def mX0_readOperator : Mi := (yX0_readOperator, cX0_readOperator, 4, some .int, 1)
def tX0_readOperator : Ct := [(0, .iload_n 1, 1), (1, .invokestatic 72, 3), (4, .istore_n 2, 1), (5, .iload_n 2, 1), (6, .ifCond .le 42, 3), (9, .aload_n 0, 1), (10, .iload_n 2, 1), (11, .iconst 2, 1), (12, .invokestatic 75, 3), (15, .invokevirtual 47, 3), (18, .iload_n 2, 1), (19, .iconst 1, 1), (20, .if_icmp .ne 21, 3), (23, .aload_n 0, 1), (24, .invokevirtual 80, 3), (27, .invokestatic 72, 3), (30, .iconst 1, 1), (31, .if_icmp .ne 10, 3), (34, .aload_n 0, 1), (35, .invokevirtual 59, 3), (38, .goto 9, 3), (41, .aload_n 0, 1), (42, .iload_n 1, 1), (43, .iconst 0, 1), (44, .invokevirtual 63, 3), (47, .ireturn, 1), (48, .aload_n 0, 1), (49, .iconst 1, 1), (50, .invokevirtual 47, 3), (53, .aload_n 0, 1), (54, .invokevirtual 80, 3), (57, .istore_n 3, 1), (58, .iload_n 1, 1), (59, .bipush 44, 2), (61, .if_icmp .ne 44, 3), (64, .iload_n 3, 1), (65, .bipush 78, 2), (67, .if_icmp .eq 9, 3), (70, .iload_n 3, 1), (71, .bipush 88, 2), (73, .if_icmp .ne 32, 3), (76, .aload_n 0, 1), (77, .dup, 1), (78, .getfield 40, 3), (81, .iconst 1, 1), (82, .isub, 1), (83, .putfield 40, 3), (86, .aload_n 0, 1), (87, .iload_n 3, 1), (88, .bipush 78, 2), (90, .if_icmp .ne 8, 3), (93, .bipush 110, 2), (95, .goto 5, 3), (98, .bipush 120, 2), (100, .iconst 0, 1), (101, .invokevirtual 63, 3), (104, .ireturn, 1), (105, .iload_n 1, 1), (106, .bipush 41, 2), (108, .if_icmp .ne 47, 3), (111, .iload_n 3, 1), (112, .bipush 40, 2), (114, .if_icmp .eq 15, 3), (117, .iload_n 3, 1), (118, .bipush 110, 2), (120, .if_icmp .eq 9, 3), (123, .iload_n 3, 1), (124, .bipush 120, 2), (126, .if_icmp .ne 29, 3), (129, .aload_n 0, 1), (130, .dup, 1), (131, .getfield 40, 3), (134, .iconst 1, 1), (135, .isub, 1), (136, .putfield 40, 3), (139, .iload_n 3, 1), (140, .bipush 40, 2), (142, .if_icmp .eq 8, 3), (145, .aload_n 0, 1), (146, .iload_n 3, 1), (147, .invokevirtual 66, 3), (150, .aload_n 0, 1), (151, .invokevirtual 69, 3), (154, .ireturn, 1), (155, .aload_n 0, 1), (156, .invokevirtual 59, 3), (159, .ireturn, 1)]
set_option maxRecDepth 20000 in
theorem oX0_readOperator : CtOk mX0_readOperator.2.1 tX0_readOperator := by unfold CtOk; decide +kernel
set_option maxRecDepth 20000 in
theorem kX0_readOperator : MK mX0_readOperator := ⟨tj3 211 (by rfl) rfl, tj1 4 (by rfl) rfl, by decide +kernel, by decide +kernel, by decide +kernel⟩
theorem vX0_readOperator : MKv mX0_readOperator 0 := ⟨tj3 210 (by rfl) rfl, tb0 13 (by rfl) rfl, _, _, rfl⟩
def mX0_refuse : Mi := (yX0_refuse, cX0_refuse, 1, some .int, 0)
def tX0_refuse : Ct := [(0, .aload_n 0, 1), (1, .iconst 1, 1), (2, .putfield 13, 3), (5, .iconst 0, 1), (6, .ireturn, 1)]
set_option maxRecDepth 20000 in
theorem oX0_refuse : CtOk mX0_refuse.2.1 tX0_refuse := by unfold CtOk; decide +kernel
set_option maxRecDepth 20000 in
theorem kX0_refuse : MK mX0_refuse := ⟨tj3 207 (by rfl) rfl, tj1 4 (by rfl) rfl, by decide +kernel, by decide +kernel, by decide +kernel⟩
theorem vX0_refuse : MKv mX0_refuse 0 := ⟨tj3 206 (by rfl) rfl, tb0 12 (by rfl) rfl, _, _, rfl⟩
def mX0_hold : Mi := (yX0_hold, cX0_hold, 3, some .int, 2)
def tX0_hold : Ct := [(0, .aload_n 0, 1), (1, .getfield 26, 3), (4, .aload_n 0, 1), (5, .getfield 40, 3), (8, .iload_n 1, 1), (9, .iastore, 1), (10, .aload_n 0, 1), (11, .dup, 1), (12, .getfield 40, 3), (15, .iconst 1, 1), (16, .iadd, 1), (17, .putfield 40, 3), (20, .iload_n 2, 1), (21, .ireturn, 1)]
set_option maxRecDepth 20000 in
theorem oX0_hold : CtOk mX0_hold.2.1 tX0_hold := by unfold CtOk; decide +kernel
set_option maxRecDepth 20000 in
theorem kX0_hold : MK mX0_hold := ⟨tj3 203 (by rfl) rfl, tj1 4 (by rfl) rfl, by decide +kernel, by decide +kernel, by decide +kernel⟩
theorem vX0_hold : MKv mX0_hold 0 := ⟨tj3 202 (by rfl) rfl, tb0 11 (by rfl) rfl, _, _, rfl⟩
def mX0_lastWaiting : Mi := (yX0_lastWaiting, cX0_lastWaiting, 1, some .int, 0)
def tX0_lastWaiting : Ct := [(0, .aload_n 0, 1), (1, .getfield 40, 3), (4, .ifCond .le 17, 3), (7, .aload_n 0, 1), (8, .getfield 26, 3), (11, .aload_n 0, 1), (12, .getfield 40, 3), (15, .iconst 1, 1), (16, .isub, 1), (17, .iaload, 1), (18, .goto 4, 3), (21, .iconst 0, 1), (22, .ireturn, 1)]
set_option maxRecDepth 20000 in
theorem oX0_lastWaiting : CtOk mX0_lastWaiting.2.1 tX0_lastWaiting := by unfold CtOk; decide +kernel
set_option maxRecDepth 20000 in
theorem kX0_lastWaiting : MK mX0_lastWaiting := ⟨tj3 199 (by rfl) rfl, tj1 4 (by rfl) rfl, by decide +kernel, by decide +kernel, by decide +kernel⟩
theorem vX0_lastWaiting : MKv mX0_lastWaiting 0 := ⟨tj3 198 (by rfl) rfl, tb0 10 (by rfl) rfl, _, _, rfl⟩
def mX0_emit : Mi := (yX0_emit, cX0_emit, 2, none, 1)
def tX0_emit : Ct := [(0, .aload_n 0, 1), (1, .getfield 23, 3), (4, .aload_n 0, 1), (5, .getfield 37, 3), (8, .iload_n 1, 1), (9, .iastore, 1), (10, .aload_n 0, 1), (11, .dup, 1), (12, .getfield 37, 3), (15, .iconst 1, 1), (16, .iadd, 1), (17, .putfield 37, 3), (20, .return_, 1)]
set_option maxRecDepth 20000 in
theorem oX0_emit : CtOk mX0_emit.2.1 tX0_emit := by unfold CtOk; decide +kernel
set_option maxRecDepth 20000 in
theorem kX0_emit : MK mX0_emit := ⟨tj3 191 (by rfl) rfl, tj1 4 (by rfl) rfl, by decide +kernel, by decide +kernel, by decide +kernel⟩
theorem vX0_emit : MKv mX0_emit 0 := ⟨tj3 190 (by rfl) rfl, tb0 8 (by rfl) rfl, _, _, rfl⟩
def mX0_endFactor : Mi := (yX0_endFactor, cX0_endFactor, 1, some .int, 0)
def tX0_endFactor : Ct := [(0, .aload_n 0, 1), (1, .getfield 40, 3), (4, .ifCond .le 31, 3), (7, .aload_n 0, 1), (8, .invokevirtual 80, 3), (11, .bipush 33, 2), (13, .if_icmp .ne 22, 3), (16, .aload_n 0, 1), (17, .dup, 1), (18, .getfield 40, 3), (21, .iconst 1, 1), (22, .isub, 1), (23, .putfield 40, 3), (26, .aload_n 0, 1), (27, .bipush 33, 2), (29, .invokevirtual 66, 3), (32, .goto (-32), 3), (35, .iconst 1, 1), (36, .ireturn, 1)]
set_option maxRecDepth 20000 in
theorem oX0_endFactor : CtOk mX0_endFactor.2.1 tX0_endFactor := by unfold CtOk; decide +kernel
set_option maxRecDepth 20000 in
theorem kX0_endFactor : MK mX0_endFactor := ⟨tj3 195 (by rfl) rfl, tj1 4 (by rfl) rfl, by decide +kernel, by decide +kernel, by decide +kernel⟩
theorem vX0_endFactor : MKv mX0_endFactor 0 := ⟨tj3 194 (by rfl) rfl, tb0 9 (by rfl) rfl, _, _, rfl⟩
def mX0_moveOperators : Mi := (yX0_moveOperators, cX0_moveOperators, 2, none, 1)
def tX0_moveOperators : Ct := [(0, .aload_n 0, 1), (1, .getfield 40, 3), (4, .ifCond .le 35, 3), (7, .aload_n 0, 1), (8, .invokevirtual 80, 3), (11, .invokestatic 72, 3), (14, .iload_n 1, 1), (15, .if_icmp .lt 24, 3), (18, .aload_n 0, 1), (19, .aload_n 0, 1), (20, .invokevirtual 80, 3), (23, .invokevirtual 66, 3), (26, .aload_n 0, 1), (27, .dup, 1), (28, .getfield 40, 3), (31, .iconst 1, 1), (32, .isub, 1), (33, .putfield 40, 3), (36, .goto (-36), 3), (39, .return_, 1)]
set_option maxRecDepth 20000 in
theorem oX0_moveOperators : CtOk mX0_moveOperators.2.1 tX0_moveOperators := by unfold CtOk; decide +kernel
set_option maxRecDepth 20000 in
theorem kX0_moveOperators : MK mX0_moveOperators := ⟨tj3 219 (by rfl) rfl, tj1 4 (by rfl) rfl, by decide +kernel, by decide +kernel, by decide +kernel⟩
theorem vX0_moveOperators : MKv mX0_moveOperators 0 := ⟨tj3 218 (by rfl) rfl, tb0 14 (by rfl) rfl, _, _, rfl⟩
def mX0_rankOf : Mi := (yX0_rankOf, cX0_rankOf, 1, some .int, 1)
def tX0_rankOf : Ct := [(0, .iload_n 0, 1), (1, .tableswitch 121 37 61 #[119, 121, 121, 121, 121, 119, 117, 121, 117, 121, 119, 121, 121, 121, 121, 121, 121, 121, 121, 121, 121, 121, 121, 115, 115], 115), (116, .iconst 1, 1), (117, .ireturn, 1), (118, .iconst 2, 1), (119, .ireturn, 1), (120, .iconst 3, 1), (121, .ireturn, 1), (122, .iconst 0, 1), (123, .ireturn, 1)]
set_option maxRecDepth 20000 in
theorem oX0_rankOf : CtOk mX0_rankOf.2.1 tX0_rankOf := by unfold CtOk; decide +kernel
set_option maxRecDepth 20000 in
theorem kX0_rankOf : MK mX0_rankOf := ⟨tj3 214 (by rfl) rfl, tj1 4 (by rfl) rfl, by decide +kernel, by decide +kernel, by decide +kernel⟩
theorem sX0_rankOf : Cond.static mX0_rankOf.1 ∈ TSg := tj3 213 (by rfl) rfl
def mX0_evaluate : Mi := (yX0_evaluate, cX0_evaluate, 5, none, 2)
def tX0_evaluate : Ct := [(0, .iconst 0, 1), (1, .istore_n 3, 1), (2, .iload_n 3, 1), (3, .aload_n 1, 1), (4, .getfield 83, 3), (7, .if_icmp .ge 67, 3), (10, .aload_n 1, 1), (11, .iload_n 3, 1), (12, .aload_n 1, 1), (13, .getfield 86, 3), (16, .aload_n 0, 1), (17, .getfield 34, 3), (20, .invokevirtual 89, 3), (23, .aload_n 0, 1), (24, .invokevirtual 93, 3), (27, .istore 4, 2), (29, .aload_n 0, 1), (30, .getfield 13, 3), (33, .ifCond .eq 9, 3), (36, .aload_n 0, 1), (37, .iload_n 3, 1), (38, .putfield 16, 3), (41, .return_, 1), (42, .aload_n 2, 1), (43, .iload_n 3, 1), (44, .aload_n 1, 1), (45, .getfield 96, 3), (48, .iconst 2, 1), (49, .if_icmp .ne 12, 3), (52, .iload 4, 2), (54, .iconst 2, 1), (55, .invokestatic 99, 3), (58, .goto 9, 3), (61, .iload 4, 2), (63, .iconst 3, 1), (64, .invokestatic 99, 3), (67, .iastore, 1), (68, .iinc 3 1, 3), (71, .goto (-69), 3), (74, .return_, 1)]
set_option maxRecDepth 20000 in
theorem oX0_evaluate : CtOk mX0_evaluate.2.1 tX0_evaluate := by unfold CtOk; decide +kernel
set_option maxRecDepth 20000 in
theorem kX0_evaluate : MK mX0_evaluate := ⟨tj3 223 (by rfl) rfl, tj1 4 (by rfl) rfl, by decide +kernel, by decide +kernel, by decide +kernel⟩
theorem vX0_evaluate : MKv mX0_evaluate 0 := ⟨tj3 221 (by rfl) rfl, tj3 222 (by rfl) rfl, _, _, rfl⟩
def mX0_valueForCells : Mi := (yX0_valueForCells, cX0_valueForCells, 4, some .int, 0)
def tX0_valueForCells : Ct := [(0, .iconst 0, 1), (1, .istore_n 1, 1), (2, .iconst 0, 1), (3, .istore_n 2, 1), (4, .iload_n 2, 1), (5, .aload_n 0, 1), (6, .getfield 37, 3), (9, .if_icmp .ge 149, 3), (12, .aload_n 0, 1), (13, .getfield 23, 3), (16, .iload_n 2, 1), (17, .iaload, 1), (18, .istore_n 3, 1), (19, .iload_n 3, 1), (20, .bipush 48, 2), (22, .if_icmp .lt 25, 3), (25, .iload_n 3, 1), (26, .bipush 57, 2), (28, .if_icmp .gt 19, 3), (31, .aload_n 0, 1), (32, .getfield 29, 3), (35, .iload_n 1, 1), (36, .iload_n 3, 1), (37, .bipush 48, 2), (39, .isub, 1), (40, .iastore, 1), (41, .iinc 1 1, 3), (44, .goto 108, 3), (47, .iload_n 3, 1), (48, .bipush 97, 2), (50, .if_icmp .lt 30, 3), (53, .iload_n 3, 1), (54, .bipush 100, 2), (56, .if_icmp .gt 24, 3), (59, .aload_n 0, 1), (60, .getfield 29, 3), (63, .iload_n 1, 1), (64, .aload_n 0, 1), (65, .getfield 34, 3), (68, .iload_n 3, 1), (69, .bipush 97, 2), (71, .isub, 1), (72, .iaload, 1), (73, .iastore, 1), (74, .iinc 1 1, 3), (77, .goto 75, 3), (80, .iload_n 3, 1), (81, .bipush 33, 2), (83, .if_icmp .ne 30, 3), (86, .aload_n 0, 1), (87, .getfield 29, 3), (90, .iload_n 1, 1), (91, .iconst 1, 1), (92, .isub, 1), (93, .aload_n 0, 1), (94, .getfield 29, 3), (97, .iload_n 1, 1), (98, .iconst 1, 1), (99, .isub, 1), (100, .iaload, 1), (101, .ifCond .ne 7, 3), (104, .iconst 1, 1), (105, .goto 4, 3), (108, .iconst 0, 1), (109, .iastore, 1), (110, .goto 42, 3), (113, .iinc 1 (-1), 3), (116, .aload_n 0, 1), (117, .getfield 29, 3), (120, .iload_n 1, 1), (121, .iconst 1, 1), (122, .isub, 1), (123, .aload_n 0, 1), (124, .iload_n 3, 1), (125, .aload_n 0, 1), (126, .getfield 29, 3), (129, .iload_n 1, 1), (130, .iconst 1, 1), (131, .isub, 1), (132, .iaload, 1), (133, .aload_n 0, 1), (134, .getfield 29, 3), (137, .iload_n 1, 1), (138, .iaload, 1), (139, .invokevirtual 102, 3), (142, .iastore, 1), (143, .aload_n 0, 1), (144, .getfield 13, 3), (147, .ifCond .eq 5, 3), (150, .iconst 0, 1), (151, .ireturn, 1), (152, .iinc 2 1, 3), (155, .goto (-151), 3), (158, .aload_n 0, 1), (159, .getfield 29, 3), (162, .iconst 0, 1), (163, .iaload, 1), (164, .ireturn, 1)]
set_option maxRecDepth 20000 in
theorem oX0_valueForCells : CtOk mX0_valueForCells.2.1 tX0_valueForCells := by unfold CtOk; decide +kernel
set_option maxRecDepth 20000 in
theorem kX0_valueForCells : MK mX0_valueForCells := ⟨tj3 228 (by rfl) rfl, tj1 4 (by rfl) rfl, by decide +kernel, by decide +kernel, by decide +kernel⟩
theorem vX0_valueForCells : MKv mX0_valueForCells 0 := ⟨tj3 227 (by rfl) rfl, tb0 15 (by rfl) rfl, _, _, rfl⟩
def mX0_combine : Mi := (yX0_combine, cX0_combine, 4, some .int, 3)
def tX0_combine : Ct := [(0, .iload_n 1, 1), (1, .lookupswitch 145 #[(37, 102), (42, 83), (43, 75), (45, 79), (47, 87), (60, 128), (61, 117), (110, 139)], 75), (76, .iload_n 2, 1), (77, .iload_n 3, 1), (78, .iadd, 1), (79, .ireturn, 1), (80, .iload_n 2, 1), (81, .iload_n 3, 1), (82, .isub, 1), (83, .ireturn, 1), (84, .iload_n 2, 1), (85, .iload_n 3, 1), (86, .imul, 1), (87, .ireturn, 1), (88, .iload_n 3, 1), (89, .ifCond .ne 10, 3), (92, .aload_n 0, 1), (93, .iconst 4, 1), (94, .putfield 13, 3), (97, .iconst 0, 1), (98, .ireturn, 1), (99, .iload_n 2, 1), (100, .iload_n 3, 1), (101, .idiv, 1), (102, .ireturn, 1), (103, .iload_n 3, 1), (104, .ifCond .ne 10, 3), (107, .aload_n 0, 1), (108, .iconst 5, 1), (109, .putfield 13, 3), (112, .iconst 0, 1), (113, .ireturn, 1), (114, .iload_n 2, 1), (115, .iload_n 3, 1), (116, .irem, 1), (117, .ireturn, 1), (118, .iload_n 2, 1), (119, .iload_n 3, 1), (120, .if_icmp .ne 7, 3), (123, .iconst 1, 1), (124, .goto 4, 3), (127, .iconst 0, 1), (128, .ireturn, 1), (129, .iload_n 2, 1), (130, .iload_n 3, 1), (131, .if_icmp .ge 7, 3), (134, .iconst 1, 1), (135, .goto 4, 3), (138, .iconst 0, 1), (139, .ireturn, 1), (140, .iload_n 2, 1), (141, .iload_n 3, 1), (142, .invokestatic 105, 3), (145, .ireturn, 1), (146, .iload_n 2, 1), (147, .iload_n 3, 1), (148, .invokestatic 75, 3), (151, .ireturn, 1)]
set_option maxRecDepth 20000 in
theorem oX0_combine : CtOk mX0_combine.2.1 tX0_combine := by unfold CtOk; decide +kernel
set_option maxRecDepth 20000 in
theorem kX0_combine : MK mX0_combine := ⟨tj3 232 (by rfl) rfl, tj1 4 (by rfl) rfl, by decide +kernel, by decide +kernel, by decide +kernel⟩
theorem vX0_combine : MKv mX0_combine 0 := ⟨tj3 231 (by rfl) rfl, tb0 16 (by rfl) rfl, _, _, rfl⟩
def mX1_imageOf : Mi := (yX1_imageOf, cX1_imageOf, 4, some .int, 3)
def tX1_imageOf : Ct := [(0, .aload_n 1, 1), (1, .iload_n 3, 1), (2, .iload_n 2, 1), (3, .aload_n 0, 1), (4, .getfield 11, 3), (7, .invokevirtual 20, 3), (10, .aload_n 0, 1), (11, .aload_n 1, 1), (12, .iload_n 2, 1), (13, .aload_n 1, 1), (14, .getfield 24, 3), (17, .isub, 1), (18, .iconst 1, 1), (19, .iadd, 1), (20, .invokevirtual 28, 3), (23, .ireturn, 1)]
set_option maxRecDepth 20000 in
theorem oX1_imageOf : CtOk mX1_imageOf.2.1 tX1_imageOf := by unfold CtOk; decide +kernel
set_option maxRecDepth 20000 in
theorem kX1_imageOf : MK mX1_imageOf := ⟨tj4 25 (by rfl) rfl, tj1 5 (by rfl) rfl, by decide +kernel, by decide +kernel, by decide +kernel⟩
theorem vX1_imageOf : MKv mX1_imageOf 1 := ⟨tj4 23 (by rfl) rfl, tj4 24 (by rfl) rfl, _, _, rfl⟩
def mX1_cyclicImageOf : Mi := (yX1_cyclicImageOf, cX1_cyclicImageOf, 5, some .int, 3)
def tX1_cyclicImageOf : Ct := [(0, .aload_n 1, 1), (1, .iload_n 3, 1), (2, .iload_n 2, 1), (3, .aload_n 0, 1), (4, .getfield 11, 3), (7, .invokevirtual 20, 3), (10, .iconst 0, 1), (11, .istore 4, 2), (13, .iload 4, 2), (15, .aload_n 1, 1), (16, .getfield 24, 3), (19, .iconst 1, 1), (20, .isub, 1), (21, .if_icmp .ge 25, 3), (24, .aload_n 0, 1), (25, .getfield 11, 3), (28, .iload_n 2, 1), (29, .iload 4, 2), (31, .iadd, 1), (32, .aload_n 0, 1), (33, .getfield 11, 3), (36, .iload 4, 2), (38, .iaload, 1), (39, .iastore, 1), (40, .iinc 4 1, 3), (43, .goto (-30), 3), (46, .aload_n 0, 1), (47, .aload_n 1, 1), (48, .iload_n 2, 1), (49, .invokevirtual 28, 3), (52, .ireturn, 1)]
set_option maxRecDepth 20000 in
theorem oX1_cyclicImageOf : CtOk mX1_cyclicImageOf.2.1 tX1_cyclicImageOf := by unfold CtOk; decide +kernel
set_option maxRecDepth 20000 in
theorem kX1_cyclicImageOf : MK mX1_cyclicImageOf := ⟨tj4 85 (by rfl) rfl, tj1 5 (by rfl) rfl, by decide +kernel, by decide +kernel, by decide +kernel⟩
theorem vX1_cyclicImageOf : MKv mX1_cyclicImageOf 1 := ⟨tj4 83 (by rfl) rfl, tj4 84 (by rfl) rfl, _, _, rfl⟩
def mX1_readLabels : Mi := (yX1_readLabels, cX1_readLabels, 7, some .int, 2)
def tX1_readLabels : Ct := [(0, .iconst 0, 1), (1, .istore_n 3, 1), (2, .iconst 0, 1), (3, .istore 4, 2), (5, .iload 4, 2), (7, .aload_n 1, 1), (8, .getfield 24, 3), (11, .iconst 1, 1), (12, .isub, 1), (13, .if_icmp .ge 24, 3), (16, .iload_n 3, 1), (17, .aload_n 1, 1), (18, .getfield 32, 3), (21, .imul, 1), (22, .aload_n 0, 1), (23, .getfield 11, 3), (26, .iload 4, 2), (28, .iaload, 1), (29, .iadd, 1), (30, .istore_n 3, 1), (31, .iinc 4 1, 3), (34, .goto (-29), 3), (37, .iconst 0, 1), (38, .istore 4, 2), (40, .iconst 0, 1), (41, .istore 5, 2), (43, .iload 5, 2), (45, .iload_n 2, 1), (46, .if_icmp .ge 57, 3), (49, .iload_n 3, 1), (50, .aload_n 1, 1), (51, .getfield 32, 3), (54, .imul, 1), (55, .aload_n 0, 1), (56, .getfield 11, 3), (59, .iload 5, 2), (61, .aload_n 1, 1), (62, .getfield 24, 3), (65, .iadd, 1), (66, .iconst 1, 1), (67, .isub, 1), (68, .iaload, 1), (69, .iadd, 1), (70, .istore 6, 2), (72, .iload 4, 2), (74, .aload_n 1, 1), (75, .getfield 32, 3), (78, .imul, 1), (79, .aload_n 1, 1), (80, .getfield 35, 3), (83, .iload 6, 2), (85, .iaload, 1), (86, .iadd, 1), (87, .istore 4, 2), (89, .aload_n 1, 1), (90, .getfield 38, 3), (93, .iload 6, 2), (95, .iaload, 1), (96, .istore_n 3, 1), (97, .iinc 5 1, 3), (100, .goto (-57), 3), (103, .iload 4, 2), (105, .ireturn, 1)]
set_option maxRecDepth 20000 in
theorem oX1_readLabels : CtOk mX1_readLabels.2.1 tX1_readLabels := by unfold CtOk; decide +kernel
set_option maxRecDepth 20000 in
theorem kX1_readLabels : MK mX1_readLabels := ⟨tj4 30 (by rfl) rfl, tj1 5 (by rfl) rfl, by decide +kernel, by decide +kernel, by decide +kernel⟩
theorem vX1_readLabels : MKv mX1_readLabels 1 := ⟨tj4 29 (by rfl) rfl, tb0 17 (by rfl) rfl, _, _, rfl⟩
def mX1_follow : Mi := (yX1_follow, cX1_follow, 7, none, 3)
def tX1_follow : Ct := [(0, .aload_n 1, 1), (1, .iload_n 2, 1), (2, .invokevirtual 41, 3), (5, .istore 4, 2), (7, .aload_n 0, 1), (8, .getfield 17, 3), (11, .iconst 0, 1), (12, .iload 4, 2), (14, .iconst (-1), 1), (15, .invokestatic 45, 3), (18, .iload_n 3, 1), (19, .istore 5, 2), (21, .iconst 0, 1), (22, .istore 6, 2), (24, .iload 6, 2), (26, .iload 4, 2), (28, .if_icmp .gt 64, 3), (31, .aload_n 0, 1), (32, .getfield 17, 3), (35, .iload 5, 2), (37, .iaload, 1), (38, .ifCond .lt 29, 3), (41, .aload_n 0, 1), (42, .aload_n 0, 1), (43, .getfield 17, 3), (46, .iload 5, 2), (48, .iaload, 1), (49, .putfield 51, 3), (52, .aload_n 0, 1), (53, .iload 6, 2), (55, .aload_n 0, 1), (56, .getfield 17, 3), (59, .iload 5, 2), (61, .iaload, 1), (62, .isub, 1), (63, .putfield 54, 3), (66, .return_, 1), (67, .aload_n 0, 1), (68, .getfield 17, 3), (71, .iload 5, 2), (73, .iload 6, 2), (75, .iastore, 1), (76, .aload_n 0, 1), (77, .aload_n 1, 1), (78, .iload_n 2, 1), (79, .iload 5, 2), (81, .invokevirtual 57, 3), (84, .istore 5, 2), (86, .iinc 6 1, 3), (89, .goto (-65), 3), (92, .return_, 1)]
set_option maxRecDepth 20000 in
theorem oX1_follow : CtOk mX1_follow.2.1 tX1_follow := by unfold CtOk; decide +kernel
set_option maxRecDepth 20000 in
theorem kX1_follow : MK mX1_follow := ⟨tj4 97 (by rfl) rfl, tj1 5 (by rfl) rfl, by decide +kernel, by decide +kernel, by decide +kernel⟩
theorem vX1_follow : MKv mX1_follow 1 := ⟨tj4 95 (by rfl) rfl, tj4 96 (by rfl) rfl, _, _, rfl⟩
def mX2_run : Mi := (yX2_run, cX2_run, 4, none, 1)
def tX2_run : Ct := [(0, .aload_n 0, 1), (1, .iconst 0, 1), (2, .putfield 16, 3), (5, .aload_n 0, 1), (6, .iconst 0, 1), (7, .putfield 20, 3), (10, .aload_n 0, 1), (11, .getfield 9, 3), (14, .iconst 0, 1), (15, .invokestatic 23, 3), (18, .iconst 1, 1), (19, .istore_n 2, 1), (20, .iload_n 2, 1), (21, .iconst 5, 1), (22, .if_icmp .gt 51, 3), (25, .aload_n 0, 1), (26, .aload_n 1, 1), (27, .aload_n 1, 1), (28, .iload_n 2, 1), (29, .aload_n 1, 1), (30, .getfield 29, 3), (33, .iadd, 1), (34, .iconst 1, 1), (35, .isub, 1), (36, .invokevirtual 34, 3), (39, .invokevirtual 38, 3), (42, .aload_n 0, 1), (43, .aload_n 1, 1), (44, .iload_n 2, 1), (45, .invokevirtual 42, 3), (48, .istore_n 3, 1), (49, .iload_n 3, 1), (50, .ifCond .eq 17, 3), (53, .aload_n 0, 1), (54, .iload_n 2, 1), (55, .putfield 16, 3), (58, .aload_n 0, 1), (59, .iload_n 3, 1), (60, .invokestatic 46, 3), (63, .putfield 20, 3), (66, .return_, 1), (67, .iinc 2 1, 3), (70, .goto (-50), 3), (73, .return_, 1)]
set_option maxRecDepth 20000 in
theorem oX2_run : CtOk mX2_run.2.1 tX2_run := by unfold CtOk; decide +kernel
set_option maxRecDepth 20000 in
theorem kX2_run : MK mX2_run := ⟨tj6 100 (by rfl) rfl, tj1 9 (by rfl) rfl, by decide +kernel, by decide +kernel, by decide +kernel⟩
theorem vX2_run : MKv mX2_run 2 := ⟨tj6 98 (by rfl) rfl, tj6 99 (by rfl) rfl, _, _, rfl⟩
def mX2_lengthenWords : Mi := (yX2_lengthenWords, cX2_lengthenWords, 5, none, 2)
def tX2_lengthenWords : Ct := [(0, .aload_n 1, 1), (1, .getfield 51, 3), (4, .iconst 1, 1), (5, .isub, 1), (6, .istore_n 3, 1), (7, .iload_n 2, 1), (8, .iconst 1, 1), (9, .isub, 1), (10, .istore 4, 2), (12, .iload 4, 2), (14, .ifCond .lt 56, 3), (17, .aload_n 0, 1), (18, .getfield 9, 3), (21, .iload 4, 2), (23, .aload_n 0, 1), (24, .getfield 9, 3), (27, .aload_n 1, 1), (28, .iload 4, 2), (30, .invokevirtual 54, 3), (33, .iaload, 1), (34, .aload_n 1, 1), (35, .getfield 57, 3), (38, .imul, 1), (39, .aload_n 1, 1), (40, .getfield 60, 3), (43, .iload_n 3, 1), (44, .iaload, 1), (45, .iadd, 1), (46, .iastore, 1), (47, .iload_n 3, 1), (48, .ifCond .ne 12, 3), (51, .aload_n 1, 1), (52, .getfield 51, 3), (55, .iconst 1, 1), (56, .isub, 1), (57, .goto 6, 3), (60, .iload_n 3, 1), (61, .iconst 1, 1), (62, .isub, 1), (63, .istore_n 3, 1), (64, .iinc 4 (-1), 3), (67, .goto (-55), 3), (70, .return_, 1)]
set_option maxRecDepth 20000 in
theorem oX2_lengthenWords : CtOk mX2_lengthenWords.2.1 tX2_lengthenWords := by unfold CtOk; decide +kernel
set_option maxRecDepth 20000 in
theorem kX2_lengthenWords : MK mX2_lengthenWords := ⟨tj6 106 (by rfl) rfl, tj1 9 (by rfl) rfl, by decide +kernel, by decide +kernel, by decide +kernel⟩
theorem vX2_lengthenWords : MKv mX2_lengthenWords 2 := ⟨tj6 105 (by rfl) rfl, tb0 30 (by rfl) rfl, _, _, rfl⟩
def mX2_commonPositions : Mi := (yX2_commonPositions, cX2_commonPositions, 10, some .int, 2)
def tX2_commonPositions : Ct := [(0, .iload_n 2, 1), (1, .aload_n 1, 1), (2, .getfield 29, 3), (5, .iadd, 1), (6, .iconst 1, 1), (7, .isub, 1), (8, .istore_n 3, 1), (9, .aload_n 1, 1), (10, .iload_n 3, 1), (11, .invokevirtual 34, 3), (14, .istore 4, 2), (16, .aload_n 1, 1), (17, .iload_n 2, 1), (18, .invokevirtual 34, 3), (21, .istore 5, 2), (23, .aload_n 0, 1), (24, .getfield 13, 3), (27, .iconst 0, 1), (28, .iload 5, 2), (30, .iconst (-1), 1), (31, .invokestatic 63, 3), (34, .iconst 1, 1), (35, .iload_n 3, 1), (36, .ishl, 1), (37, .iconst 1, 1), (38, .isub, 1), (39, .istore 6, 2), (41, .iconst 0, 1), (42, .istore 7, 2), (44, .iconst 0, 1), (45, .istore 8, 2), (47, .iload 8, 2), (49, .iload 4, 2), (51, .if_icmp .ge 66, 3), (54, .iload 6, 2), (56, .ifCond .eq 61, 3), (59, .aload_n 0, 1), (60, .getfield 9, 3), (63, .iload 8, 2), (65, .iaload, 1), (66, .istore 9, 2), (68, .aload_n 0, 1), (69, .getfield 13, 3), (72, .iload 9, 2), (74, .iaload, 1), (75, .ifCond .ge 18, 3), (78, .aload_n 0, 1), (79, .getfield 13, 3), (82, .iload 9, 2), (84, .iload 8, 2), (86, .iastore, 1), (87, .iinc 7 1, 3), (90, .goto 21, 3), (93, .aload_n 1, 1), (94, .iload 6, 2), (96, .iload_n 3, 1), (97, .aload_n 0, 1), (98, .getfield 13, 3), (101, .iload 9, 2), (103, .iaload, 1), (104, .iload 8, 2), (106, .invokestatic 66, 3), (109, .istore 6, 2), (111, .iinc 8 1, 3), (114, .goto (-67), 3), (117, .iload 7, 2), (119, .iload 5, 2), (121, .if_icmp .ne 8, 3), (124, .iload 6, 2), (126, .goto 4, 3), (129, .iconst 0, 1), (130, .ireturn, 1)]
set_option maxRecDepth 20000 in
theorem oX2_commonPositions : CtOk mX2_commonPositions.2.1 tX2_commonPositions := by unfold CtOk; decide +kernel
set_option maxRecDepth 20000 in
theorem kX2_commonPositions : MK mX2_commonPositions := ⟨tj6 111 (by rfl) rfl, tj1 9 (by rfl) rfl, by decide +kernel, by decide +kernel, by decide +kernel⟩
theorem vX2_commonPositions : MKv mX2_commonPositions 2 := ⟨tj6 110 (by rfl) rfl, tb0 31 (by rfl) rfl, _, _, rfl⟩
def mX2_equalPositions : Mi := (yX2_equalPositions, cX2_equalPositions, 9, some .int, 5)
def tX2_equalPositions : Ct := [(0, .iload_n 1, 1), (1, .istore 5, 2), (3, .iload_n 3, 1), (4, .istore 6, 2), (6, .iload 4, 2), (8, .istore 7, 2), (10, .iload_n 2, 1), (11, .iconst 1, 1), (12, .isub, 1), (13, .istore 8, 2), (15, .iload 8, 2), (17, .ifCond .lt 51, 3), (20, .aload_n 0, 1), (21, .iload 6, 2), (23, .invokevirtual 70, 3), (26, .aload_n 0, 1), (27, .iload 7, 2), (29, .invokevirtual 70, 3), (32, .if_icmp .eq 14, 3), (35, .iload 5, 2), (37, .iconst 1, 1), (38, .iload 8, 2), (40, .ishl, 1), (41, .iconst (-1), 1), (42, .ixor, 1), (43, .iand, 1), (44, .istore 5, 2), (46, .aload_n 0, 1), (47, .iload 6, 2), (49, .invokevirtual 54, 3), (52, .istore 6, 2), (54, .aload_n 0, 1), (55, .iload 7, 2), (57, .invokevirtual 54, 3), (60, .istore 7, 2), (62, .iinc 8 (-1), 3), (65, .goto (-50), 3), (68, .iload 5, 2), (70, .ireturn, 1)]
set_option maxRecDepth 20000 in
theorem oX2_equalPositions : CtOk mX2_equalPositions.2.1 tX2_equalPositions := by unfold CtOk; decide +kernel
set_option maxRecDepth 20000 in
theorem kX2_equalPositions : MK mX2_equalPositions := ⟨tj6 115 (by rfl) rfl, tj1 9 (by rfl) rfl, by decide +kernel, by decide +kernel, by decide +kernel⟩
theorem sX2_equalPositions : Cond.static mX2_equalPositions.1 ∈ TSg := tj6 114 (by rfl) rfl
def mX2_stateFor : Mi := (yX2_stateFor, cX2_stateFor, 3, some .int, 2)
def tX2_stateFor : Ct := [(0, .aload_n 1, 1), (1, .aload_n 0, 1), (2, .getfield 13, 3), (5, .iload_n 2, 1), (6, .iaload, 1), (7, .aload_n 0, 1), (8, .getfield 16, 3), (11, .aload_n 1, 1), (12, .getfield 29, 3), (15, .iadd, 1), (16, .iconst 1, 1), (17, .isub, 1), (18, .aload_n 0, 1), (19, .getfield 20, 3), (22, .invokevirtual 73, 3), (25, .ireturn, 1)]
set_option maxRecDepth 20000 in
theorem oX2_stateFor : CtOk mX2_stateFor.2.1 tX2_stateFor := by unfold CtOk; decide +kernel
set_option maxRecDepth 20000 in
theorem kX2_stateFor : MK mX2_stateFor := ⟨tj6 133 (by rfl) rfl, tj1 9 (by rfl) rfl, by decide +kernel, by decide +kernel, by decide +kernel⟩
theorem vX2_stateFor : MKv mX2_stateFor 2 := ⟨tj6 131 (by rfl) rfl, tj6 132 (by rfl) rfl, _, _, rfl⟩
def mX3_countOnCycles : Mi := (yX3_countOnCycles, cX3_countOnCycles, 7, some .int, 1)
def tX3_countOnCycles : Ct := [(0, .aload_n 0, 1), (1, .aload_n 1, 1), (2, .invokevirtual 13, 3), (5, .aload_n 1, 1), (6, .getfield 17, 3), (9, .iconst 1, 1), (10, .isub, 1), (11, .aload_n 1, 1), (12, .getfield 17, 3), (15, .iconst 1, 1), (16, .isub, 1), (17, .invokestatic 23, 3), (20, .iconst 1, 1), (21, .iadd, 1), (22, .istore_n 2, 1), (23, .iconst 0, 1), (24, .istore_n 3, 1), (25, .iload_n 3, 1), (26, .iload_n 2, 1), (27, .if_icmp .ge 56, 3), (30, .iconst 0, 1), (31, .istore 4, 2), (33, .iload 4, 2), (35, .iload_n 2, 1), (36, .if_icmp .ge 41, 3), (39, .aload_n 0, 1), (40, .getfield 9, 3), (43, .iload 4, 2), (45, .laload, 1), (46, .iload_n 3, 1), (47, .lushr, 1), (48, .lconst 1, 1), (49, .land, 1), (50, .lconst 0, 1), (51, .lcmp, 1), (52, .ifCond .eq 19, 3), (55, .aload_n 0, 1), (56, .getfield 9, 3), (59, .iload 4, 2), (61, .dup2, 1), (62, .laload, 1), (63, .aload_n 0, 1), (64, .getfield 9, 3), (67, .iload_n 3, 1), (68, .laload, 1), (69, .lor, 1), (70, .lastore, 1), (71, .iinc 4 1, 3), (74, .goto (-41), 3), (77, .iinc 3 1, 3), (80, .goto (-55), 3), (83, .iconst 0, 1), (84, .istore_n 3, 1), (85, .iconst 0, 1), (86, .istore 4, 2), (88, .iload 4, 2), (90, .aload_n 1, 1), (91, .getfield 17, 3), (94, .if_icmp .ge 59, 3), (97, .iconst 0, 1), (98, .istore 5, 2), (100, .iload 5, 2), (102, .iload 4, 2), (104, .if_icmp .ge 43, 3), (107, .iload 4, 2), (109, .iload 5, 2), (111, .invokestatic 23, 3), (114, .istore 6, 2), (116, .iload_n 3, 1), (117, .aload_n 0, 1), (118, .getfield 9, 3), (121, .iload 6, 2), (123, .laload, 1), (124, .iload 6, 2), (126, .lushr, 1), (127, .lconst 1, 1), (128, .land, 1), (129, .lconst 0, 1), (130, .lcmp, 1), (131, .ifCond .eq 7, 3), (134, .iconst 2, 1), (135, .goto 4, 3), (138, .iconst 0, 1), (139, .iadd, 1), (140, .istore_n 3, 1), (141, .iinc 5 1, 3), (144, .goto (-44), 3), (147, .iinc 4 1, 3), (150, .goto (-62), 3), (153, .iload_n 3, 1), (154, .ireturn, 1)]
set_option maxRecDepth 20000 in
theorem oX3_countOnCycles : CtOk mX3_countOnCycles.2.1 tX3_countOnCycles := by unfold CtOk; decide +kernel
set_option maxRecDepth 20000 in
theorem kX3_countOnCycles : MK mX3_countOnCycles := ⟨tj2 160 (by rfl) rfl, tj1 8 (by rfl) rfl, by decide +kernel, by decide +kernel, by decide +kernel⟩
theorem vX3_countOnCycles : MKv mX3_countOnCycles 3 := ⟨tj2 158 (by rfl) rfl, tj2 159 (by rfl) rfl, _, _, rfl⟩
def mX3_placeOf : Mi := (yX3_placeOf, cX3_placeOf, 3, some .int, 2)
def tX3_placeOf : Ct := [(0, .iload_n 0, 1), (1, .iload_n 1, 1), (2, .invokestatic 27, 3), (5, .istore_n 2, 1), (6, .iload_n 2, 1), (7, .iload_n 2, 1), (8, .iconst 1, 1), (9, .iadd, 1), (10, .imul, 1), (11, .iconst 2, 1), (12, .idiv, 1), (13, .iload_n 0, 1), (14, .iload_n 1, 1), (15, .invokestatic 32, 3), (18, .iadd, 1), (19, .ireturn, 1)]
set_option maxRecDepth 20000 in
theorem oX3_placeOf : CtOk mX3_placeOf.2.1 tX3_placeOf := by unfold CtOk; decide +kernel
set_option maxRecDepth 20000 in
theorem kX3_placeOf : MK mX3_placeOf := ⟨tj2 167 (by rfl) rfl, tj1 8 (by rfl) rfl, by decide +kernel, by decide +kernel, by decide +kernel⟩
theorem sX3_placeOf : Cond.static mX3_placeOf.1 ∈ TSg := tj2 166 (by rfl) rfl
def mX3_readSteps : Mi := (yX3_readSteps, cX3_readSteps, 4, none, 1)
def tX3_readSteps : Ct := [(0, .iconst 0, 1), (1, .istore_n 2, 1), (2, .iload_n 2, 1), (3, .aload_n 1, 1), (4, .getfield 17, 3), (7, .if_icmp .ge 48, 3), (10, .iconst 0, 1), (11, .istore_n 3, 1), (12, .iload_n 3, 1), (13, .iload_n 2, 1), (14, .if_icmp .gt 35, 3), (17, .aload_n 0, 1), (18, .getfield 9, 3), (21, .iload_n 2, 1), (22, .iload_n 3, 1), (23, .invokestatic 23, 3), (26, .aload_n 1, 1), (27, .iload_n 2, 1), (28, .aload_n 1, 1), (29, .getfield 35, 3), (32, .imul, 1), (33, .iload_n 3, 1), (34, .aload_n 1, 1), (35, .getfield 35, 3), (38, .imul, 1), (39, .invokestatic 38, 3), (42, .lastore, 1), (43, .iinc 3 1, 3), (46, .goto (-34), 3), (49, .iinc 2 1, 3), (52, .goto (-50), 3), (55, .return_, 1)]
set_option maxRecDepth 20000 in
theorem oX3_readSteps : CtOk mX3_readSteps.2.1 tX3_readSteps := by unfold CtOk; decide +kernel
set_option maxRecDepth 20000 in
theorem kX3_readSteps : MK mX3_readSteps := ⟨tj2 164 (by rfl) rfl, tj1 8 (by rfl) rfl, by decide +kernel, by decide +kernel, by decide +kernel⟩
theorem vX3_readSteps : MKv mX3_readSteps 3 := ⟨tj2 163 (by rfl) rfl, tb0 3 (by rfl) rfl, _, _, rfl⟩
def mX3_stepsFrom : Mi := (yX3_stepsFrom, cX3_stepsFrom, 7, some .long, 3)
def tX3_stepsFrom : Ct := [(0, .lconst 0, 1), (1, .lstore_n 3, 1), (2, .iload_n 1, 1), (3, .istore 5, 2), (5, .iload 5, 2), (7, .iload_n 1, 1), (8, .aload_n 0, 1), (9, .getfield 35, 3), (12, .iadd, 1), (13, .if_icmp .ge 68, 3), (16, .iload_n 2, 1), (17, .istore 6, 2), (19, .iload 6, 2), (21, .iload_n 2, 1), (22, .aload_n 0, 1), (23, .getfield 35, 3), (26, .iadd, 1), (27, .if_icmp .ge 48, 3), (30, .aload_n 0, 1), (31, .getfield 42, 3), (34, .iload 5, 2), (36, .iaload, 1), (37, .aload_n 0, 1), (38, .getfield 42, 3), (41, .iload 6, 2), (43, .iaload, 1), (44, .if_icmp .ne 25, 3), (47, .lload_n 3, 1), (48, .lconst 1, 1), (49, .aload_n 0, 1), (50, .getfield 46, 3), (53, .iload 5, 2), (55, .iaload, 1), (56, .aload_n 0, 1), (57, .getfield 46, 3), (60, .iload 6, 2), (62, .iaload, 1), (63, .invokestatic 23, 3), (66, .lshl, 1), (67, .lor, 1), (68, .lstore_n 3, 1), (69, .iinc 6 1, 3), (72, .goto (-53), 3), (75, .iinc 5 1, 3), (78, .goto (-73), 3), (81, .lload_n 3, 1), (82, .lreturn, 1)]
set_option maxRecDepth 20000 in
theorem oX3_stepsFrom : CtOk mX3_stepsFrom.2.1 tX3_stepsFrom := by unfold CtOk; decide +kernel
set_option maxRecDepth 20000 in
theorem kX3_stepsFrom : MK mX3_stepsFrom := ⟨tj2 176 (by rfl) rfl, tj1 8 (by rfl) rfl, by decide +kernel, by decide +kernel, by decide +kernel⟩
theorem sX3_stepsFrom : Cond.static mX3_stepsFrom.1 ∈ TSg := tj2 175 (by rfl) rfl
def mX4_takeLabels : Mi := (yX4_takeLabels, cX4_takeLabels, 4, none, 3)
def tX4_takeLabels : Ct := [(0, .aload_n 0, 1), (1, .iload_n 2, 1), (2, .putfield 22, 3), (5, .aload_n 1, 1), (6, .iload_n 3, 1), (7, .iload_n 2, 1), (8, .aload_n 0, 1), (9, .getfield 9, 3), (12, .invokevirtual 26, 3), (15, .return_, 1)]
set_option maxRecDepth 20000 in
theorem oX4_takeLabels : CtOk mX4_takeLabels.2.1 tX4_takeLabels := by unfold CtOk; decide +kernel
set_option maxRecDepth 20000 in
theorem kX4_takeLabels : MK mX4_takeLabels := ⟨tj5 121 (by rfl) rfl, tj1 6 (by rfl) rfl, by decide +kernel, by decide +kernel, by decide +kernel⟩
theorem vX4_takeLabels : MKv mX4_takeLabels 4 := ⟨tj5 119 (by rfl) rfl, tj5 120 (by rfl) rfl, _, _, rfl⟩
def mX4_countAll : Mi := (yX4_countAll, cX4_countAll, 2, some .int, 1)
def tX4_countAll : Ct := [(0, .aload_n 0, 1), (1, .aload_n 1, 1), (2, .invokevirtual 30, 3), (5, .aload_n 1, 1), (6, .aload_n 0, 1), (7, .getfield 19, 3), (10, .iconst 0, 1), (11, .aaload, 1), (12, .invokestatic 34, 3), (15, .ireturn, 1)]
set_option maxRecDepth 20000 in
theorem oX4_countAll : CtOk mX4_countAll.2.1 tX4_countAll := by unfold CtOk; decide +kernel
set_option maxRecDepth 20000 in
theorem kX4_countAll : MK mX4_countAll := ⟨tj5 147 (by rfl) rfl, tj1 6 (by rfl) rfl, by decide +kernel, by decide +kernel, by decide +kernel⟩
theorem vX4_countAll : MKv mX4_countAll 4 := ⟨tj5 145 (by rfl) rfl, tj5 146 (by rfl) rfl, _, _, rfl⟩
def mX4_countBetween : Mi := (yX4_countBetween, cX4_countBetween, 4, some .int, 3)
def tX4_countBetween : Ct := [(0, .aload_n 0, 1), (1, .aload_n 1, 1), (2, .iload_n 3, 1), (3, .invokevirtual 38, 3), (6, .aload_n 0, 1), (7, .getfield 19, 3), (10, .iconst 0, 1), (11, .aaload, 1), (12, .iload_n 2, 1), (13, .iaload, 1), (14, .ireturn, 1)]
set_option maxRecDepth 20000 in
theorem oX4_countBetween : CtOk mX4_countBetween.2.1 tX4_countBetween := by unfold CtOk; decide +kernel
set_option maxRecDepth 20000 in
theorem kX4_countBetween : MK mX4_countBetween := ⟨tj5 130 (by rfl) rfl, tj1 6 (by rfl) rfl, by decide +kernel, by decide +kernel, by decide +kernel⟩
theorem vX4_countBetween : MKv mX4_countBetween 4 := ⟨tj5 128 (by rfl) rfl, tj5 129 (by rfl) rfl, _, _, rfl⟩
def mX4_countClosed : Mi := (yX4_countClosed, cX4_countClosed, 4, some .int, 1)
def tX4_countClosed : Ct := [(0, .iconst 0, 1), (1, .istore_n 2, 1), (2, .aload_n 0, 1), (3, .getfield 22, 3), (6, .ifCond .le 29, 3), (9, .iconst 0, 1), (10, .istore_n 3, 1), (11, .iload_n 3, 1), (12, .aload_n 1, 1), (13, .getfield 42, 3), (16, .if_icmp .ge 19, 3), (19, .iload_n 2, 1), (20, .aload_n 0, 1), (21, .aload_n 1, 1), (22, .iload_n 3, 1), (23, .iload_n 3, 1), (24, .invokevirtual 45, 3), (27, .iadd, 1), (28, .istore_n 2, 1), (29, .iinc 3 1, 3), (32, .goto (-21), 3), (35, .iload_n 2, 1), (36, .ireturn, 1)]
set_option maxRecDepth 20000 in
theorem oX4_countClosed : CtOk mX4_countClosed.2.1 tX4_countClosed := by unfold CtOk; decide +kernel
set_option maxRecDepth 20000 in
theorem kX4_countClosed : MK mX4_countClosed := ⟨tj5 126 (by rfl) rfl, tj1 6 (by rfl) rfl, by decide +kernel, by decide +kernel, by decide +kernel⟩
theorem vX4_countClosed : MKv mX4_countClosed 4 := ⟨tj5 124 (by rfl) rfl, tj5 125 (by rfl) rfl, _, _, rfl⟩
def mX4_openWord : Mi := (yX4_openWord, cX4_openWord, 5, some .int, 2)
def tX4_openWord : Ct := [(0, .iload_n 2, 1), (1, .ifCond .ge 5, 3), (4, .iconst (-1), 1), (5, .ireturn, 1), (6, .aload_n 0, 1), (7, .aload_n 1, 1), (8, .invokevirtual 30, 3), (11, .iload_n 2, 1), (12, .istore_n 3, 1), (13, .iconst 0, 1), (14, .istore 4, 2), (16, .iload 4, 2), (18, .aload_n 1, 1), (19, .getfield 42, 3), (22, .if_icmp .ge 43, 3), (25, .iload_n 3, 1), (26, .aload_n 0, 1), (27, .getfield 19, 3), (30, .iconst 0, 1), (31, .aaload, 1), (32, .iload 4, 2), (34, .iaload, 1), (35, .if_icmp .ge 12, 3), (38, .aload_n 0, 1), (39, .aload_n 1, 1), (40, .iload 4, 2), (42, .iload_n 3, 1), (43, .invokevirtual 49, 3), (46, .ireturn, 1), (47, .iload_n 3, 1), (48, .aload_n 0, 1), (49, .getfield 19, 3), (52, .iconst 0, 1), (53, .aaload, 1), (54, .iload 4, 2), (56, .iaload, 1), (57, .isub, 1), (58, .istore_n 3, 1), (59, .iinc 4 1, 3), (62, .goto (-46), 3), (65, .iconst (-1), 1), (66, .ireturn, 1)]
set_option maxRecDepth 20000 in
theorem oX4_openWord : CtOk mX4_openWord.2.1 tX4_openWord := by unfold CtOk; decide +kernel
set_option maxRecDepth 20000 in
theorem kX4_openWord : MK mX4_openWord := ⟨tj5 179 (by rfl) rfl, tj1 6 (by rfl) rfl, by decide +kernel, by decide +kernel, by decide +kernel⟩
theorem vX4_openWord : MKv mX4_openWord 4 := ⟨tj5 177 (by rfl) rfl, tj5 178 (by rfl) rfl, _, _, rfl⟩
def mX4_closedWord : Mi := (yX4_closedWord, cX4_closedWord, 6, some .int, 2)
def tX4_closedWord : Ct := [(0, .iload_n 2, 1), (1, .ifCond .lt 10, 3), (4, .aload_n 0, 1), (5, .getfield 22, 3), (8, .ifCond .ne 5, 3), (11, .iconst (-1), 1), (12, .ireturn, 1), (13, .iload_n 2, 1), (14, .istore_n 3, 1), (15, .iconst 0, 1), (16, .istore 4, 2), (18, .iload 4, 2), (20, .aload_n 1, 1), (21, .getfield 42, 3), (24, .if_icmp .ge 44, 3), (27, .aload_n 0, 1), (28, .aload_n 1, 1), (29, .iload 4, 2), (31, .iload 4, 2), (33, .invokevirtual 45, 3), (36, .istore 5, 2), (38, .iload_n 3, 1), (39, .iload 5, 2), (41, .if_icmp .ge 16, 3), (44, .aload_n 1, 1), (45, .aload_n 0, 1), (46, .aload_n 1, 1), (47, .iload 4, 2), (49, .iload_n 3, 1), (50, .invokevirtual 49, 3), (53, .invokestatic 52, 3), (56, .ireturn, 1), (57, .iload_n 3, 1), (58, .iload 5, 2), (60, .isub, 1), (61, .istore_n 3, 1), (62, .iinc 4 1, 3), (65, .goto (-47), 3), (68, .iconst (-1), 1), (69, .ireturn, 1)]
set_option maxRecDepth 20000 in
theorem oX4_closedWord : CtOk mX4_closedWord.2.1 tX4_closedWord := by unfold CtOk; decide +kernel
set_option maxRecDepth 20000 in
theorem kX4_closedWord : MK mX4_closedWord := ⟨tj5 167 (by rfl) rfl, tj1 6 (by rfl) rfl, by decide +kernel, by decide +kernel, by decide +kernel⟩
theorem vX4_closedWord : MKv mX4_closedWord 4 := ⟨tj5 165 (by rfl) rfl, tj5 166 (by rfl) rfl, _, _, rfl⟩
def mX4_withoutEnd : Mi := (yX4_withoutEnd, cX4_withoutEnd, 4, some .int, 2)
def tX4_withoutEnd : Ct := [(0, .iload_n 1, 1), (1, .istore_n 2, 1), (2, .iconst 0, 1), (3, .istore_n 3, 1), (4, .iload_n 3, 1), (5, .aload_n 0, 1), (6, .getfield 56, 3), (9, .iconst 1, 1), (10, .isub, 1), (11, .if_icmp .ge 15, 3), (14, .aload_n 0, 1), (15, .iload_n 2, 1), (16, .invokevirtual 59, 3), (19, .istore_n 2, 1), (20, .iinc 3 1, 3), (23, .goto (-19), 3), (26, .iload_n 2, 1), (27, .ireturn, 1)]
set_option maxRecDepth 20000 in
theorem oX4_withoutEnd : CtOk mX4_withoutEnd.2.1 tX4_withoutEnd := by unfold CtOk; decide +kernel
set_option maxRecDepth 20000 in
theorem kX4_withoutEnd : MK mX4_withoutEnd := ⟨tj5 174 (by rfl) rfl, tj1 6 (by rfl) rfl, by decide +kernel, by decide +kernel, by decide +kernel⟩
theorem sX4_withoutEnd : Cond.static mX4_withoutEnd.1 ∈ TSg := tj5 173 (by rfl) rfl
def mX4_walk : Mi := (yX4_walk, cX4_walk, 10, some .int, 3)
def tX4_walk : Ct := [(0, .iload_n 2, 1), (1, .istore 4, 2), (3, .iload_n 2, 1), (4, .istore 5, 2), (6, .iload_n 3, 1), (7, .istore 6, 2), (9, .iconst 0, 1), (10, .istore 7, 2), (12, .iload 7, 2), (14, .aload_n 0, 1), (15, .getfield 22, 3), (18, .if_icmp .ge 107, 3), (21, .iconst 0, 1), (22, .istore 8, 2), (24, .aload_n 0, 1), (25, .aload_n 1, 1), (26, .iload 5, 2), (28, .aload_n 1, 1), (29, .getfield 63, 3), (32, .imul, 1), (33, .iload 7, 2), (35, .invokevirtual 66, 3), (38, .istore 9, 2), (40, .iload 6, 2), (42, .iload 9, 2), (44, .if_icmp .lt 46, 3), (47, .iload 8, 2), (49, .aload_n 1, 1), (50, .getfield 63, 3), (53, .iconst 1, 1), (54, .isub, 1), (55, .if_icmp .ge 35, 3), (58, .iload 6, 2), (60, .iload 9, 2), (62, .isub, 1), (63, .istore 6, 2), (65, .iinc 8 1, 3), (68, .aload_n 0, 1), (69, .aload_n 1, 1), (70, .iload 5, 2), (72, .aload_n 1, 1), (73, .getfield 63, 3), (76, .imul, 1), (77, .iload 8, 2), (79, .iadd, 1), (80, .iload 7, 2), (82, .invokevirtual 66, 3), (85, .istore 9, 2), (87, .goto (-47), 3), (90, .iload 4, 2), (92, .aload_n 1, 1), (93, .getfield 63, 3), (96, .imul, 1), (97, .iload 8, 2), (99, .iadd, 1), (100, .istore 4, 2), (102, .aload_n 1, 1), (103, .getfield 69, 3), (106, .iload 5, 2), (108, .aload_n 1, 1), (109, .getfield 63, 3), (112, .imul, 1), (113, .iload 8, 2), (115, .iadd, 1), (116, .iaload, 1), (117, .istore 5, 2), (119, .iinc 7 1, 3), (122, .goto (-110), 3), (125, .iload 4, 2), (127, .ireturn, 1)]
set_option maxRecDepth 20000 in
theorem oX4_walk : CtOk mX4_walk.2.1 tX4_walk := by unfold CtOk; decide +kernel
set_option maxRecDepth 20000 in
theorem kX4_walk : MK mX4_walk := ⟨tj5 171 (by rfl) rfl, tj1 6 (by rfl) rfl, by decide +kernel, by decide +kernel, by decide +kernel⟩
theorem vX4_walk : MKv mX4_walk 4 := ⟨tj5 170 (by rfl) rfl, tb0 23 (by rfl) rfl, _, _, rfl⟩
def mX4_countTo : Mi := (yX4_countTo, cX4_countTo, 3, none, 2)
def tX4_countTo : Ct := [(0, .aload_n 0, 1), (1, .getfield 19, 3), (4, .aload_n 0, 1), (5, .getfield 22, 3), (8, .aaload, 1), (9, .iconst 0, 1), (10, .invokestatic 72, 3), (13, .aload_n 0, 1), (14, .getfield 19, 3), (17, .aload_n 0, 1), (18, .getfield 22, 3), (21, .aaload, 1), (22, .iload_n 2, 1), (23, .iconst 1, 1), (24, .iastore, 1), (25, .aload_n 0, 1), (26, .aload_n 1, 1), (27, .invokevirtual 78, 3), (30, .return_, 1)]
set_option maxRecDepth 20000 in
theorem oX4_countTo : CtOk mX4_countTo.2.1 tX4_countTo := by unfold CtOk; decide +kernel
set_option maxRecDepth 20000 in
theorem kX4_countTo : MK mX4_countTo := ⟨tj5 134 (by rfl) rfl, tj1 6 (by rfl) rfl, by decide +kernel, by decide +kernel, by decide +kernel⟩
theorem vX4_countTo : MKv mX4_countTo 4 := ⟨tj5 133 (by rfl) rfl, tb0 19 (by rfl) rfl, _, _, rfl⟩
def mX4_countToAnywhere : Mi := (yX4_countToAnywhere, cX4_countToAnywhere, 2, none, 1)
def tX4_countToAnywhere : Ct := [(0, .aload_n 0, 1), (1, .getfield 19, 3), (4, .aload_n 0, 1), (5, .getfield 22, 3), (8, .aaload, 1), (9, .iconst 1, 1), (10, .invokestatic 72, 3), (13, .aload_n 0, 1), (14, .aload_n 1, 1), (15, .invokevirtual 78, 3), (18, .return_, 1)]
set_option maxRecDepth 20000 in
theorem oX4_countToAnywhere : CtOk mX4_countToAnywhere.2.1 tX4_countToAnywhere := by unfold CtOk; decide +kernel
set_option maxRecDepth 20000 in
theorem kX4_countToAnywhere : MK mX4_countToAnywhere := ⟨tj5 151 (by rfl) rfl, tj1 6 (by rfl) rfl, by decide +kernel, by decide +kernel, by decide +kernel⟩
theorem vX4_countToAnywhere : MKv mX4_countToAnywhere 4 := ⟨tj5 150 (by rfl) rfl, tb0 22 (by rfl) rfl, _, _, rfl⟩
def mX4_countBackwards : Mi := (yX4_countBackwards, cX4_countBackwards, 6, none, 1)
def tX4_countBackwards : Ct := [(0, .aload_n 0, 1), (1, .getfield 22, 3), (4, .iconst 1, 1), (5, .isub, 1), (6, .istore_n 2, 1), (7, .iload_n 2, 1), (8, .ifCond .lt 76, 3), (11, .iconst 0, 1), (12, .istore_n 3, 1), (13, .iload_n 3, 1), (14, .aload_n 1, 1), (15, .getfield 42, 3), (18, .if_icmp .ge 60, 3), (21, .iconst 0, 1), (22, .istore 4, 2), (24, .iconst 0, 1), (25, .istore 5, 2), (27, .iload 5, 2), (29, .aload_n 1, 1), (30, .getfield 63, 3), (33, .if_icmp .ge 29, 3), (36, .iload 4, 2), (38, .aload_n 0, 1), (39, .aload_n 1, 1), (40, .iload_n 3, 1), (41, .aload_n 1, 1), (42, .getfield 63, 3), (45, .imul, 1), (46, .iload 5, 2), (48, .iadd, 1), (49, .iload_n 2, 1), (50, .invokevirtual 66, 3), (53, .iadd, 1), (54, .istore 4, 2), (56, .iinc 5 1, 3), (59, .goto (-32), 3), (62, .aload_n 0, 1), (63, .getfield 19, 3), (66, .iload_n 2, 1), (67, .aaload, 1), (68, .iload_n 3, 1), (69, .iload 4, 2), (71, .iastore, 1), (72, .iinc 3 1, 3), (75, .goto (-62), 3), (78, .iinc 2 (-1), 3), (81, .goto (-74), 3), (84, .return_, 1)]
set_option maxRecDepth 20000 in
theorem oX4_countBackwards : CtOk mX4_countBackwards.2.1 tX4_countBackwards := by unfold CtOk; decide +kernel
set_option maxRecDepth 20000 in
theorem kX4_countBackwards : MK mX4_countBackwards := ⟨tj5 139 (by rfl) rfl, tj1 6 (by rfl) rfl, by decide +kernel, by decide +kernel, by decide +kernel⟩
theorem vX4_countBackwards : MKv mX4_countBackwards 4 := ⟨tj5 138 (by rfl) rfl, tb0 20 (by rfl) rfl, _, _, rfl⟩
def mX4_waysBy : Mi := (yX4_waysBy, cX4_waysBy, 4, some .int, 3)
def tX4_waysBy : Ct := [(0, .aload_n 1, 1), (1, .getfield 81, 3), (4, .iload_n 2, 1), (5, .iaload, 1), (6, .aload_n 0, 1), (7, .getfield 9, 3), (10, .iload_n 3, 1), (11, .iaload, 1), (12, .if_icmp .ne 21, 3), (15, .aload_n 0, 1), (16, .getfield 19, 3), (19, .iload_n 3, 1), (20, .iconst 1, 1), (21, .iadd, 1), (22, .aaload, 1), (23, .aload_n 1, 1), (24, .getfield 69, 3), (27, .iload_n 2, 1), (28, .iaload, 1), (29, .iaload, 1), (30, .goto 4, 3), (33, .iconst 0, 1), (34, .ireturn, 1)]
set_option maxRecDepth 20000 in
theorem oX4_waysBy : CtOk mX4_waysBy.2.1 tX4_waysBy := by unfold CtOk; decide +kernel
set_option maxRecDepth 20000 in
theorem kX4_waysBy : MK mX4_waysBy := ⟨tj5 143 (by rfl) rfl, tj1 6 (by rfl) rfl, by decide +kernel, by decide +kernel, by decide +kernel⟩
theorem vX4_waysBy : MKv mX4_waysBy 4 := ⟨tj5 142 (by rfl) rfl, tb0 21 (by rfl) rfl, _, _, rfl⟩
def mX4_sumOf : Mi := (yX4_sumOf, cX4_sumOf, 4, some .int, 2)
def tX4_sumOf : Ct := [(0, .iconst 0, 1), (1, .istore_n 2, 1), (2, .iconst 0, 1), (3, .istore_n 3, 1), (4, .iload_n 3, 1), (5, .aload_n 0, 1), (6, .getfield 42, 3), (9, .if_icmp .ge 15, 3), (12, .iload_n 2, 1), (13, .aload_n 1, 1), (14, .iload_n 3, 1), (15, .iaload, 1), (16, .iadd, 1), (17, .istore_n 2, 1), (18, .iinc 3 1, 3), (21, .goto (-17), 3), (24, .iload_n 2, 1), (25, .ireturn, 1)]
set_option maxRecDepth 20000 in
theorem oX4_sumOf : CtOk mX4_sumOf.2.1 tX4_sumOf := by unfold CtOk; decide +kernel
set_option maxRecDepth 20000 in
theorem kX4_sumOf : MK mX4_sumOf := ⟨tj5 154 (by rfl) rfl, tj1 6 (by rfl) rfl, by decide +kernel, by decide +kernel, by decide +kernel⟩
theorem sX4_sumOf : Cond.static mX4_sumOf.1 ∈ TSg := tj5 153 (by rfl) rfl
def mX4_surveyWords : Mi := (yX4_surveyWords, cX4_surveyWords, 8, none, 3)
def tX4_surveyWords : Ct := [(0, .aload_n 0, 1), (1, .iconst 0, 1), (2, .putfield 84, 3), (5, .aload_n 0, 1), (6, .iconst 0, 1), (7, .putfield 87, 3), (10, .aload_n 0, 1), (11, .getfield 9, 3), (14, .iconst 0, 1), (15, .invokestatic 72, 3), (18, .aload_n 0, 1), (19, .getfield 19, 3), (22, .iconst 0, 1), (23, .aaload, 1), (24, .iconst 1, 1), (25, .invokestatic 72, 3), (28, .aload_n 1, 1), (29, .iload_n 2, 1), (30, .invokevirtual 90, 3), (33, .istore 4, 2), (35, .iconst 0, 1), (36, .istore 5, 2), (38, .iconst 0, 1), (39, .istore 6, 2), (41, .iload 6, 2), (43, .iload 4, 2), (45, .if_icmp .ge 85, 3), (48, .iload 5, 2), (50, .istore 7, 2), (52, .iload 7, 2), (54, .iload_n 2, 1), (55, .if_icmp .ge 16, 3), (58, .aload_n 0, 1), (59, .aload_n 1, 1), (60, .iload 7, 2), (62, .invokevirtual 93, 3), (65, .iinc 7 1, 3), (68, .goto (-16), 3), (71, .aload_n 1, 1), (72, .aload_n 0, 1), (73, .getfield 19, 3), (76, .iload_n 2, 1), (77, .aaload, 1), (78, .invokestatic 34, 3), (81, .istore 7, 2), (83, .aload_n 0, 1), (84, .dup, 1), (85, .getfield 84, 3), (88, .iload 7, 2), (90, .iload_n 3, 1), (91, .if_icmp .ne 7, 3), (94, .iconst 1, 1), (95, .goto 4, 3), (98, .iconst 0, 1), (99, .iadd, 1), (100, .putfield 84, 3), (103, .aload_n 0, 1), (104, .aload_n 0, 1), (105, .getfield 87, 3), (108, .iload 7, 2), (110, .invokestatic 96, 3), (113, .putfield 87, 3), (116, .aload_n 0, 1), (117, .aload_n 1, 1), (118, .iload_n 2, 1), (119, .invokevirtual 102, 3), (122, .istore 5, 2), (124, .iinc 6 1, 3), (127, .goto (-86), 3), (130, .return_, 1)]
set_option maxRecDepth 20000 in
theorem oX4_surveyWords : CtOk mX4_surveyWords.2.1 tX4_surveyWords := by unfold CtOk; decide +kernel
set_option maxRecDepth 20000 in
theorem kX4_surveyWords : MK mX4_surveyWords := ⟨tj5 222 (by rfl) rfl, tj1 6 (by rfl) rfl, by decide +kernel, by decide +kernel, by decide +kernel⟩
theorem vX4_surveyWords : MKv mX4_surveyWords 4 := ⟨tj5 220 (by rfl) rfl, tj5 221 (by rfl) rfl, _, _, rfl⟩
def mX4_stepForward : Mi := (yX4_stepForward, cX4_stepForward, 8, none, 2)
def tX4_stepForward : Ct := [(0, .aload_n 0, 1), (1, .getfield 19, 3), (4, .iload_n 2, 1), (5, .aaload, 1), (6, .astore_n 3, 1), (7, .aload_n 0, 1), (8, .getfield 19, 3), (11, .iload_n 2, 1), (12, .iconst 1, 1), (13, .iadd, 1), (14, .aaload, 1), (15, .astore 4, 2), (17, .aload 4, 2), (19, .iconst 0, 1), (20, .invokestatic 72, 3), (23, .iconst 0, 1), (24, .istore 5, 2), (26, .iload 5, 2), (28, .aload_n 1, 1), (29, .getfield 42, 3), (32, .if_icmp .ge 79, 3), (35, .aload_n 3, 1), (36, .iload 5, 2), (38, .iaload, 1), (39, .ifCond .eq 66, 3), (42, .iconst 0, 1), (43, .istore 6, 2), (45, .iload 6, 2), (47, .aload_n 1, 1), (48, .getfield 63, 3), (51, .if_icmp .ge 54, 3), (54, .iload 5, 2), (56, .aload_n 1, 1), (57, .getfield 63, 3), (60, .imul, 1), (61, .iload 6, 2), (63, .iadd, 1), (64, .istore 7, 2), (66, .aload_n 1, 1), (67, .getfield 81, 3), (70, .iload 7, 2), (72, .iaload, 1), (73, .aload_n 0, 1), (74, .getfield 9, 3), (77, .iload_n 2, 1), (78, .iaload, 1), (79, .if_icmp .ne 20, 3), (82, .aload 4, 2), (84, .aload_n 1, 1), (85, .getfield 69, 3), (88, .iload 7, 2), (90, .iaload, 1), (91, .dup2, 1), (92, .iaload, 1), (93, .aload_n 3, 1), (94, .iload 5, 2), (96, .iaload, 1), (97, .iadd, 1), (98, .iastore, 1), (99, .iinc 6 1, 3), (102, .goto (-57), 3), (105, .iinc 5 1, 3), (108, .goto (-82), 3), (111, .return_, 1)]
set_option maxRecDepth 20000 in
theorem oX4_stepForward : CtOk mX4_stepForward.2.1 tX4_stepForward := by unfold CtOk; decide +kernel
set_option maxRecDepth 20000 in
theorem kX4_stepForward : MK mX4_stepForward := ⟨tj5 227 (by rfl) rfl, tj1 6 (by rfl) rfl, by decide +kernel, by decide +kernel, by decide +kernel⟩
theorem vX4_stepForward : MKv mX4_stepForward 4 := ⟨tj5 226 (by rfl) rfl, tb0 25 (by rfl) rfl, _, _, rfl⟩
def mX4_moveToNextWord : Mi := (yX4_moveToNextWord, cX4_moveToNextWord, 4, some .int, 2)
def tX4_moveToNextWord : Ct := [(0, .iload_n 2, 1), (1, .iconst 1, 1), (2, .isub, 1), (3, .istore_n 3, 1), (4, .iload_n 3, 1), (5, .ifCond .lt 43, 3), (8, .aload_n 0, 1), (9, .getfield 9, 3), (12, .iload_n 3, 1), (13, .iaload, 1), (14, .aload_n 1, 1), (15, .getfield 63, 3), (18, .iconst 1, 1), (19, .isub, 1), (20, .if_icmp .ge 15, 3), (23, .aload_n 0, 1), (24, .getfield 9, 3), (27, .iload_n 3, 1), (28, .dup2, 1), (29, .iaload, 1), (30, .iconst 1, 1), (31, .iadd, 1), (32, .iastore, 1), (33, .iload_n 3, 1), (34, .ireturn, 1), (35, .aload_n 0, 1), (36, .getfield 9, 3), (39, .iload_n 3, 1), (40, .iconst 0, 1), (41, .iastore, 1), (42, .iinc 3 (-1), 3), (45, .goto (-41), 3), (48, .iconst 0, 1), (49, .ireturn, 1)]
set_option maxRecDepth 20000 in
theorem oX4_moveToNextWord : CtOk mX4_moveToNextWord.2.1 tX4_moveToNextWord := by unfold CtOk; decide +kernel
set_option maxRecDepth 20000 in
theorem kX4_moveToNextWord : MK mX4_moveToNextWord := ⟨tj5 232 (by rfl) rfl, tj1 6 (by rfl) rfl, by decide +kernel, by decide +kernel, by decide +kernel⟩
theorem vX4_moveToNextWord : MKv mX4_moveToNextWord 4 := ⟨tj5 231 (by rfl) rfl, tb0 26 (by rfl) rfl, _, _, rfl⟩
def mX4_countFixed : Mi := (yX4_countFixed, cX4_countFixed, 6, some .int, 2)
def tX4_countFixed : Ct := [(0, .iconst 0, 1), (1, .istore_n 3, 1), (2, .iconst 0, 1), (3, .istore 4, 2), (5, .iload 4, 2), (7, .aload_n 1, 1), (8, .getfield 42, 3), (11, .if_icmp .ge 76, 3), (14, .aload_n 0, 1), (15, .getfield 19, 3), (18, .iconst 0, 1), (19, .aaload, 1), (20, .iconst 0, 1), (21, .invokestatic 72, 3), (24, .aload_n 0, 1), (25, .getfield 19, 3), (28, .iconst 0, 1), (29, .aaload, 1), (30, .iload 4, 2), (32, .iconst 1, 1), (33, .iastore, 1), (34, .iconst 0, 1), (35, .istore 5, 2), (37, .iload 5, 2), (39, .iload_n 2, 1), (40, .if_icmp .ge 29, 3), (43, .aload_n 1, 1), (44, .aload_n 0, 1), (45, .getfield 19, 3), (48, .iload 5, 2), (50, .aaload, 1), (51, .aload_n 0, 1), (52, .getfield 19, 3), (55, .iload 5, 2), (57, .iconst 1, 1), (58, .iadd, 1), (59, .aaload, 1), (60, .invokestatic 105, 3), (63, .iinc 5 1, 3), (66, .goto (-29), 3), (69, .iload_n 3, 1), (70, .aload_n 0, 1), (71, .getfield 19, 3), (74, .iload_n 2, 1), (75, .aaload, 1), (76, .iload 4, 2), (78, .iaload, 1), (79, .iadd, 1), (80, .istore_n 3, 1), (81, .iinc 4 1, 3), (84, .goto (-79), 3), (87, .iload_n 3, 1), (88, .ireturn, 1)]
set_option maxRecDepth 20000 in
theorem oX4_countFixed : CtOk mX4_countFixed.2.1 tX4_countFixed := by unfold CtOk; decide +kernel
set_option maxRecDepth 20000 in
theorem kX4_countFixed : MK mX4_countFixed := ⟨tj6 10 (by rfl) rfl, tj1 6 (by rfl) rfl, by decide +kernel, by decide +kernel, by decide +kernel⟩
theorem vX4_countFixed : MKv mX4_countFixed 4 := ⟨tj6 8 (by rfl) rfl, tj6 9 (by rfl) rfl, _, _, rfl⟩
def mX4_stepAlongFixed : Mi := (yX4_stepAlongFixed, cX4_stepAlongFixed, 6, none, 3)
def tX4_stepAlongFixed : Ct := [(0, .aload_n 2, 1), (1, .iconst 0, 1), (2, .invokestatic 72, 3), (5, .iconst 0, 1), (6, .istore_n 3, 1), (7, .iload_n 3, 1), (8, .aload_n 0, 1), (9, .getfield 42, 3), (12, .if_icmp .ge 70, 3), (15, .iconst 0, 1), (16, .istore 4, 2), (18, .iload 4, 2), (20, .aload_n 0, 1), (21, .getfield 63, 3), (24, .if_icmp .ge 52, 3), (27, .iload_n 3, 1), (28, .aload_n 0, 1), (29, .getfield 63, 3), (32, .imul, 1), (33, .iload 4, 2), (35, .iadd, 1), (36, .istore 5, 2), (38, .aload_n 0, 1), (39, .getfield 81, 3), (42, .iload 5, 2), (44, .iaload, 1), (45, .aload_n 0, 1), (46, .getfield 109, 3), (49, .iload 5, 2), (51, .iaload, 1), (52, .if_icmp .ne 18, 3), (55, .aload_n 2, 1), (56, .aload_n 0, 1), (57, .getfield 69, 3), (60, .iload 5, 2), (62, .iaload, 1), (63, .dup2, 1), (64, .iaload, 1), (65, .aload_n 1, 1), (66, .iload_n 3, 1), (67, .iaload, 1), (68, .iadd, 1), (69, .iastore, 1), (70, .iinc 4 1, 3), (73, .goto (-55), 3), (76, .iinc 3 1, 3), (79, .goto (-72), 3), (82, .return_, 1)]
set_option maxRecDepth 20000 in
theorem oX4_stepAlongFixed : CtOk mX4_stepAlongFixed.2.1 tX4_stepAlongFixed := by unfold CtOk; decide +kernel
set_option maxRecDepth 20000 in
theorem kX4_stepAlongFixed : MK mX4_stepAlongFixed := ⟨tj6 13 (by rfl) rfl, tj1 6 (by rfl) rfl, by decide +kernel, by decide +kernel, by decide +kernel⟩
theorem sX4_stepAlongFixed : Cond.static mX4_stepAlongFixed.1 ∈ TSg := tj6 12 (by rfl) rfl
def mX5_empty : Mi := (yX5_empty, cX5_empty, 1, none, 0)
def tX5_empty : Ct := [(0, .aload_n 0, 1), (1, .getfield 9, 3), (4, .iconst 0, 1), (5, .invokestatic 18, 3), (8, .aload_n 0, 1), (9, .getfield 15, 3), (12, .iconst 0, 1), (13, .invokestatic 18, 3), (16, .return_, 1)]
set_option maxRecDepth 20000 in
theorem oX5_empty : CtOk mX5_empty.2.1 tX5_empty := by unfold CtOk; decide +kernel
set_option maxRecDepth 20000 in
theorem kX5_empty : MK mX5_empty := ⟨tj3 39 (by rfl) rfl, tj1 3 (by rfl) rfl, by decide +kernel, by decide +kernel, by decide +kernel⟩
theorem vX5_empty : MKv mX5_empty 5 := ⟨tj3 37 (by rfl) rfl, tj3 38 (by rfl) rfl, _, _, rfl⟩
def mX5_put : Mi := (yX5_put, cX5_put, 4, none, 3)
def tX5_put : Ct := [(0, .aload_n 0, 1), (1, .getfield 9, 3), (4, .iload_n 1, 1), (5, .iload_n 2, 1), (6, .iastore, 1), (7, .aload_n 0, 1), (8, .getfield 15, 3), (11, .iload_n 1, 1), (12, .iload_n 3, 1), (13, .iastore, 1), (14, .return_, 1)]
set_option maxRecDepth 20000 in
theorem oX5_put : CtOk mX5_put.2.1 tX5_put := by unfold CtOk; decide +kernel
set_option maxRecDepth 20000 in
theorem kX5_put : MK mX5_put := ⟨tj4 47 (by rfl) rfl, tj1 3 (by rfl) rfl, by decide +kernel, by decide +kernel, by decide +kernel⟩
theorem vX5_put : MKv mX5_put 5 := ⟨tj4 45 (by rfl) rfl, tj4 46 (by rfl) rfl, _, _, rfl⟩
def mX5_copyFrom : Mi := (yX5_copyFrom, cX5_copyFrom, 2, none, 1)
def tX5_copyFrom : Ct := [(0, .aload_n 1, 1), (1, .getfield 9, 3), (4, .iconst 0, 1), (5, .aload_n 0, 1), (6, .getfield 9, 3), (9, .iconst 0, 1), (10, .iconst 4, 1), (11, .invokestatic 24, 3), (14, .aload_n 1, 1), (15, .getfield 15, 3), (18, .iconst 0, 1), (19, .aload_n 0, 1), (20, .getfield 15, 3), (23, .iconst 0, 1), (24, .iconst 4, 1), (25, .invokestatic 24, 3), (28, .return_, 1)]
set_option maxRecDepth 20000 in
theorem oX5_copyFrom : CtOk mX5_copyFrom.2.1 tX5_copyFrom := by unfold CtOk; decide +kernel
set_option maxRecDepth 20000 in
theorem kX5_copyFrom : MK mX5_copyFrom := ⟨tj2 191 (by rfl) rfl, tj1 3 (by rfl) rfl, by decide +kernel, by decide +kernel, by decide +kernel⟩
theorem vX5_copyFrom : MKv mX5_copyFrom 5 := ⟨tj2 189 (by rfl) rfl, tj2 190 (by rfl) rfl, _, _, rfl⟩
def mX6_exists : Mi := (yX6_exists, cX6_exists, 2, some .boolean, 2)
def tX6_exists : Ct := [(0, .iload_n 1, 1), (1, .iconst 2, 1), (2, .if_icmp .lt 27, 3), (5, .iload_n 0, 1), (6, .iconst 2, 1), (7, .if_icmp .ne 8, 3), (10, .iload_n 1, 1), (11, .iconst 4, 1), (12, .if_icmp .le 13, 3), (15, .iload_n 0, 1), (16, .iconst 3, 1), (17, .if_icmp .ne 12, 3), (20, .iload_n 1, 1), (21, .iconst 3, 1), (22, .if_icmp .gt 7, 3), (25, .iconst 1, 1), (26, .goto 4, 3), (29, .iconst 0, 1), (30, .ireturn, 1)]
set_option maxRecDepth 20000 in
theorem oX6_exists : CtOk mX6_exists.2.1 tX6_exists := by unfold CtOk; decide +kernel
set_option maxRecDepth 20000 in
theorem kX6_exists : MK mX6_exists := ⟨tj2 203 (by rfl) rfl, tj1 2 (by rfl) rfl, by decide +kernel, by decide +kernel, by decide +kernel⟩
theorem sX6_exists : Cond.static mX6_exists.1 ∈ TSg := tj2 202 (by rfl) rfl
def mX6_resize : Mi := (yX6_resize, cX6_resize, 6, none, 2)
def tX6_resize : Ct := [(0, .aload_n 0, 1), (1, .iload_n 1, 1), (2, .putfield 29, 3), (5, .aload_n 0, 1), (6, .iload_n 2, 1), (7, .putfield 33, 3), (10, .aload_n 0, 1), (11, .aload_n 0, 1), (12, .iload_n 2, 1), (13, .iconst 1, 1), (14, .isub, 1), (15, .invokevirtual 36, 3), (18, .putfield 40, 3), (21, .aload_n 0, 1), (22, .aload_n 0, 1), (23, .getfield 40, 3), (26, .iload_n 1, 1), (27, .imul, 1), (28, .putfield 43, 3), (31, .iconst 0, 1), (32, .istore_n 3, 1), (33, .iconst 0, 1), (34, .istore 4, 2), (36, .iconst 0, 1), (37, .istore 5, 2), (39, .iload 5, 2), (41, .aload_n 0, 1), (42, .getfield 43, 3), (45, .if_icmp .ge 50, 3), (48, .aload_n 0, 1), (49, .getfield 9, 3), (52, .iload 5, 2), (54, .iconst 0, 1), (55, .iastore, 1), (56, .aload_n 0, 1), (57, .getfield 13, 3), (60, .iload 5, 2), (62, .iload_n 3, 1), (63, .iastore, 1), (64, .aload_n 0, 1), (65, .getfield 16, 3), (68, .iload 5, 2), (70, .iload 4, 2), (72, .iastore, 1), (73, .iinc 3 1, 3), (76, .iload_n 3, 1), (77, .aload_n 0, 1), (78, .getfield 40, 3), (81, .if_icmp .ne 8, 3), (84, .iconst 0, 1), (85, .istore_n 3, 1), (86, .iinc 4 1, 3), (89, .iinc 5 1, 3), (92, .goto (-53), 3), (95, .return_, 1)]
set_option maxRecDepth 20000 in
theorem oX6_resize : CtOk mX6_resize.2.1 tX6_resize := by unfold CtOk; decide +kernel
set_option maxRecDepth 20000 in
theorem kX6_resize : MK mX6_resize := ⟨tj1 49 (by rfl) rfl, tj1 2 (by rfl) rfl, by decide +kernel, by decide +kernel, by decide +kernel⟩
theorem vX6_resize : MKv mX6_resize 6 := ⟨tj1 47 (by rfl) rfl, tj1 48 (by rfl) rfl, _, _, rfl⟩
def mX6_copyFrom : Mi := (yX6_copyFrom, cX6_copyFrom, 2, none, 1)
def tX6_copyFrom : Ct := [(0, .aload_n 0, 1), (1, .aload_n 1, 1), (2, .getfield 29, 3), (5, .aload_n 1, 1), (6, .getfield 33, 3), (9, .invokevirtual 25, 3), (12, .aload_n 1, 1), (13, .getfield 9, 3), (16, .iconst 0, 1), (17, .aload_n 0, 1), (18, .getfield 9, 3), (21, .iconst 0, 1), (22, .bipush 27, 2), (24, .invokestatic 46, 3), (27, .return_, 1)]
set_option maxRecDepth 20000 in
theorem oX6_copyFrom : CtOk mX6_copyFrom.2.1 tX6_copyFrom := by unfold CtOk; decide +kernel
set_option maxRecDepth 20000 in
theorem kX6_copyFrom : MK mX6_copyFrom := ⟨tj2 184 (by rfl) rfl, tj1 2 (by rfl) rfl, by decide +kernel, by decide +kernel, by decide +kernel⟩
theorem vX6_copyFrom : MKv mX6_copyFrom 6 := ⟨tj2 182 (by rfl) rfl, tj2 183 (by rfl) rfl, _, _, rfl⟩
def mX6_takeTable : Mi := (yX6_takeTable, cX6_takeTable, 4, some .int, 1)
def tX6_takeTable : Ct := [(0, .iconst 0, 1), (1, .istore_n 2, 1), (2, .iconst 0, 1), (3, .istore_n 3, 1), (4, .iload_n 3, 1), (5, .aload_n 0, 1), (6, .getfield 43, 3), (9, .if_icmp .ge 38, 3), (12, .iload_n 2, 1), (13, .aload_n 0, 1), (14, .getfield 9, 3), (17, .iload_n 3, 1), (18, .iaload, 1), (19, .aload_n 1, 1), (20, .iload_n 3, 1), (21, .iaload, 1), (22, .if_icmp .ne 7, 3), (25, .iconst 0, 1), (26, .goto 4, 3), (29, .iconst 1, 1), (30, .iadd, 1), (31, .istore_n 2, 1), (32, .aload_n 0, 1), (33, .getfield 9, 3), (36, .iload_n 3, 1), (37, .aload_n 1, 1), (38, .iload_n 3, 1), (39, .iaload, 1), (40, .iastore, 1), (41, .iinc 3 1, 3), (44, .goto (-40), 3), (47, .iload_n 2, 1), (48, .ireturn, 1)]
set_option maxRecDepth 20000 in
theorem oX6_takeTable : CtOk mX6_takeTable.2.1 tX6_takeTable := by unfold CtOk; decide +kernel
set_option maxRecDepth 20000 in
theorem kX6_takeTable : MK mX6_takeTable := ⟨tj2 114 (by rfl) rfl, tj1 2 (by rfl) rfl, by decide +kernel, by decide +kernel, by decide +kernel⟩
theorem vX6_takeTable : MKv mX6_takeTable 6 := ⟨tj2 112 (by rfl) rfl, tj2 113 (by rfl) rfl, _, _, rfl⟩
def mX6_countOfWords : Mi := (yX6_countOfWords, cX6_countOfWords, 4, some .int, 1)
def tX6_countOfWords : Ct := [(0, .iconst 1, 1), (1, .istore_n 2, 1), (2, .iconst 0, 1), (3, .istore_n 3, 1), (4, .iload_n 3, 1), (5, .iload_n 1, 1), (6, .if_icmp .ge 16, 3), (9, .iload_n 2, 1), (10, .aload_n 0, 1), (11, .getfield 29, 3), (14, .imul, 1), (15, .istore_n 2, 1), (16, .iinc 3 1, 3), (19, .goto (-15), 3), (22, .iload_n 2, 1), (23, .ireturn, 1)]
set_option maxRecDepth 20000 in
theorem oX6_countOfWords : CtOk mX6_countOfWords.2.1 tX6_countOfWords := by unfold CtOk; decide +kernel
set_option maxRecDepth 20000 in
theorem kX6_countOfWords : MK mX6_countOfWords := ⟨tj1 53 (by rfl) rfl, tj1 2 (by rfl) rfl, by decide +kernel, by decide +kernel, by decide +kernel⟩
theorem vX6_countOfWords : MKv mX6_countOfWords 6 := ⟨tj1 51 (by rfl) rfl, tj1 52 (by rfl) rfl, _, _, rfl⟩
def mX6_countOfRules : Mi := (yX6_countOfRules, cX6_countOfRules, 4, some .long, 0)
def tX6_countOfRules : Ct := [(0, .lconst 1, 1), (1, .lstore_n 1, 1), (2, .iconst 0, 1), (3, .istore_n 3, 1), (4, .iload_n 3, 1), (5, .aload_n 0, 1), (6, .getfield 43, 3), (9, .if_icmp .ge 17, 3), (12, .lload_n 1, 1), (13, .aload_n 0, 1), (14, .getfield 29, 3), (17, .i2l, 1), (18, .lmul, 1), (19, .lstore_n 1, 1), (20, .iinc 3 1, 3), (23, .goto (-19), 3), (26, .lload_n 1, 1), (27, .lreturn, 1)]
set_option maxRecDepth 20000 in
theorem oX6_countOfRules : CtOk mX6_countOfRules.2.1 tX6_countOfRules := by unfold CtOk; decide +kernel
set_option maxRecDepth 20000 in
theorem kX6_countOfRules : MK mX6_countOfRules := ⟨tj3 115 (by rfl) rfl, tj1 2 (by rfl) rfl, by decide +kernel, by decide +kernel, by decide +kernel⟩
theorem vX6_countOfRules : MKv mX6_countOfRules 6 := ⟨tj3 113 (by rfl) rfl, tj3 114 (by rfl) rfl, _, _, rfl⟩
def mX6_numberOf : Mi := (yX6_numberOf, cX6_numberOf, 5, some .long, 1)
def tX6_numberOf : Ct := [(0, .lconst 0, 1), (1, .lstore_n 2, 1), (2, .aload_n 0, 1), (3, .getfield 43, 3), (6, .iconst 1, 1), (7, .isub, 1), (8, .istore 4, 2), (10, .iload 4, 2), (12, .ifCond .lt 23, 3), (15, .lload_n 2, 1), (16, .aload_n 0, 1), (17, .getfield 29, 3), (20, .i2l, 1), (21, .lmul, 1), (22, .aload_n 1, 1), (23, .iload 4, 2), (25, .iaload, 1), (26, .i2l, 1), (27, .ladd, 1), (28, .lstore_n 2, 1), (29, .iinc 4 (-1), 3), (32, .goto (-22), 3), (35, .lload_n 2, 1), (36, .lreturn, 1)]
set_option maxRecDepth 20000 in
theorem oX6_numberOf : CtOk mX6_numberOf.2.1 tX6_numberOf := by unfold CtOk; decide +kernel
set_option maxRecDepth 20000 in
theorem kX6_numberOf : MK mX6_numberOf := ⟨tj2 90 (by rfl) rfl, tj1 2 (by rfl) rfl, by decide +kernel, by decide +kernel, by decide +kernel⟩
theorem vX6_numberOf : MKv mX6_numberOf 6 := ⟨tj2 88 (by rfl) rfl, tj2 89 (by rfl) rfl, _, _, rfl⟩
def mX6_spreadNumber : Mi := (yX6_spreadNumber, cX6_spreadNumber, 7, none, 2)
def tX6_spreadNumber : Ct := [(0, .lload_n 1, 1), (1, .lstore 4, 2), (3, .iconst 0, 1), (4, .istore 6, 2), (6, .iload 6, 2), (8, .aload_n 0, 1), (9, .getfield 43, 3), (12, .if_icmp .ge 62, 3), (15, .aload_n 3, 1), (16, .iload 6, 2), (18, .aload_n 0, 1), (19, .getfield 29, 3), (22, .iconst 2, 1), (23, .if_icmp .ne 12, 3), (26, .lload 4, 2), (28, .ldc2_w 52, 3), (31, .lrem, 1), (32, .goto 9, 3), (35, .lload 4, 2), (37, .ldc2_w 54, 3), (40, .lrem, 1), (41, .l2i, 1), (42, .iastore, 1), (43, .aload_n 0, 1), (44, .getfield 29, 3), (47, .iconst 2, 1), (48, .if_icmp .ne 12, 3), (51, .lload 4, 2), (53, .ldc2_w 52, 3), (56, .ldiv, 1), (57, .goto 9, 3), (60, .lload 4, 2), (62, .ldc2_w 54, 3), (65, .ldiv, 1), (66, .lstore 4, 2), (68, .iinc 6 1, 3), (71, .goto (-65), 3), (74, .return_, 1)]
set_option maxRecDepth 20000 in
theorem oX6_spreadNumber : CtOk mX6_spreadNumber.2.1 tX6_spreadNumber := by unfold CtOk; decide +kernel
set_option maxRecDepth 20000 in
theorem kX6_spreadNumber : MK mX6_spreadNumber := ⟨tj3 120 (by rfl) rfl, tj1 2 (by rfl) rfl, by decide +kernel, by decide +kernel, by decide +kernel⟩
theorem vX6_spreadNumber : MKv mX6_spreadNumber 6 := ⟨tj3 118 (by rfl) rfl, tj3 119 (by rfl) rfl, _, _, rfl⟩
def mX6_lastCell : Mi := (yX6_lastCell, cX6_lastCell, 2, some .int, 1)
def tX6_lastCell : Ct := [(0, .aload_n 0, 1), (1, .getfield 29, 3), (4, .iconst 2, 1), (5, .if_icmp .ne 9, 3), (8, .iload_n 1, 1), (9, .iconst 2, 1), (10, .irem, 1), (11, .goto 6, 3), (14, .iload_n 1, 1), (15, .iconst 3, 1), (16, .irem, 1), (17, .ireturn, 1)]
set_option maxRecDepth 20000 in
theorem oX6_lastCell : CtOk mX6_lastCell.2.1 tX6_lastCell := by unfold CtOk; decide +kernel
set_option maxRecDepth 20000 in
theorem kX6_lastCell : MK mX6_lastCell := ⟨tj2 106 (by rfl) rfl, tj1 2 (by rfl) rfl, by decide +kernel, by decide +kernel, by decide +kernel⟩
theorem vX6_lastCell : MKv mX6_lastCell 6 := ⟨tj2 104 (by rfl) rfl, tj2 105 (by rfl) rfl, _, _, rfl⟩
def mX6_withoutLastCell : Mi := (yX6_withoutLastCell, cX6_withoutLastCell, 2, some .int, 1)
def tX6_withoutLastCell : Ct := [(0, .aload_n 0, 1), (1, .getfield 29, 3), (4, .iconst 2, 1), (5, .if_icmp .ne 9, 3), (8, .iload_n 1, 1), (9, .iconst 2, 1), (10, .idiv, 1), (11, .goto 6, 3), (14, .iload_n 1, 1), (15, .iconst 3, 1), (16, .idiv, 1), (17, .ireturn, 1)]
set_option maxRecDepth 20000 in
theorem oX6_withoutLastCell : CtOk mX6_withoutLastCell.2.1 tX6_withoutLastCell := by unfold CtOk; decide +kernel
set_option maxRecDepth 20000 in
theorem kX6_withoutLastCell : MK mX6_withoutLastCell := ⟨tj2 110 (by rfl) rfl, tj1 2 (by rfl) rfl, by decide +kernel, by decide +kernel, by decide +kernel⟩
theorem vX6_withoutLastCell : MKv mX6_withoutLastCell 6 := ⟨tj2 108 (by rfl) rfl, tj2 109 (by rfl) rfl, _, _, rfl⟩
def mX6_cellOf : Mi := (yX6_cellOf, cX6_cellOf, 6, some .int, 3)
def tX6_cellOf : Ct := [(0, .iload_n 1, 1), (1, .istore 4, 2), (3, .iload_n 2, 1), (4, .iconst 1, 1), (5, .isub, 1), (6, .istore 5, 2), (8, .iload 5, 2), (10, .iload_n 3, 1), (11, .if_icmp .le 17, 3), (14, .aload_n 0, 1), (15, .iload 4, 2), (17, .invokevirtual 56, 3), (20, .istore 4, 2), (22, .iinc 5 (-1), 3), (25, .goto (-17), 3), (28, .aload_n 0, 1), (29, .iload 4, 2), (31, .invokevirtual 59, 3), (34, .ireturn, 1)]
set_option maxRecDepth 20000 in
theorem oX6_cellOf : CtOk mX6_cellOf.2.1 tX6_cellOf := by unfold CtOk; decide +kernel
set_option maxRecDepth 20000 in
theorem kX6_cellOf : MK mX6_cellOf := ⟨tj4 73 (by rfl) rfl, tj1 2 (by rfl) rfl, by decide +kernel, by decide +kernel, by decide +kernel⟩
theorem vX6_cellOf : MKv mX6_cellOf 6 := ⟨tj4 71 (by rfl) rfl, tj4 72 (by rfl) rfl, _, _, rfl⟩
def mX6_spreadWord : Mi := (yX6_spreadWord, cX6_spreadWord, 6, none, 3)
def tX6_spreadWord : Ct := [(0, .iload_n 1, 1), (1, .istore 4, 2), (3, .iload_n 2, 1), (4, .iconst 1, 1), (5, .isub, 1), (6, .istore 5, 2), (8, .iload 5, 2), (10, .ifCond .lt 27, 3), (13, .aload_n 3, 1), (14, .iload 5, 2), (16, .aload_n 0, 1), (17, .iload 4, 2), (19, .invokevirtual 59, 3), (22, .iastore, 1), (23, .aload_n 0, 1), (24, .iload 4, 2), (26, .invokevirtual 56, 3), (29, .istore 4, 2), (31, .iinc 5 (-1), 3), (34, .goto (-26), 3), (37, .return_, 1)]
set_option maxRecDepth 20000 in
theorem oX6_spreadWord : CtOk mX6_spreadWord.2.1 tX6_spreadWord := by unfold CtOk; decide +kernel
set_option maxRecDepth 20000 in
theorem kX6_spreadWord : MK mX6_spreadWord := ⟨tj2 102 (by rfl) rfl, tj1 2 (by rfl) rfl, by decide +kernel, by decide +kernel, by decide +kernel⟩
theorem vX6_spreadWord : MKv mX6_spreadWord 6 := ⟨tj2 100 (by rfl) rfl, tj2 101 (by rfl) rfl, _, _, rfl⟩
def mX6_mirrorTable : Mi := (yX6_mirrorTable, cX6_mirrorTable, 6, none, 2)
def tX6_mirrorTable : Ct := [(0, .iconst 0, 1), (1, .istore_n 3, 1), (2, .iload_n 3, 1), (3, .aload_n 0, 1), (4, .getfield 43, 3), (7, .if_icmp .ge 68, 3), (10, .aload_n 0, 1), (11, .iload_n 3, 1), (12, .aload_n 0, 1), (13, .getfield 33, 3), (16, .aload_n 0, 1), (17, .getfield 19, 3), (20, .invokevirtual 62, 3), (23, .iconst 0, 1), (24, .istore 4, 2), (26, .aload_n 0, 1), (27, .getfield 33, 3), (30, .iconst 1, 1), (31, .isub, 1), (32, .istore 5, 2), (34, .iload 5, 2), (36, .ifCond .lt 26, 3), (39, .iload 4, 2), (41, .aload_n 0, 1), (42, .getfield 29, 3), (45, .imul, 1), (46, .aload_n 0, 1), (47, .getfield 19, 3), (50, .iload 5, 2), (52, .iaload, 1), (53, .iadd, 1), (54, .istore 4, 2), (56, .iinc 5 (-1), 3), (59, .goto (-25), 3), (62, .aload_n 2, 1), (63, .iload_n 3, 1), (64, .aload_n 1, 1), (65, .iload 4, 2), (67, .iaload, 1), (68, .iastore, 1), (69, .iinc 3 1, 3), (72, .goto (-70), 3), (75, .return_, 1)]
set_option maxRecDepth 20000 in
theorem oX6_mirrorTable : CtOk mX6_mirrorTable.2.1 tX6_mirrorTable := by unfold CtOk; decide +kernel
set_option maxRecDepth 20000 in
theorem kX6_mirrorTable : MK mX6_mirrorTable := ⟨tj2 98 (by rfl) rfl, tj1 2 (by rfl) rfl, by decide +kernel, by decide +kernel, by decide +kernel⟩
theorem vX6_mirrorTable : MKv mX6_mirrorTable 6 := ⟨tj2 96 (by rfl) rfl, tj2 97 (by rfl) rfl, _, _, rfl⟩
def mX6_complementTable : Mi := (yX6_complementTable, cX6_complementTable, 4, none, 2)
def tX6_complementTable : Ct := [(0, .iconst 0, 1), (1, .istore_n 3, 1), (2, .iload_n 3, 1), (3, .aload_n 0, 1), (4, .getfield 43, 3), (7, .if_icmp .ge 29, 3), (10, .aload_n 2, 1), (11, .iload_n 3, 1), (12, .aload_n 0, 1), (13, .getfield 29, 3), (16, .iconst 1, 1), (17, .isub, 1), (18, .aload_n 1, 1), (19, .aload_n 0, 1), (20, .getfield 43, 3), (23, .iconst 1, 1), (24, .isub, 1), (25, .iload_n 3, 1), (26, .isub, 1), (27, .iaload, 1), (28, .isub, 1), (29, .iastore, 1), (30, .iinc 3 1, 3), (33, .goto (-31), 3), (36, .return_, 1)]
set_option maxRecDepth 20000 in
theorem oX6_complementTable : CtOk mX6_complementTable.2.1 tX6_complementTable := by unfold CtOk; decide +kernel
set_option maxRecDepth 20000 in
theorem kX6_complementTable : MK mX6_complementTable := ⟨tj2 122 (by rfl) rfl, tj1 2 (by rfl) rfl, by decide +kernel, by decide +kernel, by decide +kernel⟩
theorem vX6_complementTable : MKv mX6_complementTable 6 := ⟨tj2 120 (by rfl) rfl, tj2 121 (by rfl) rfl, _, _, rfl⟩
def mX6_isLeftPermutive : Mi := (yX6_isLeftPermutive, cX6_isLeftPermutive, 2, some .boolean, 0)
def tX6_isLeftPermutive : Ct := [(0, .iconst 0, 1), (1, .istore_n 1, 1), (2, .iload_n 1, 1), (3, .aload_n 0, 1), (4, .getfield 40, 3), (7, .if_icmp .ge 23, 3), (10, .aload_n 0, 1), (11, .iload_n 1, 1), (12, .aload_n 0, 1), (13, .getfield 40, 3), (16, .invokevirtual 66, 3), (19, .ifCond .ne 5, 3), (22, .iconst 0, 1), (23, .ireturn, 1), (24, .iinc 1 1, 3), (27, .goto (-25), 3), (30, .iconst 1, 1), (31, .ireturn, 1)]
set_option maxRecDepth 20000 in
theorem oX6_isLeftPermutive : CtOk mX6_isLeftPermutive.2.1 tX6_isLeftPermutive := by unfold CtOk; decide +kernel
set_option maxRecDepth 20000 in
theorem kX6_isLeftPermutive : MK mX6_isLeftPermutive := ⟨tj6 71 (by rfl) rfl, tj1 2 (by rfl) rfl, by decide +kernel, by decide +kernel, by decide +kernel⟩
theorem vX6_isLeftPermutive : MKv mX6_isLeftPermutive 6 := ⟨tj6 69 (by rfl) rfl, tj6 70 (by rfl) rfl, _, _, rfl⟩
def mX6_isRightPermutive : Mi := (yX6_isRightPermutive, cX6_isRightPermutive, 2, some .boolean, 0)
def tX6_isRightPermutive : Ct := [(0, .iconst 0, 1), (1, .istore_n 1, 1), (2, .iload_n 1, 1), (3, .aload_n 0, 1), (4, .getfield 40, 3), (7, .if_icmp .ge 25, 3), (10, .aload_n 0, 1), (11, .iload_n 1, 1), (12, .aload_n 0, 1), (13, .getfield 29, 3), (16, .imul, 1), (17, .iconst 1, 1), (18, .invokevirtual 66, 3), (21, .ifCond .ne 5, 3), (24, .iconst 0, 1), (25, .ireturn, 1), (26, .iinc 1 1, 3), (29, .goto (-27), 3), (32, .iconst 1, 1), (33, .ireturn, 1)]
set_option maxRecDepth 20000 in
theorem oX6_isRightPermutive : CtOk mX6_isRightPermutive.2.1 tX6_isRightPermutive := by unfold CtOk; decide +kernel
set_option maxRecDepth 20000 in
theorem kX6_isRightPermutive : MK mX6_isRightPermutive := ⟨tj6 79 (by rfl) rfl, tj1 2 (by rfl) rfl, by decide +kernel, by decide +kernel, by decide +kernel⟩
theorem vX6_isRightPermutive : MKv mX6_isRightPermutive 6 := ⟨tj6 77 (by rfl) rfl, tj6 78 (by rfl) rfl, _, _, rfl⟩
def mX6_areDifferent : Mi := (yX6_areDifferent, cX6_areDifferent, 5, some .boolean, 2)
def tX6_areDifferent : Ct := [(0, .iconst 0, 1), (1, .istore_n 3, 1), (2, .iconst 0, 1), (3, .istore 4, 2), (5, .iload 4, 2), (7, .aload_n 0, 1), (8, .getfield 29, 3), (11, .if_icmp .ge 25, 3), (14, .iload_n 3, 1), (15, .iconst 1, 1), (16, .aload_n 0, 1), (17, .getfield 9, 3), (20, .iload_n 1, 1), (21, .iload 4, 2), (23, .iload_n 2, 1), (24, .imul, 1), (25, .iadd, 1), (26, .iaload, 1), (27, .ishl, 1), (28, .ior, 1), (29, .istore_n 3, 1), (30, .iinc 4 1, 3), (33, .goto (-28), 3), (36, .iload_n 3, 1), (37, .iconst 1, 1), (38, .aload_n 0, 1), (39, .getfield 29, 3), (42, .ishl, 1), (43, .iconst 1, 1), (44, .isub, 1), (45, .if_icmp .ne 7, 3), (48, .iconst 1, 1), (49, .goto 4, 3), (52, .iconst 0, 1), (53, .ireturn, 1)]
set_option maxRecDepth 20000 in
theorem oX6_areDifferent : CtOk mX6_areDifferent.2.1 tX6_areDifferent := by unfold CtOk; decide +kernel
set_option maxRecDepth 20000 in
theorem kX6_areDifferent : MK mX6_areDifferent := ⟨tj6 75 (by rfl) rfl, tj1 2 (by rfl) rfl, by decide +kernel, by decide +kernel, by decide +kernel⟩
theorem vX6_areDifferent : MKv mX6_areDifferent 6 := ⟨tj6 74 (by rfl) rfl, tb0 28 (by rfl) rfl, _, _, rfl⟩
def mX6_isBalanced : Mi := (yX6_isBalanced, cX6_isBalanced, 2, some .boolean, 0)
def tX6_isBalanced : Ct := [(0, .aload_n 0, 1), (1, .getfield 22, 3), (4, .iconst 0, 1), (5, .invokestatic 70, 3), (8, .iconst 0, 1), (9, .istore_n 1, 1), (10, .iload_n 1, 1), (11, .aload_n 0, 1), (12, .getfield 43, 3), (15, .if_icmp .ge 24, 3), (18, .aload_n 0, 1), (19, .getfield 22, 3), (22, .aload_n 0, 1), (23, .getfield 9, 3), (26, .iload_n 1, 1), (27, .iaload, 1), (28, .dup2, 1), (29, .iaload, 1), (30, .iconst 1, 1), (31, .iadd, 1), (32, .iastore, 1), (33, .iinc 1 1, 3), (36, .goto (-26), 3), (39, .iconst 0, 1), (40, .istore_n 1, 1), (41, .iload_n 1, 1), (42, .aload_n 0, 1), (43, .getfield 29, 3), (46, .if_icmp .ge 24, 3), (49, .aload_n 0, 1), (50, .getfield 22, 3), (53, .iload_n 1, 1), (54, .iaload, 1), (55, .aload_n 0, 1), (56, .getfield 40, 3), (59, .if_icmp .eq 5, 3), (62, .iconst 0, 1), (63, .ireturn, 1), (64, .iinc 1 1, 3), (67, .goto (-26), 3), (70, .iconst 1, 1), (71, .ireturn, 1)]
set_option maxRecDepth 20000 in
theorem oX6_isBalanced : CtOk mX6_isBalanced.2.1 tX6_isBalanced := by unfold CtOk; decide +kernel
set_option maxRecDepth 20000 in
theorem kX6_isBalanced : MK mX6_isBalanced := ⟨tj6 83 (by rfl) rfl, tj1 2 (by rfl) rfl, by decide +kernel, by decide +kernel, by decide +kernel⟩
theorem vX6_isBalanced : MKv mX6_isBalanced 6 := ⟨tj6 81 (by rfl) rfl, tj6 82 (by rfl) rfl, _, _, rfl⟩
def mX7_explore : Mi := (yX7_explore, cX7_explore, 5, none, 1)
def tX7_explore : Ct := [(0, .aload_n 0, 1), (1, .aload_n 1, 1), (2, .invokevirtual 40, 3), (5, .aload_n 0, 1), (6, .getfield 17, 3), (9, .iconst (-1), 1), (10, .invokestatic 44, 3), (13, .aload_n 0, 1), (14, .iconst 0, 1), (15, .putfield 7, 3), (18, .aload_n 0, 1), (19, .iconst 1, 1), (20, .aload_n 1, 1), (21, .getfield 50, 3), (24, .ishl, 1), (25, .iconst 1, 1), (26, .isub, 1), (27, .iconst 0, 1), (28, .iconst 0, 1), (29, .invokevirtual 53, 3), (32, .pop, 1), (33, .iconst 0, 1), (34, .istore_n 2, 1), (35, .iload_n 2, 1), (36, .aload_n 0, 1), (37, .getfield 7, 3), (40, .if_icmp .ge 86, 3), (43, .iload_n 2, 1), (44, .sipush 512, 3), (47, .if_icmp .ge 79, 3), (50, .iconst 0, 1), (51, .istore_n 3, 1), (52, .iload_n 3, 1), (53, .aload_n 1, 1), (54, .getfield 57, 3), (57, .if_icmp .ge 63, 3), (60, .aload_n 0, 1), (61, .aload_n 1, 1), (62, .aload_n 0, 1), (63, .getfield 13, 3), (66, .iload_n 2, 1), (67, .iaload, 1), (68, .iload_n 3, 1), (69, .invokevirtual 60, 3), (72, .istore 4, 2), (74, .aload_n 0, 1), (75, .getfield 28, 3), (78, .iload_n 2, 1), (79, .aload_n 1, 1), (80, .getfield 57, 3), (83, .imul, 1), (84, .iload_n 3, 1), (85, .iadd, 1), (86, .aload_n 0, 1), (87, .iload 4, 2), (89, .aload_n 0, 1), (90, .getfield 20, 3), (93, .iload_n 2, 1), (94, .iaload, 1), (95, .iconst 1, 1), (96, .iadd, 1), (97, .aload_n 0, 1), (98, .getfield 23, 3), (101, .iload_n 2, 1), (102, .iaload, 1), (103, .aload_n 1, 1), (104, .getfield 57, 3), (107, .imul, 1), (108, .iload_n 3, 1), (109, .iadd, 1), (110, .invokevirtual 53, 3), (113, .iastore, 1), (114, .iinc 3 1, 3), (117, .goto (-65), 3), (120, .iinc 2 1, 3), (123, .goto (-88), 3), (126, .return_, 1)]
set_option maxRecDepth 20000 in
theorem oX7_explore : CtOk mX7_explore.2.1 tX7_explore := by unfold CtOk; decide +kernel
set_option maxRecDepth 20000 in
theorem kX7_explore : MK mX7_explore := ⟨tj2 137 (by rfl) rfl, tj1 7 (by rfl) rfl, by decide +kernel, by decide +kernel, by decide +kernel⟩
theorem vX7_explore : MKv mX7_explore 7 := ⟨tj2 135 (by rfl) rfl, tj2 136 (by rfl) rfl, _, _, rfl⟩
def mX7_readSingle : Mi := (yX7_readSingle, cX7_readSingle, 5, none, 1)
def tX7_readSingle : Ct := [(0, .aload_n 0, 1), (1, .getfield 31, 3), (4, .iconst 0, 1), (5, .invokestatic 44, 3), (8, .iconst 0, 1), (9, .istore_n 2, 1), (10, .iload_n 2, 1), (11, .aload_n 1, 1), (12, .getfield 50, 3), (15, .if_icmp .ge 66, 3), (18, .iconst 0, 1), (19, .istore_n 3, 1), (20, .iload_n 3, 1), (21, .aload_n 1, 1), (22, .getfield 57, 3), (25, .if_icmp .ge 50, 3), (28, .iload_n 2, 1), (29, .aload_n 1, 1), (30, .getfield 57, 3), (33, .imul, 1), (34, .iload_n 3, 1), (35, .iadd, 1), (36, .istore 4, 2), (38, .aload_n 0, 1), (39, .getfield 31, 3), (42, .iload_n 2, 1), (43, .aload_n 1, 1), (44, .getfield 57, 3), (47, .imul, 1), (48, .aload_n 1, 1), (49, .getfield 64, 3), (52, .iload 4, 2), (54, .iaload, 1), (55, .iadd, 1), (56, .dup2, 1), (57, .iaload, 1), (58, .iconst 1, 1), (59, .aload_n 1, 1), (60, .getfield 67, 3), (63, .iload 4, 2), (65, .iaload, 1), (66, .ishl, 1), (67, .ior, 1), (68, .iastore, 1), (69, .iinc 3 1, 3), (72, .goto (-52), 3), (75, .iinc 2 1, 3), (78, .goto (-68), 3), (81, .return_, 1)]
set_option maxRecDepth 20000 in
theorem oX7_readSingle : CtOk mX7_readSingle.2.1 tX7_readSingle := by unfold CtOk; decide +kernel
set_option maxRecDepth 20000 in
theorem kX7_readSingle : MK mX7_readSingle := ⟨tj2 141 (by rfl) rfl, tj1 7 (by rfl) rfl, by decide +kernel, by decide +kernel, by decide +kernel⟩
theorem vX7_readSingle : MKv mX7_readSingle 7 := ⟨tj2 140 (by rfl) rfl, tb0 0 (by rfl) rfl, _, _, rfl⟩
def mX7_successors : Mi := (yX7_successors, cX7_successors, 6, some .int, 3)
def tX7_successors : Ct := [(0, .iconst 0, 1), (1, .istore 4, 2), (3, .iconst 0, 1), (4, .istore 5, 2), (6, .iload 5, 2), (8, .aload_n 1, 1), (9, .getfield 50, 3), (12, .if_icmp .ge 37, 3), (15, .iload_n 2, 1), (16, .iload 5, 2), (18, .iushr, 1), (19, .iconst 1, 1), (20, .iand, 1), (21, .ifCond .eq 22, 3), (24, .iload 4, 2), (26, .aload_n 0, 1), (27, .getfield 31, 3), (30, .iload 5, 2), (32, .aload_n 1, 1), (33, .getfield 57, 3), (36, .imul, 1), (37, .iload_n 3, 1), (38, .iadd, 1), (39, .iaload, 1), (40, .ior, 1), (41, .istore 4, 2), (43, .iinc 5 1, 3), (46, .goto (-40), 3), (49, .iload 4, 2), (51, .ireturn, 1)]
set_option maxRecDepth 20000 in
theorem oX7_successors : CtOk mX7_successors.2.1 tX7_successors := by unfold CtOk; decide +kernel
set_option maxRecDepth 20000 in
theorem kX7_successors : MK mX7_successors := ⟨tj2 152 (by rfl) rfl, tj1 7 (by rfl) rfl, by decide +kernel, by decide +kernel, by decide +kernel⟩
theorem vX7_successors : MKv mX7_successors 7 := ⟨tj2 151 (by rfl) rfl, tb0 2 (by rfl) rfl, _, _, rfl⟩
def mX7_placeOf : Mi := (yX7_placeOf, cX7_placeOf, 4, some .int, 3)
def tX7_placeOf : Ct := [(0, .aload_n 0, 1), (1, .getfield 17, 3), (4, .iload_n 1, 1), (5, .iaload, 1), (6, .ifCond .ge 53, 3), (9, .aload_n 0, 1), (10, .getfield 17, 3), (13, .iload_n 1, 1), (14, .aload_n 0, 1), (15, .getfield 7, 3), (18, .iastore, 1), (19, .aload_n 0, 1), (20, .getfield 13, 3), (23, .aload_n 0, 1), (24, .getfield 7, 3), (27, .iload_n 1, 1), (28, .iastore, 1), (29, .aload_n 0, 1), (30, .getfield 20, 3), (33, .aload_n 0, 1), (34, .getfield 7, 3), (37, .iload_n 2, 1), (38, .iastore, 1), (39, .aload_n 0, 1), (40, .getfield 23, 3), (43, .aload_n 0, 1), (44, .getfield 7, 3), (47, .iload_n 3, 1), (48, .iastore, 1), (49, .aload_n 0, 1), (50, .dup, 1), (51, .getfield 7, 3), (54, .iconst 1, 1), (55, .iadd, 1), (56, .putfield 7, 3), (59, .aload_n 0, 1), (60, .getfield 17, 3), (63, .iload_n 1, 1), (64, .iaload, 1), (65, .ireturn, 1)]
set_option maxRecDepth 20000 in
theorem oX7_placeOf : CtOk mX7_placeOf.2.1 tX7_placeOf := by unfold CtOk; decide +kernel
set_option maxRecDepth 20000 in
theorem kX7_placeOf : MK mX7_placeOf := ⟨tj2 148 (by rfl) rfl, tj1 7 (by rfl) rfl, by decide +kernel, by decide +kernel, by decide +kernel⟩
theorem vX7_placeOf : MKv mX7_placeOf 7 := ⟨tj2 147 (by rfl) rfl, tb0 1 (by rfl) rfl, _, _, rfl⟩
def mX7_isWithoutOrphans : Mi := (yX7_isWithoutOrphans, cX7_isWithoutOrphans, 1, some .boolean, 0)
def tX7_isWithoutOrphans : Ct := [(0, .aload_n 0, 1), (1, .getfield 17, 3), (4, .iconst 0, 1), (5, .iaload, 1), (6, .ifCond .ge 7, 3), (9, .iconst 1, 1), (10, .goto 4, 3), (13, .iconst 0, 1), (14, .ireturn, 1)]
set_option maxRecDepth 20000 in
theorem oX7_isWithoutOrphans : CtOk mX7_isWithoutOrphans.2.1 tX7_isWithoutOrphans := by unfold CtOk; decide +kernel
set_option maxRecDepth 20000 in
theorem kX7_isWithoutOrphans : MK mX7_isWithoutOrphans := ⟨tj6 36 (by rfl) rfl, tj1 7 (by rfl) rfl, by decide +kernel, by decide +kernel, by decide +kernel⟩
theorem vX7_isWithoutOrphans : MKv mX7_isWithoutOrphans 7 := ⟨tj6 34 (by rfl) rfl, tj6 35 (by rfl) rfl, _, _, rfl⟩
def mX7_orphanLength : Mi := (yX7_orphanLength, cX7_orphanLength, 1, some .int, 0)
def tX7_orphanLength : Ct := [(0, .aload_n 0, 1), (1, .getfield 17, 3), (4, .iconst 0, 1), (5, .iaload, 1), (6, .ifCond .ge 7, 3), (9, .iconst 0, 1), (10, .goto 14, 3), (13, .aload_n 0, 1), (14, .getfield 20, 3), (17, .aload_n 0, 1), (18, .getfield 17, 3), (21, .iconst 0, 1), (22, .iaload, 1), (23, .iaload, 1), (24, .ireturn, 1)]
set_option maxRecDepth 20000 in
theorem oX7_orphanLength : CtOk mX7_orphanLength.2.1 tX7_orphanLength := by unfold CtOk; decide +kernel
set_option maxRecDepth 20000 in
theorem kX7_orphanLength : MK mX7_orphanLength := ⟨tj6 55 (by rfl) rfl, tj1 7 (by rfl) rfl, by decide +kernel, by decide +kernel, by decide +kernel⟩
theorem vX7_orphanLength : MKv mX7_orphanLength 7 := ⟨tj6 53 (by rfl) rfl, tj6 54 (by rfl) rfl, _, _, rfl⟩
def mX7_orphanIndex : Mi := (yX7_orphanIndex, cX7_orphanIndex, 1, some .int, 0)
def tX7_orphanIndex : Ct := [(0, .aload_n 0, 1), (1, .getfield 17, 3), (4, .iconst 0, 1), (5, .iaload, 1), (6, .ifCond .ge 7, 3), (9, .iconst 0, 1), (10, .goto 14, 3), (13, .aload_n 0, 1), (14, .getfield 23, 3), (17, .aload_n 0, 1), (18, .getfield 17, 3), (21, .iconst 0, 1), (22, .iaload, 1), (23, .iaload, 1), (24, .ireturn, 1)]
set_option maxRecDepth 20000 in
theorem oX7_orphanIndex : CtOk mX7_orphanIndex.2.1 tX7_orphanIndex := by unfold CtOk; decide +kernel
set_option maxRecDepth 20000 in
theorem kX7_orphanIndex : MK mX7_orphanIndex := ⟨tj6 60 (by rfl) rfl, tj1 7 (by rfl) rfl, by decide +kernel, by decide +kernel, by decide +kernel⟩
theorem vX7_orphanIndex : MKv mX7_orphanIndex 7 := ⟨tj6 58 (by rfl) rfl, tj6 59 (by rfl) rfl, _, _, rfl⟩
def mX7_countOrphans : Mi := (yX7_countOrphans, cX7_countOrphans, 4, some .int, 2)
def tX7_countOrphans : Ct := [(0, .aload_n 0, 1), (1, .invokevirtual 70, 3), (4, .ifCond .eq 5, 3), (7, .iconst 0, 1), (8, .ireturn, 1), (9, .aload_n 0, 1), (10, .getfield 34, 3), (13, .iconst 0, 1), (14, .invokestatic 44, 3), (17, .aload_n 0, 1), (18, .getfield 34, 3), (21, .iconst 0, 1), (22, .iconst 1, 1), (23, .iastore, 1), (24, .iconst 0, 1), (25, .istore_n 3, 1), (26, .iload_n 3, 1), (27, .iload_n 2, 1), (28, .if_icmp .ge 14, 3), (31, .aload_n 0, 1), (32, .aload_n 1, 1), (33, .invokevirtual 74, 3), (36, .iinc 3 1, 3), (39, .goto (-13), 3), (42, .aload_n 0, 1), (43, .getfield 34, 3), (46, .aload_n 0, 1), (47, .getfield 17, 3), (50, .iconst 0, 1), (51, .iaload, 1), (52, .iaload, 1), (53, .ireturn, 1)]
set_option maxRecDepth 20000 in
theorem oX7_countOrphans : CtOk mX7_countOrphans.2.1 tX7_countOrphans := by unfold CtOk; decide +kernel
set_option maxRecDepth 20000 in
theorem kX7_countOrphans : MK mX7_countOrphans := ⟨tj6 32 (by rfl) rfl, tj1 7 (by rfl) rfl, by decide +kernel, by decide +kernel, by decide +kernel⟩
theorem vX7_countOrphans : MKv mX7_countOrphans 7 := ⟨tj6 30 (by rfl) rfl, tj6 31 (by rfl) rfl, _, _, rfl⟩
def mX7_countNext : Mi := (yX7_countNext, cX7_countNext, 4, none, 1)
def tX7_countNext : Ct := [(0, .aload_n 0, 1), (1, .getfield 37, 3), (4, .iconst 0, 1), (5, .aload_n 0, 1), (6, .getfield 7, 3), (9, .iconst 0, 1), (10, .invokestatic 77, 3), (13, .iconst 0, 1), (14, .istore_n 2, 1), (15, .iload_n 2, 1), (16, .aload_n 0, 1), (17, .getfield 7, 3), (20, .if_icmp .ge 61, 3), (23, .aload_n 0, 1), (24, .getfield 34, 3), (27, .iload_n 2, 1), (28, .iaload, 1), (29, .ifCond .eq 46, 3), (32, .iconst 0, 1), (33, .istore_n 3, 1), (34, .iload_n 3, 1), (35, .aload_n 1, 1), (36, .getfield 57, 3), (39, .if_icmp .ge 36, 3), (42, .aload_n 0, 1), (43, .getfield 37, 3), (46, .aload_n 0, 1), (47, .getfield 28, 3), (50, .iload_n 2, 1), (51, .aload_n 1, 1), (52, .getfield 57, 3), (55, .imul, 1), (56, .iload_n 3, 1), (57, .iadd, 1), (58, .iaload, 1), (59, .dup2, 1), (60, .iaload, 1), (61, .aload_n 0, 1), (62, .getfield 34, 3), (65, .iload_n 2, 1), (66, .iaload, 1), (67, .iadd, 1), (68, .iastore, 1), (69, .iinc 3 1, 3), (72, .goto (-38), 3), (75, .iinc 2 1, 3), (78, .goto (-63), 3), (81, .aload_n 0, 1), (82, .getfield 37, 3), (85, .iconst 0, 1), (86, .aload_n 0, 1), (87, .getfield 34, 3), (90, .iconst 0, 1), (91, .aload_n 0, 1), (92, .getfield 7, 3), (95, .invokestatic 80, 3), (98, .return_, 1)]
set_option maxRecDepth 20000 in
theorem oX7_countNext : CtOk mX7_countNext.2.1 tX7_countNext := by unfold CtOk; decide +kernel
set_option maxRecDepth 20000 in
theorem kX7_countNext : MK mX7_countNext := ⟨tj6 40 (by rfl) rfl, tj1 7 (by rfl) rfl, by decide +kernel, by decide +kernel, by decide +kernel⟩
theorem vX7_countNext : MKv mX7_countNext 7 := ⟨tj6 39 (by rfl) rfl, tb0 27 (by rfl) rfl, _, _, rfl⟩
def mX8_setSize : Mi := (yX8_setSize, cX8_setSize, 3, some .int, 2)
def tX8_setSize : Ct := [(0, .iload_n 1, 1), (1, .iload_n 2, 1), (2, .invokestatic 82, 3), (5, .ifCond .ne 13, 3), (8, .new 86, 3), (11, .dup, 1), (12, .ldc 88, 2), (14, .invokespecial 90, 3), (17, .athrow, 1), (18, .aload_n 0, 1), (19, .getfield 10, 3), (22, .iload_n 1, 1), (23, .iload_n 2, 1), (24, .invokevirtual 93, 3), (27, .aload_n 0, 1), (28, .getfield 22, 3), (31, .invokevirtual 97, 3), (34, .aload_n 0, 1), (35, .getfield 10, 3), (38, .getfield 100, 3), (41, .ireturn, 1)]
set_option maxRecDepth 20000 in
theorem oX8_setSize : CtOk mX8_setSize.2.1 tX8_setSize := by unfold CtOk; decide +kernel
set_option maxRecDepth 20000 in
theorem kX8_setSize : MK mX8_setSize := ⟨tj2 200 (by rfl) rfl, tj1 1 (by rfl) rfl, by decide +kernel, by decide +kernel, by decide +kernel⟩
theorem vX8_setSize : MKv mX8_setSize 8 := ⟨tj2 198 (by rfl) rfl, tj2 199 (by rfl) rfl, _, _, rfl⟩
def mX8_size : Mi := (yX8_size, cX8_size, 2, some .int, 1)
def tX8_size : Ct := [(0, .iload_n 1, 1), (1, .tableswitch 63 0 3 #[31, 39, 47, 55], 31), (32, .aload_n 0, 1), (33, .getfield 10, 3), (36, .getfield 104, 3), (39, .ireturn, 1), (40, .aload_n 0, 1), (41, .getfield 10, 3), (44, .getfield 107, 3), (47, .ireturn, 1), (48, .aload_n 0, 1), (49, .getfield 10, 3), (52, .getfield 100, 3), (55, .ireturn, 1), (56, .aload_n 0, 1), (57, .getfield 10, 3), (60, .getfield 110, 3), (63, .ireturn, 1), (64, .new 113, 3), (67, .dup, 1), (68, .ldc 115, 2), (70, .invokespecial 117, 3), (73, .athrow, 1)]
set_option maxRecDepth 20000 in
theorem oX8_size : CtOk mX8_size.2.1 tX8_size := by unfold CtOk; decide +kernel
set_option maxRecDepth 20000 in
theorem kX8_size : MK mX8_size := ⟨tj3 71 (by rfl) rfl, tj1 1 (by rfl) rfl, by decide +kernel, by decide +kernel, by decide +kernel⟩
theorem vX8_size : MKv mX8_size 8 := ⟨tj3 69 (by rfl) rfl, tj3 70 (by rfl) rfl, _, _, rfl⟩
def mX8_setOutput : Mi := (yX8_setOutput, cX8_setOutput, 4, some .int, 2)
def tX8_setOutput : Ct := [(0, .aload_n 0, 1), (1, .iload_n 1, 1), (2, .invokevirtual 118, 3), (5, .iload_n 2, 1), (6, .ifCond .lt 14, 3), (9, .iload_n 2, 1), (10, .aload_n 0, 1), (11, .getfield 10, 3), (14, .getfield 104, 3), (17, .if_icmp .lt 13, 3), (20, .new 86, 3), (23, .dup, 1), (24, .ldc 122, 2), (26, .invokespecial 90, 3), (29, .athrow, 1), (30, .aload_n 0, 1), (31, .getfield 10, 3), (34, .getfield 124, 3), (37, .iload_n 1, 1), (38, .iaload, 1), (39, .istore_n 3, 1), (40, .aload_n 0, 1), (41, .getfield 10, 3), (44, .getfield 124, 3), (47, .iload_n 1, 1), (48, .iload_n 2, 1), (49, .iastore, 1), (50, .iload_n 3, 1), (51, .ireturn, 1)]
set_option maxRecDepth 20000 in
theorem oX8_setOutput : CtOk mX8_setOutput.2.1 tX8_setOutput := by unfold CtOk; decide +kernel
set_option maxRecDepth 20000 in
theorem kX8_setOutput : MK mX8_setOutput := ⟨tj3 91 (by rfl) rfl, tj1 1 (by rfl) rfl, by decide +kernel, by decide +kernel, by decide +kernel⟩
theorem vX8_setOutput : MKv mX8_setOutput 8 := ⟨tj3 89 (by rfl) rfl, tj3 90 (by rfl) rfl, _, _, rfl⟩
def mX8_output : Mi := (yX8_output, cX8_output, 2, some .int, 1)
def tX8_output : Ct := [(0, .aload_n 0, 1), (1, .iload_n 1, 1), (2, .invokevirtual 118, 3), (5, .aload_n 0, 1), (6, .getfield 10, 3), (9, .getfield 124, 3), (12, .iload_n 1, 1), (13, .iaload, 1), (14, .ireturn, 1)]
set_option maxRecDepth 20000 in
theorem oX8_output : CtOk mX8_output.2.1 tX8_output := by unfold CtOk; decide +kernel
set_option maxRecDepth 20000 in
theorem kX8_output : MK mX8_output := ⟨tj3 104 (by rfl) rfl, tj1 1 (by rfl) rfl, by decide +kernel, by decide +kernel, by decide +kernel⟩
theorem vX8_output : MKv mX8_output 8 := ⟨tj3 102 (by rfl) rfl, tj3 103 (by rfl) rfl, _, _, rfl⟩
def mX8_setNumber : Mi := (yX8_setNumber, cX8_setNumber, 3, some .int, 1)
def tX8_setNumber : Ct := [(0, .lload_n 1, 1), (1, .lconst 0, 1), (2, .lcmp, 1), (3, .ifCond .lt 15, 3), (6, .lload_n 1, 1), (7, .aload_n 0, 1), (8, .getfield 10, 3), (11, .invokevirtual 127, 3), (14, .lcmp, 1), (15, .ifCond .lt 13, 3), (18, .new 86, 3), (21, .dup, 1), (22, .ldc 131, 2), (24, .invokespecial 90, 3), (27, .athrow, 1), (28, .aload_n 0, 1), (29, .getfield 10, 3), (32, .lload_n 1, 1), (33, .aload_n 0, 1), (34, .getfield 75, 3), (37, .invokevirtual 133, 3), (40, .aload_n 0, 1), (41, .getfield 10, 3), (44, .aload_n 0, 1), (45, .getfield 75, 3), (48, .invokevirtual 137, 3), (51, .ireturn, 1)]
set_option maxRecDepth 20000 in
theorem oX8_setNumber : CtOk mX8_setNumber.2.1 tX8_setNumber := by unfold CtOk; decide +kernel
set_option maxRecDepth 20000 in
theorem kX8_setNumber : MK mX8_setNumber := ⟨tj3 111 (by rfl) rfl, tj1 1 (by rfl) rfl, by decide +kernel, by decide +kernel, by decide +kernel⟩
theorem vX8_setNumber : MKv mX8_setNumber 8 := ⟨tj3 109 (by rfl) rfl, tj3 110 (by rfl) rfl, _, _, rfl⟩
def mX8_number : Mi := (yX8_number, cX8_number, 1, some .long, 0)
def tX8_number : Ct := [(0, .aload_n 0, 1), (1, .getfield 10, 3), (4, .aload_n 0, 1), (5, .getfield 10, 3), (8, .getfield 124, 3), (11, .invokevirtual 141, 3), (14, .lreturn, 1)]
set_option maxRecDepth 20000 in
theorem oX8_number : CtOk mX8_number.2.1 tX8_number := by unfold CtOk; decide +kernel
set_option maxRecDepth 20000 in
theorem kX8_number : MK mX8_number := ⟨tj2 86 (by rfl) rfl, tj1 1 (by rfl) rfl, by decide +kernel, by decide +kernel, by decide +kernel⟩
theorem vX8_number : MKv mX8_number 8 := ⟨tj2 84 (by rfl) rfl, tj2 85 (by rfl) rfl, _, _, rfl⟩
def mX8_append : Mi := (yX8_append, cX8_append, 5, some .int, 1)
def tX8_append : Ct := [(0, .iconst 0, 1), (1, .istore_n 2, 1), (2, .bipush 24, 2), (4, .istore_n 3, 1), (5, .iload_n 3, 1), (6, .ifCond .lt 58, 3), (9, .iload_n 1, 1), (10, .iload_n 3, 1), (11, .invokestatic 145, 3), (14, .istore 4, 2), (16, .iload 4, 2), (18, .ifCond .eq 27, 3), (21, .iload 4, 2), (23, .bipush 33, 2), (25, .if_icmp .lt 10, 3), (28, .iload 4, 2), (30, .bipush 126, 2), (32, .if_icmp .le 13, 3), (35, .new 86, 3), (38, .dup, 1), (39, .ldc 149, 2), (41, .invokespecial 90, 3), (44, .athrow, 1), (45, .iload_n 2, 1), (46, .iload 4, 2), (48, .ifCond .ne 7, 3), (51, .iconst 0, 1), (52, .goto 4, 3), (55, .iconst 1, 1), (56, .iadd, 1), (57, .istore_n 2, 1), (58, .iinc 3 (-8), 3), (61, .goto (-56), 3), (64, .aload_n 0, 1), (65, .getfield 36, 3), (68, .getfield 151, 3), (71, .iload_n 2, 1), (72, .iadd, 1), (73, .bipush 40, 2), (75, .if_icmp .le 13, 3), (78, .new 154, 3), (81, .dup, 1), (82, .ldc 156, 2), (84, .invokespecial 158, 3), (87, .athrow, 1), (88, .bipush 24, 2), (90, .istore_n 3, 1), (91, .iload_n 3, 1), (92, .ifCond .lt 30, 3), (95, .iload_n 1, 1), (96, .iload_n 3, 1), (97, .invokestatic 145, 3), (100, .istore 4, 2), (102, .iload 4, 2), (104, .ifCond .eq 12, 3), (107, .aload_n 0, 1), (108, .getfield 36, 3), (111, .iload 4, 2), (113, .invokevirtual 159, 3), (116, .iinc 3 (-8), 3), (119, .goto (-28), 3), (122, .aload_n 0, 1), (123, .getfield 36, 3), (126, .getfield 151, 3), (129, .ireturn, 1)]
set_option maxRecDepth 20000 in
theorem oX8_append : CtOk mX8_append.2.1 tX8_append := by unfold CtOk; decide +kernel
set_option maxRecDepth 20000 in
theorem kX8_append : MK mX8_append := ⟨tj3 130 (by rfl) rfl, tj1 1 (by rfl) rfl, by decide +kernel, by decide +kernel, by decide +kernel⟩
theorem vX8_append : MKv mX8_append 8 := ⟨tj3 128 (by rfl) rfl, tj3 129 (by rfl) rfl, _, _, rfl⟩
def mX8_compile : Mi := (yX8_compile, cX8_compile, 1, some .int, 0)
def tX8_compile : Ct := [(0, .aload_n 0, 1), (1, .getfield 36, 3), (4, .aload_n 0, 1), (5, .getfield 10, 3), (8, .getfield 107, 3), (11, .invokevirtual 162, 3), (14, .aload_n 0, 1), (15, .getfield 36, 3), (18, .getfield 165, 3), (21, .ifCond .ne 18, 3), (24, .aload_n 0, 1), (25, .getfield 36, 3), (28, .aload_n 0, 1), (29, .getfield 10, 3), (32, .aload_n 0, 1), (33, .getfield 75, 3), (36, .invokevirtual 168, 3), (39, .aload_n 0, 1), (40, .getfield 36, 3), (43, .iconst 0, 1), (44, .putfield 151, 3), (47, .aload_n 0, 1), (48, .getfield 36, 3), (51, .getfield 165, 3), (54, .ifCond .ne 15, 3), (57, .aload_n 0, 1), (58, .getfield 10, 3), (61, .aload_n 0, 1), (62, .getfield 75, 3), (65, .invokevirtual 137, 3), (68, .ireturn, 1), (69, .aload_n 0, 1), (70, .getfield 36, 3), (73, .getfield 165, 3), (76, .iconst 4, 1), (77, .if_icmp .eq 14, 3), (80, .aload_n 0, 1), (81, .getfield 36, 3), (84, .getfield 165, 3), (87, .iconst 5, 1), (88, .if_icmp .ne 13, 3), (91, .new 172, 3), (94, .dup, 1), (95, .ldc 174, 2), (97, .invokespecial 176, 3), (100, .athrow, 1), (101, .new 86, 3), (104, .dup, 1), (105, .ldc 177, 2), (107, .invokespecial 90, 3), (110, .athrow, 1)]
set_option maxRecDepth 20000 in
theorem oX8_compile : CtOk mX8_compile.2.1 tX8_compile := by unfold CtOk; decide +kernel
set_option maxRecDepth 20000 in
theorem kX8_compile : MK mX8_compile := ⟨tj3 175 (by rfl) rfl, tj1 1 (by rfl) rfl, by decide +kernel, by decide +kernel, by decide +kernel⟩
theorem vX8_compile : MKv mX8_compile 8 := ⟨tj3 173 (by rfl) rfl, tj3 174 (by rfl) rfl, _, _, rfl⟩
def mX8_error : Mi := (yX8_error, cX8_error, 2, some .int, 1)
def tX8_error : Ct := [(0, .iload_n 1, 1), (1, .invokestatic 179, 3), (4, .iload_n 1, 1), (5, .ifCond .ne 13, 3), (8, .aload_n 0, 1), (9, .getfield 36, 3), (12, .getfield 165, 3), (15, .goto 10, 3), (18, .aload_n 0, 1), (19, .getfield 36, 3), (22, .getfield 182, 3), (25, .ireturn, 1)]
set_option maxRecDepth 20000 in
theorem oX8_error : CtOk mX8_error.2.1 tX8_error := by unfold CtOk; decide +kernel
set_option maxRecDepth 20000 in
theorem kX8_error : MK mX8_error := ⟨tj4 7 (by rfl) rfl, tj1 1 (by rfl) rfl, by decide +kernel, by decide +kernel, by decide +kernel⟩
theorem vX8_error : MKv mX8_error 8 := ⟨tj4 5 (by rfl) rfl, tj4 6 (by rfl) rfl, _, _, rfl⟩
def mX8_mirror : Mi := (yX8_mirror, cX8_mirror, 1, some .int, 0)
def tX8_mirror : Ct := [(0, .aload_n 0, 1), (1, .getfield 10, 3), (4, .aload_n 0, 1), (5, .getfield 10, 3), (8, .getfield 124, 3), (11, .aload_n 0, 1), (12, .getfield 75, 3), (15, .invokevirtual 185, 3), (18, .aload_n 0, 1), (19, .getfield 10, 3), (22, .aload_n 0, 1), (23, .getfield 75, 3), (26, .invokevirtual 137, 3), (29, .ireturn, 1)]
set_option maxRecDepth 20000 in
theorem oX8_mirror : CtOk mX8_mirror.2.1 tX8_mirror := by unfold CtOk; decide +kernel
set_option maxRecDepth 20000 in
theorem kX8_mirror : MK mX8_mirror := ⟨tj2 94 (by rfl) rfl, tj1 1 (by rfl) rfl, by decide +kernel, by decide +kernel, by decide +kernel⟩
theorem vX8_mirror : MKv mX8_mirror 8 := ⟨tj2 92 (by rfl) rfl, tj2 93 (by rfl) rfl, _, _, rfl⟩
def mX8_complement : Mi := (yX8_complement, cX8_complement, 1, some .int, 0)
def tX8_complement : Ct := [(0, .aload_n 0, 1), (1, .getfield 10, 3), (4, .aload_n 0, 1), (5, .getfield 10, 3), (8, .getfield 124, 3), (11, .aload_n 0, 1), (12, .getfield 75, 3), (15, .invokevirtual 189, 3), (18, .aload_n 0, 1), (19, .getfield 10, 3), (22, .aload_n 0, 1), (23, .getfield 75, 3), (26, .invokevirtual 137, 3), (29, .ireturn, 1)]
set_option maxRecDepth 20000 in
theorem oX8_complement : CtOk mX8_complement.2.1 tX8_complement := by unfold CtOk; decide +kernel
set_option maxRecDepth 20000 in
theorem kX8_complement : MK mX8_complement := ⟨tj2 118 (by rfl) rfl, tj1 1 (by rfl) rfl, by decide +kernel, by decide +kernel, by decide +kernel⟩
theorem vX8_complement : MKv mX8_complement 8 := ⟨tj2 116 (by rfl) rfl, tj2 117 (by rfl) rfl, _, _, rfl⟩
def mX8_leastNumber : Mi := (yX8_leastNumber, cX8_leastNumber, 3, some .long, 0)
def tX8_leastNumber : Ct := [(0, .aload_n 0, 1), (1, .getfield 10, 3), (4, .aload_n 0, 1), (5, .getfield 10, 3), (8, .getfield 124, 3), (11, .invokevirtual 141, 3), (14, .lstore_n 1, 1), (15, .aload_n 0, 1), (16, .getfield 10, 3), (19, .aload_n 0, 1), (20, .getfield 10, 3), (23, .getfield 124, 3), (26, .aload_n 0, 1), (27, .getfield 75, 3), (30, .invokevirtual 189, 3), (33, .lload_n 1, 1), (34, .aload_n 0, 1), (35, .getfield 10, 3), (38, .aload_n 0, 1), (39, .getfield 75, 3), (42, .invokevirtual 141, 3), (45, .invokestatic 192, 3), (48, .lstore_n 1, 1), (49, .aload_n 0, 1), (50, .getfield 10, 3), (53, .aload_n 0, 1), (54, .getfield 10, 3), (57, .getfield 124, 3), (60, .aload_n 0, 1), (61, .getfield 79, 3), (64, .invokevirtual 185, 3), (67, .lload_n 1, 1), (68, .aload_n 0, 1), (69, .getfield 10, 3), (72, .aload_n 0, 1), (73, .getfield 79, 3), (76, .invokevirtual 141, 3), (79, .invokestatic 192, 3), (82, .lstore_n 1, 1), (83, .aload_n 0, 1), (84, .getfield 10, 3), (87, .aload_n 0, 1), (88, .getfield 79, 3), (91, .aload_n 0, 1), (92, .getfield 75, 3), (95, .invokevirtual 189, 3), (98, .lload_n 1, 1), (99, .aload_n 0, 1), (100, .getfield 10, 3), (103, .aload_n 0, 1), (104, .getfield 75, 3), (107, .invokevirtual 141, 3), (110, .invokestatic 192, 3), (113, .lreturn, 1)]
set_option maxRecDepth 20000 in
theorem oX8_leastNumber : CtOk mX8_leastNumber.2.1 tX8_leastNumber := by unfold CtOk; decide +kernel
set_option maxRecDepth 20000 in
theorem kX8_leastNumber : MK mX8_leastNumber := ⟨tj2 126 (by rfl) rfl, tj1 1 (by rfl) rfl, by decide +kernel, by decide +kernel, by decide +kernel⟩
theorem vX8_leastNumber : MKv mX8_leastNumber 8 := ⟨tj2 124 (by rfl) rfl, tj2 125 (by rfl) rfl, _, _, rfl⟩
def mX8_compose : Mi := (yX8_compose, cX8_compose, 4, some .int, 0)
def tX8_compose : Ct := [(0, .aload_n 0, 1), (1, .getfield 29, 3), (4, .ifCond .eq 20, 3), (7, .aload_n 0, 1), (8, .getfield 16, 3), (11, .getfield 104, 3), (14, .aload_n 0, 1), (15, .getfield 10, 3), (18, .getfield 104, 3), (21, .if_icmp .eq 13, 3), (24, .new 154, 3), (27, .dup, 1), (28, .ldc 198, 2), (30, .invokespecial 158, 3), (33, .athrow, 1), (34, .aload_n 0, 1), (35, .getfield 10, 3), (38, .getfield 107, 3), (41, .aload_n 0, 1), (42, .getfield 16, 3), (45, .getfield 107, 3), (48, .iadd, 1), (49, .iconst 1, 1), (50, .isub, 1), (51, .istore_n 1, 1), (52, .aload_n 0, 1), (53, .getfield 10, 3), (56, .getfield 104, 3), (59, .iload_n 1, 1), (60, .invokestatic 82, 3), (63, .ifCond .ne 13, 3), (66, .new 154, 3), (69, .dup, 1), (70, .ldc 200, 2), (72, .invokespecial 158, 3), (75, .athrow, 1), (76, .aload_n 0, 1), (77, .getfield 10, 3), (80, .iload_n 1, 1), (81, .invokevirtual 202, 3), (84, .istore_n 2, 1), (85, .iconst 0, 1), (86, .istore_n 3, 1), (87, .iload_n 3, 1), (88, .iload_n 2, 1), (89, .if_icmp .ge 46, 3), (92, .aload_n 0, 1), (93, .getfield 75, 3), (96, .iload_n 3, 1), (97, .aload_n 0, 1), (98, .getfield 43, 3), (101, .aload_n 0, 1), (102, .getfield 10, 3), (105, .aload_n 0, 1), (106, .getfield 10, 3), (109, .getfield 107, 3), (112, .aload_n 0, 1), (113, .getfield 43, 3), (116, .aload_n 0, 1), (117, .getfield 16, 3), (120, .iload_n 1, 1), (121, .iload_n 3, 1), (122, .invokevirtual 206, 3), (125, .invokevirtual 206, 3), (128, .iastore, 1), (129, .iinc 3 1, 3), (132, .goto (-45), 3), (135, .aload_n 0, 1), (136, .getfield 10, 3), (139, .aload_n 0, 1), (140, .getfield 10, 3), (143, .getfield 104, 3), (146, .iload_n 1, 1), (147, .invokevirtual 93, 3), (150, .aload_n 0, 1), (151, .getfield 10, 3), (154, .aload_n 0, 1), (155, .getfield 75, 3), (158, .invokevirtual 137, 3), (161, .pop, 1), (162, .iload_n 1, 1), (163, .ireturn, 1)]
set_option maxRecDepth 20000 in
theorem oX8_compose : CtOk mX8_compose.2.1 tX8_compose := by unfold CtOk; decide +kernel
set_option maxRecDepth 20000 in
theorem kX8_compose : MK mX8_compose := ⟨tj4 18 (by rfl) rfl, tj1 1 (by rfl) rfl, by decide +kernel, by decide +kernel, by decide +kernel⟩
theorem vX8_compose : MKv mX8_compose 8 := ⟨tj4 16 (by rfl) rfl, tj4 17 (by rfl) rfl, _, _, rfl⟩
def mX8_setWord : Mi := (yX8_setWord, cX8_setWord, 5, some .int, 3)
def tX8_setWord : Ct := [(0, .iload_n 1, 1), (1, .invokestatic 210, 3), (4, .iload_n 2, 1), (5, .ifCond .lt 9, 3), (8, .iload_n 2, 1), (9, .bipush 14, 2), (11, .if_icmp .le 13, 3), (14, .new 86, 3), (17, .dup, 1), (18, .ldc 213, 2), (20, .invokespecial 90, 3), (23, .athrow, 1), (24, .iload_n 3, 1), (25, .ifCond .lt 15, 3), (28, .iload_n 3, 1), (29, .aload_n 0, 1), (30, .getfield 10, 3), (33, .iload_n 2, 1), (34, .invokevirtual 202, 3), (37, .if_icmp .lt 13, 3), (40, .new 86, 3), (43, .dup, 1), (44, .ldc 215, 2), (46, .invokespecial 90, 3), (49, .athrow, 1), (50, .aload_n 0, 1), (51, .getfield 22, 3), (54, .getfield 217, 3), (57, .iload_n 1, 1), (58, .iaload, 1), (59, .istore 4, 2), (61, .aload_n 0, 1), (62, .getfield 22, 3), (65, .iload_n 1, 1), (66, .iload_n 2, 1), (67, .iload_n 3, 1), (68, .invokevirtual 220, 3), (71, .iload 4, 2), (73, .ireturn, 1)]
set_option maxRecDepth 20000 in
theorem oX8_setWord : CtOk mX8_setWord.2.1 tX8_setWord := by unfold CtOk; decide +kernel
set_option maxRecDepth 20000 in
theorem kX8_setWord : MK mX8_setWord := ⟨tj4 37 (by rfl) rfl, tj1 1 (by rfl) rfl, by decide +kernel, by decide +kernel, by decide +kernel⟩
theorem vX8_setWord : MKv mX8_setWord 8 := ⟨tj4 35 (by rfl) rfl, tj4 36 (by rfl) rfl, _, _, rfl⟩
def mX8_wordLength : Mi := (yX8_wordLength, cX8_wordLength, 2, some .int, 1)
def tX8_wordLength : Ct := [(0, .iload_n 1, 1), (1, .invokestatic 210, 3), (4, .aload_n 0, 1), (5, .getfield 22, 3), (8, .getfield 217, 3), (11, .iload_n 1, 1), (12, .iaload, 1), (13, .ireturn, 1)]
set_option maxRecDepth 20000 in
theorem oX8_wordLength : CtOk mX8_wordLength.2.1 tX8_wordLength := by unfold CtOk; decide +kernel
set_option maxRecDepth 20000 in
theorem kX8_wordLength : MK mX8_wordLength := ⟨tj4 54 (by rfl) rfl, tj1 1 (by rfl) rfl, by decide +kernel, by decide +kernel, by decide +kernel⟩
theorem vX8_wordLength : MKv mX8_wordLength 8 := ⟨tj4 52 (by rfl) rfl, tj4 53 (by rfl) rfl, _, _, rfl⟩
def mX8_wordIndex : Mi := (yX8_wordIndex, cX8_wordIndex, 2, some .int, 1)
def tX8_wordIndex : Ct := [(0, .iload_n 1, 1), (1, .invokestatic 210, 3), (4, .aload_n 0, 1), (5, .getfield 22, 3), (8, .getfield 224, 3), (11, .iload_n 1, 1), (12, .iaload, 1), (13, .ireturn, 1)]
set_option maxRecDepth 20000 in
theorem oX8_wordIndex : CtOk mX8_wordIndex.2.1 tX8_wordIndex := by unfold CtOk; decide +kernel
set_option maxRecDepth 20000 in
theorem kX8_wordIndex : MK mX8_wordIndex := ⟨tj4 61 (by rfl) rfl, tj1 1 (by rfl) rfl, by decide +kernel, by decide +kernel, by decide +kernel⟩
theorem vX8_wordIndex : MKv mX8_wordIndex 8 := ⟨tj4 59 (by rfl) rfl, tj4 60 (by rfl) rfl, _, _, rfl⟩
def mX8_cell : Mi := (yX8_cell, cX8_cell, 4, some .int, 2)
def tX8_cell : Ct := [(0, .iload_n 1, 1), (1, .invokestatic 210, 3), (4, .aload_n 0, 1), (5, .getfield 22, 3), (8, .getfield 217, 3), (11, .iload_n 1, 1), (12, .iaload, 1), (13, .istore_n 3, 1), (14, .iload_n 2, 1), (15, .ifCond .lt 8, 3), (18, .iload_n 2, 1), (19, .iload_n 3, 1), (20, .if_icmp .lt 13, 3), (23, .new 113, 3), (26, .dup, 1), (27, .ldc 227, 2), (29, .invokespecial 117, 3), (32, .athrow, 1), (33, .aload_n 0, 1), (34, .getfield 10, 3), (37, .aload_n 0, 1), (38, .getfield 22, 3), (41, .getfield 224, 3), (44, .iload_n 1, 1), (45, .iaload, 1), (46, .iload_n 3, 1), (47, .iload_n 2, 1), (48, .invokevirtual 229, 3), (51, .ireturn, 1)]
set_option maxRecDepth 20000 in
theorem oX8_cell : CtOk mX8_cell.2.1 tX8_cell := by unfold CtOk; decide +kernel
set_option maxRecDepth 20000 in
theorem kX8_cell : MK mX8_cell := ⟨tj4 68 (by rfl) rfl, tj1 1 (by rfl) rfl, by decide +kernel, by decide +kernel, by decide +kernel⟩
theorem vX8_cell : MKv mX8_cell 8 := ⟨tj4 66 (by rfl) rfl, tj4 67 (by rfl) rfl, _, _, rfl⟩
def mX8_apply : Mi := (yX8_apply, cX8_apply, 5, some .int, 2)
def tX8_apply : Ct := [(0, .iload_n 1, 1), (1, .invokestatic 210, 3), (4, .aload_n 0, 1), (5, .getfield 22, 3), (8, .getfield 217, 3), (11, .iload_n 1, 1), (12, .iaload, 1), (13, .istore_n 3, 1), (14, .iload_n 3, 1), (15, .iload_n 2, 1), (16, .ifCond .eq 7, 3), (19, .iconst 1, 1), (20, .goto 10, 3), (23, .aload_n 0, 1), (24, .getfield 10, 3), (27, .getfield 107, 3), (30, .if_icmp .ge 13, 3), (33, .new 154, 3), (36, .dup, 1), (37, .ldc 233, 2), (39, .invokespecial 158, 3), (42, .athrow, 1), (43, .aload_n 0, 1), (44, .getfield 22, 3), (47, .getfield 224, 3), (50, .iload_n 1, 1), (51, .iaload, 1), (52, .istore 4, 2), (54, .iload_n 2, 1), (55, .ifCond .eq 29, 3), (58, .aload_n 0, 1), (59, .getfield 22, 3), (62, .iload_n 1, 1), (63, .iload_n 3, 1), (64, .aload_n 0, 1), (65, .getfield 43, 3), (68, .aload_n 0, 1), (69, .getfield 10, 3), (72, .iload_n 3, 1), (73, .iload 4, 2), (75, .invokevirtual 235, 3), (78, .invokevirtual 220, 3), (81, .goto 36, 3), (84, .aload_n 0, 1), (85, .getfield 22, 3), (88, .iload_n 1, 1), (89, .iload_n 3, 1), (90, .aload_n 0, 1), (91, .getfield 10, 3), (94, .getfield 107, 3), (97, .isub, 1), (98, .iconst 1, 1), (99, .iadd, 1), (100, .aload_n 0, 1), (101, .getfield 43, 3), (104, .aload_n 0, 1), (105, .getfield 10, 3), (108, .iload_n 3, 1), (109, .iload 4, 2), (111, .invokevirtual 206, 3), (114, .invokevirtual 220, 3), (117, .aload_n 0, 1), (118, .getfield 22, 3), (121, .getfield 217, 3), (124, .iload_n 1, 1), (125, .iaload, 1), (126, .ireturn, 1)]
set_option maxRecDepth 20000 in
theorem oX8_apply : CtOk mX8_apply.2.1 tX8_apply := by unfold CtOk; decide +kernel
set_option maxRecDepth 20000 in
theorem kX8_apply : MK mX8_apply := ⟨tj4 80 (by rfl) rfl, tj1 1 (by rfl) rfl, by decide +kernel, by decide +kernel, by decide +kernel⟩
theorem vX8_apply : MKv mX8_apply 8 := ⟨tj4 78 (by rfl) rfl, tj4 79 (by rfl) rfl, _, _, rfl⟩
def mX8_orbit : Mi := (yX8_orbit, cX8_orbit, 4, some .int, 2)
def tX8_orbit : Ct := [(0, .iload_n 1, 1), (1, .invokestatic 210, 3), (4, .iload_n 2, 1), (5, .invokestatic 179, 3), (8, .aload_n 0, 1), (9, .getfield 22, 3), (12, .getfield 217, 3), (15, .iload_n 1, 1), (16, .iaload, 1), (17, .istore_n 3, 1), (18, .iload_n 3, 1), (19, .ifCond .eq 9, 3), (22, .iload_n 3, 1), (23, .bipush 8, 2), (25, .if_icmp .le 13, 3), (28, .new 154, 3), (31, .dup, 1), (32, .ldc 238, 2), (34, .invokespecial 158, 3), (37, .athrow, 1), (38, .aload_n 0, 1), (39, .getfield 43, 3), (42, .aload_n 0, 1), (43, .getfield 10, 3), (46, .iload_n 3, 1), (47, .aload_n 0, 1), (48, .getfield 22, 3), (51, .getfield 224, 3), (54, .iload_n 1, 1), (55, .iaload, 1), (56, .invokevirtual 240, 3), (59, .iload_n 2, 1), (60, .ifCond .ne 13, 3), (63, .aload_n 0, 1), (64, .getfield 43, 3), (67, .getfield 244, 3), (70, .goto 10, 3), (73, .aload_n 0, 1), (74, .getfield 43, 3), (77, .getfield 247, 3), (80, .ireturn, 1)]
set_option maxRecDepth 20000 in
theorem oX8_orbit : CtOk mX8_orbit.2.1 tX8_orbit := by unfold CtOk; decide +kernel
set_option maxRecDepth 20000 in
theorem kX8_orbit : MK mX8_orbit := ⟨tj4 92 (by rfl) rfl, tj1 1 (by rfl) rfl, by decide +kernel, by decide +kernel, by decide +kernel⟩
theorem vX8_orbit : MKv mX8_orbit 8 := ⟨tj4 90 (by rfl) rfl, tj4 91 (by rfl) rfl, _, _, rfl⟩
def mX8_preimageCount : Mi := (yX8_preimageCount, cX8_preimageCount, 3, some .int, 2)
def tX8_preimageCount : Ct := [(0, .iload_n 1, 1), (1, .invokestatic 210, 3), (4, .aload_n 0, 1), (5, .iload_n 1, 1), (6, .invokevirtual 250, 3), (9, .iload_n 2, 1), (10, .ifCond .eq 17, 3), (13, .aload_n 0, 1), (14, .getfield 50, 3), (17, .aload_n 0, 1), (18, .getfield 10, 3), (21, .invokevirtual 253, 3), (24, .goto 14, 3), (27, .aload_n 0, 1), (28, .getfield 50, 3), (31, .aload_n 0, 1), (32, .getfield 10, 3), (35, .invokevirtual 257, 3), (38, .ireturn, 1)]
set_option maxRecDepth 20000 in
theorem oX8_preimageCount : CtOk mX8_preimageCount.2.1 tX8_preimageCount := by unfold CtOk; decide +kernel
set_option maxRecDepth 20000 in
theorem kX8_preimageCount : MK mX8_preimageCount := ⟨tj5 113 (by rfl) rfl, tj1 1 (by rfl) rfl, by decide +kernel, by decide +kernel, by decide +kernel⟩
theorem vX8_preimageCount : MKv mX8_preimageCount 8 := ⟨tj5 111 (by rfl) rfl, tj5 112 (by rfl) rfl, _, _, rfl⟩
def mX8_preimage : Mi := (yX8_preimage, cX8_preimage, 7, some .int, 4)
def tX8_preimage : Ct := [(0, .iload_n 1, 1), (1, .invokestatic 210, 3), (4, .iload 4, 2), (6, .invokestatic 210, 3), (9, .aload_n 0, 1), (10, .getfield 22, 3), (13, .getfield 217, 3), (16, .iload_n 1, 1), (17, .iaload, 1), (18, .iload_n 2, 1), (19, .ifCond .eq 7, 3), (22, .iconst 0, 1), (23, .goto 12, 3), (26, .aload_n 0, 1), (27, .getfield 10, 3), (30, .getfield 107, 3), (33, .iconst 1, 1), (34, .isub, 1), (35, .iadd, 1), (36, .istore 5, 2), (38, .iload 5, 2), (40, .bipush 14, 2), (42, .if_icmp .le 14, 3), (45, .new 154, 3), (48, .dup, 1), (49, .ldc_w 260, 3), (52, .invokespecial 158, 3), (55, .athrow, 1), (56, .aload_n 0, 1), (57, .iload_n 1, 1), (58, .invokevirtual 250, 3), (61, .iload_n 2, 1), (62, .ifCond .eq 18, 3), (65, .aload_n 0, 1), (66, .getfield 50, 3), (69, .aload_n 0, 1), (70, .getfield 10, 3), (73, .iload_n 3, 1), (74, .invokevirtual 262, 3), (77, .goto 15, 3), (80, .aload_n 0, 1), (81, .getfield 50, 3), (84, .aload_n 0, 1), (85, .getfield 10, 3), (88, .iload_n 3, 1), (89, .invokevirtual 266, 3), (92, .istore 6, 2), (94, .iload 6, 2), (96, .ifCond .ge 14, 3), (99, .new 269, 3), (102, .dup, 1), (103, .ldc_w 271, 3), (106, .invokespecial 273, 3), (109, .athrow, 1), (110, .aload_n 0, 1), (111, .getfield 22, 3), (114, .iload 4, 2), (116, .iload 5, 2), (118, .iload 6, 2), (120, .invokevirtual 220, 3), (123, .iload 6, 2), (125, .ireturn, 1)]
set_option maxRecDepth 20000 in
theorem oX8_preimage : CtOk mX8_preimage.2.1 tX8_preimage := by unfold CtOk; decide +kernel
set_option maxRecDepth 20000 in
theorem kX8_preimage : MK mX8_preimage := ⟨tj5 162 (by rfl) rfl, tj1 1 (by rfl) rfl, by decide +kernel, by decide +kernel, by decide +kernel⟩
theorem vX8_preimage : MKv mX8_preimage 8 := ⟨tj5 160 (by rfl) rfl, tj5 161 (by rfl) rfl, _, _, rfl⟩
def mX8_preimagesBetween : Mi := (yX8_preimagesBetween, cX8_preimagesBetween, 4, some .int, 3)
def tX8_preimagesBetween : Ct := [(0, .iload_n 1, 1), (1, .invokestatic 210, 3), (4, .aload_n 0, 1), (5, .iload_n 2, 1), (6, .invokevirtual 274, 3), (9, .aload_n 0, 1), (10, .iload_n 3, 1), (11, .invokevirtual 274, 3), (14, .aload_n 0, 1), (15, .iload_n 1, 1), (16, .invokevirtual 250, 3), (19, .aload_n 0, 1), (20, .getfield 50, 3), (23, .aload_n 0, 1), (24, .getfield 10, 3), (27, .iload_n 2, 1), (28, .iload_n 3, 1), (29, .invokevirtual 277, 3), (32, .ireturn, 1)]
set_option maxRecDepth 20000 in
theorem oX8_preimagesBetween : CtOk mX8_preimagesBetween.2.1 tX8_preimagesBetween := by unfold CtOk; decide +kernel
set_option maxRecDepth 20000 in
theorem kX8_preimagesBetween : MK mX8_preimagesBetween := ⟨tj5 202 (by rfl) rfl, tj1 1 (by rfl) rfl, by decide +kernel, by decide +kernel, by decide +kernel⟩
theorem vX8_preimagesBetween : MKv mX8_preimagesBetween 8 := ⟨tj5 200 (by rfl) rfl, tj5 201 (by rfl) rfl, _, _, rfl⟩
def mX8_wordsWith : Mi := (yX8_wordsWith, cX8_wordsWith, 3, some .int, 2)
def tX8_wordsWith : Ct := [(0, .iload_n 1, 1), (1, .iconst 0, 1), (2, .bipush 7, 2), (4, .invokestatic 280, 3), (7, .aload_n 0, 1), (8, .getfield 50, 3), (11, .aload_n 0, 1), (12, .getfield 10, 3), (15, .iload_n 1, 1), (16, .iload_n 2, 1), (17, .invokevirtual 283, 3), (20, .aload_n 0, 1), (21, .getfield 50, 3), (24, .getfield 286, 3), (27, .ireturn, 1)]
set_option maxRecDepth 20000 in
theorem oX8_wordsWith : CtOk mX8_wordsWith.2.1 tX8_wordsWith := by unfold CtOk; decide +kernel
set_option maxRecDepth 20000 in
theorem kX8_wordsWith : MK mX8_wordsWith := ⟨tj5 215 (by rfl) rfl, tj1 1 (by rfl) rfl, by decide +kernel, by decide +kernel, by decide +kernel⟩
theorem vX8_wordsWith : MKv mX8_wordsWith 8 := ⟨tj5 213 (by rfl) rfl, tj5 214 (by rfl) rfl, _, _, rfl⟩
def mX8_mostPreimages : Mi := (yX8_mostPreimages, cX8_mostPreimages, 2, some .int, 1)
def tX8_mostPreimages : Ct := [(0, .iload_n 1, 1), (1, .iconst 0, 1), (2, .bipush 7, 2), (4, .invokestatic 280, 3), (7, .aload_n 0, 1), (8, .getfield 50, 3), (11, .aload_n 0, 1), (12, .getfield 10, 3), (15, .iload_n 1, 1), (16, .iconst 0, 1), (17, .invokevirtual 283, 3), (20, .aload_n 0, 1), (21, .getfield 50, 3), (24, .getfield 289, 3), (27, .ireturn, 1)]
set_option maxRecDepth 20000 in
theorem oX8_mostPreimages : CtOk mX8_mostPreimages.2.1 tX8_mostPreimages := by unfold CtOk; decide +kernel
set_option maxRecDepth 20000 in
theorem kX8_mostPreimages : MK mX8_mostPreimages := ⟨tj5 239 (by rfl) rfl, tj1 1 (by rfl) rfl, by decide +kernel, by decide +kernel, by decide +kernel⟩
theorem vX8_mostPreimages : MKv mX8_mostPreimages 8 := ⟨tj5 237 (by rfl) rfl, tj5 238 (by rfl) rfl, _, _, rfl⟩
def mX8_fixedWords : Mi := (yX8_fixedWords, cX8_fixedWords, 2, some .int, 1)
def tX8_fixedWords : Ct := [(0, .iload_n 1, 1), (1, .iconst 1, 1), (2, .bipush 8, 2), (4, .invokestatic 280, 3), (7, .aload_n 0, 1), (8, .getfield 50, 3), (11, .aload_n 0, 1), (12, .getfield 10, 3), (15, .iload_n 1, 1), (16, .invokevirtual 292, 3), (19, .ireturn, 1)]
set_option maxRecDepth 20000 in
theorem oX8_fixedWords : CtOk mX8_fixedWords.2.1 tX8_fixedWords := by unfold CtOk; decide +kernel
set_option maxRecDepth 20000 in
theorem kX8_fixedWords : MK mX8_fixedWords := ⟨tj6 6 (by rfl) rfl, tj1 1 (by rfl) rfl, by decide +kernel, by decide +kernel, by decide +kernel⟩
theorem vX8_fixedWords : MKv mX8_fixedWords 8 := ⟨tj6 4 (by rfl) rfl, tj6 5 (by rfl) rfl, _, _, rfl⟩
def mX8_edge : Mi := (yX8_edge, cX8_edge, 5, some .int, 3)
def tX8_edge : Ct := [(0, .aload_n 0, 1), (1, .iload_n 1, 1), (2, .invokevirtual 274, 3), (5, .iload_n 2, 1), (6, .ifCond .lt 14, 3), (9, .iload_n 2, 1), (10, .aload_n 0, 1), (11, .getfield 10, 3), (14, .getfield 104, 3), (17, .if_icmp .lt 14, 3), (20, .new 113, 3), (23, .dup, 1), (24, .ldc_w 295, 3), (27, .invokespecial 117, 3), (30, .athrow, 1), (31, .iload_n 3, 1), (32, .invokestatic 179, 3), (35, .iload_n 1, 1), (36, .aload_n 0, 1), (37, .getfield 10, 3), (40, .getfield 104, 3), (43, .imul, 1), (44, .iload_n 2, 1), (45, .iadd, 1), (46, .istore 4, 2), (48, .iload_n 3, 1), (49, .ifCond .ne 16, 3), (52, .aload_n 0, 1), (53, .getfield 10, 3), (56, .getfield 297, 3), (59, .iload 4, 2), (61, .iaload, 1), (62, .goto 13, 3), (65, .aload_n 0, 1), (66, .getfield 10, 3), (69, .getfield 124, 3), (72, .iload 4, 2), (74, .iaload, 1), (75, .ireturn, 1)]
set_option maxRecDepth 20000 in
theorem oX8_edge : CtOk mX8_edge.2.1 tX8_edge := by unfold CtOk; decide +kernel
set_option maxRecDepth 20000 in
theorem kX8_edge : MK mX8_edge := ⟨tj6 20 (by rfl) rfl, tj1 1 (by rfl) rfl, by decide +kernel, by decide +kernel, by decide +kernel⟩
theorem vX8_edge : MKv mX8_edge 8 := ⟨tj6 18 (by rfl) rfl, tj6 19 (by rfl) rfl, _, _, rfl⟩
def mX8_subsets : Mi := (yX8_subsets, cX8_subsets, 1, some .int, 0)
def tX8_subsets : Ct := [(0, .aload_n 0, 1), (1, .getfield 57, 3), (4, .aload_n 0, 1), (5, .getfield 10, 3), (8, .invokevirtual 300, 3), (11, .aload_n 0, 1), (12, .getfield 57, 3), (15, .getfield 304, 3), (18, .ireturn, 1)]
set_option maxRecDepth 20000 in
theorem oX8_subsets : CtOk mX8_subsets.2.1 tX8_subsets := by unfold CtOk; decide +kernel
set_option maxRecDepth 20000 in
theorem kX8_subsets : MK mX8_subsets := ⟨tj2 133 (by rfl) rfl, tj1 1 (by rfl) rfl, by decide +kernel, by decide +kernel, by decide +kernel⟩
theorem vX8_subsets : MKv mX8_subsets 8 := ⟨tj2 131 (by rfl) rfl, tj2 132 (by rfl) rfl, _, _, rfl⟩
def mX8_orphans : Mi := (yX8_orphans, cX8_orphans, 2, some .int, 1)
def tX8_orphans : Ct := [(0, .iload_n 1, 1), (1, .iconst 0, 1), (2, .bipush 12, 2), (4, .invokestatic 280, 3), (7, .aload_n 0, 1), (8, .getfield 57, 3), (11, .aload_n 0, 1), (12, .getfield 10, 3), (15, .invokevirtual 300, 3), (18, .aload_n 0, 1), (19, .getfield 57, 3), (22, .aload_n 0, 1), (23, .getfield 10, 3), (26, .iload_n 1, 1), (27, .invokevirtual 307, 3), (30, .ireturn, 1)]
set_option maxRecDepth 20000 in
theorem oX8_orphans : CtOk mX8_orphans.2.1 tX8_orphans := by unfold CtOk; decide +kernel
set_option maxRecDepth 20000 in
theorem kX8_orphans : MK mX8_orphans := ⟨tj6 28 (by rfl) rfl, tj1 1 (by rfl) rfl, by decide +kernel, by decide +kernel, by decide +kernel⟩
theorem vX8_orphans : MKv mX8_orphans 8 := ⟨tj6 26 (by rfl) rfl, tj6 27 (by rfl) rfl, _, _, rfl⟩
def mX8_shortestOrphan : Mi := (yX8_shortestOrphan, cX8_shortestOrphan, 3, some .int, 1)
def tX8_shortestOrphan : Ct := [(0, .iload_n 1, 1), (1, .invokestatic 210, 3), (4, .aload_n 0, 1), (5, .getfield 57, 3), (8, .aload_n 0, 1), (9, .getfield 10, 3), (12, .invokevirtual 300, 3), (15, .aload_n 0, 1), (16, .getfield 57, 3), (19, .invokevirtual 310, 3), (22, .ifCond .eq 14, 3), (25, .new 269, 3), (28, .dup, 1), (29, .ldc_w 314, 3), (32, .invokespecial 273, 3), (35, .athrow, 1), (36, .aload_n 0, 1), (37, .getfield 57, 3), (40, .invokevirtual 316, 3), (43, .istore_n 2, 1), (44, .iload_n 2, 1), (45, .bipush 14, 2), (47, .if_icmp .le 14, 3), (50, .new 154, 3), (53, .dup, 1), (54, .ldc_w 320, 3), (57, .invokespecial 158, 3), (60, .athrow, 1), (61, .aload_n 0, 1), (62, .getfield 22, 3), (65, .iload_n 1, 1), (66, .iload_n 2, 1), (67, .aload_n 0, 1), (68, .getfield 57, 3), (71, .invokevirtual 322, 3), (74, .invokevirtual 220, 3), (77, .iload_n 2, 1), (78, .ireturn, 1)]
set_option maxRecDepth 20000 in
theorem oX8_shortestOrphan : CtOk mX8_shortestOrphan.2.1 tX8_shortestOrphan := by unfold CtOk; decide +kernel
set_option maxRecDepth 20000 in
theorem kX8_shortestOrphan : MK mX8_shortestOrphan := ⟨tj6 49 (by rfl) rfl, tj1 1 (by rfl) rfl, by decide +kernel, by decide +kernel, by decide +kernel⟩
theorem vX8_shortestOrphan : MKv mX8_shortestOrphan 8 := ⟨tj6 47 (by rfl) rfl, tj6 48 (by rfl) rfl, _, _, rfl⟩
def mX8_has : Mi := (yX8_has, cX8_has, 2, some .boolean, 1)
def tX8_has : Ct := [(0, .iload_n 1, 1), (1, .tableswitch 212 0 6 #[43, 62, 82, 90, 98, 106, 159], 43), (44, .aload_n 0, 1), (45, .getfield 57, 3), (48, .aload_n 0, 1), (49, .getfield 10, 3), (52, .invokevirtual 300, 3), (55, .aload_n 0, 1), (56, .getfield 57, 3), (59, .invokevirtual 310, 3), (62, .ireturn, 1), (63, .aload_n 0, 1), (64, .getfield 64, 3), (67, .aload_n 0, 1), (68, .getfield 10, 3), (71, .invokevirtual 325, 3), (74, .ifCond .ne 7, 3), (77, .iconst 1, 1), (78, .goto 4, 3), (81, .iconst 0, 1), (82, .ireturn, 1), (83, .aload_n 0, 1), (84, .getfield 10, 3), (87, .invokevirtual 328, 3), (90, .ireturn, 1), (91, .aload_n 0, 1), (92, .getfield 10, 3), (95, .invokevirtual 331, 3), (98, .ireturn, 1), (99, .aload_n 0, 1), (100, .getfield 10, 3), (103, .invokevirtual 334, 3), (106, .ireturn, 1), (107, .aload_n 0, 1), (108, .getfield 10, 3), (111, .aload_n 0, 1), (112, .getfield 10, 3), (115, .getfield 124, 3), (118, .aload_n 0, 1), (119, .getfield 75, 3), (122, .invokevirtual 185, 3), (125, .aload_n 0, 1), (126, .getfield 10, 3), (129, .aload_n 0, 1), (130, .getfield 75, 3), (133, .invokevirtual 141, 3), (136, .aload_n 0, 1), (137, .getfield 10, 3), (140, .aload_n 0, 1), (141, .getfield 10, 3), (144, .getfield 124, 3), (147, .invokevirtual 141, 3), (150, .lcmp, 1), (151, .ifCond .ne 7, 3), (154, .iconst 1, 1), (155, .goto 4, 3), (158, .iconst 0, 1), (159, .ireturn, 1), (160, .aload_n 0, 1), (161, .getfield 10, 3), (164, .aload_n 0, 1), (165, .getfield 10, 3), (168, .getfield 124, 3), (171, .aload_n 0, 1), (172, .getfield 75, 3), (175, .invokevirtual 189, 3), (178, .aload_n 0, 1), (179, .getfield 10, 3), (182, .aload_n 0, 1), (183, .getfield 75, 3), (186, .invokevirtual 141, 3), (189, .aload_n 0, 1), (190, .getfield 10, 3), (193, .aload_n 0, 1), (194, .getfield 10, 3), (197, .getfield 124, 3), (200, .invokevirtual 141, 3), (203, .lcmp, 1), (204, .ifCond .ne 7, 3), (207, .iconst 1, 1), (208, .goto 4, 3), (211, .iconst 0, 1), (212, .ireturn, 1), (213, .new 113, 3), (216, .dup, 1), (217, .ldc_w 337, 3), (220, .invokespecial 117, 3), (223, .athrow, 1)]
set_option maxRecDepth 20000 in
theorem oX8_has : CtOk mX8_has.2.1 tX8_has := by unfold CtOk; decide +kernel
set_option maxRecDepth 20000 in
theorem kX8_has : MK mX8_has := ⟨tj6 67 (by rfl) rfl, tj1 1 (by rfl) rfl, by decide +kernel, by decide +kernel, by decide +kernel⟩
theorem vX8_has : MKv mX8_has 8 := ⟨tj6 65 (by rfl) rfl, tj6 66 (by rfl) rfl, _, _, rfl⟩
def mX8_cyclicPairs : Mi := (yX8_cyclicPairs, cX8_cyclicPairs, 1, some .int, 0)
def tX8_cyclicPairs : Ct := [(0, .aload_n 0, 1), (1, .getfield 64, 3), (4, .aload_n 0, 1), (5, .getfield 10, 3), (8, .invokevirtual 325, 3), (11, .ireturn, 1)]
set_option maxRecDepth 20000 in
theorem oX8_cyclicPairs : CtOk mX8_cyclicPairs.2.1 tX8_cyclicPairs := by unfold CtOk; decide +kernel
set_option maxRecDepth 20000 in
theorem kX8_cyclicPairs : MK mX8_cyclicPairs := ⟨tj2 156 (by rfl) rfl, tj1 1 (by rfl) rfl, by decide +kernel, by decide +kernel, by decide +kernel⟩
theorem vX8_cyclicPairs : MKv mX8_cyclicPairs 8 := ⟨tj2 154 (by rfl) rfl, tj2 155 (by rfl) rfl, _, _, rfl⟩
def mX8_inverse : Mi := (yX8_inverse, cX8_inverse, 2, some .int, 1)
def tX8_inverse : Ct := [(0, .iload_n 1, 1), (1, .invokestatic 179, 3), (4, .aload_n 0, 1), (5, .invokevirtual 339, 3), (8, .iload_n 1, 1), (9, .ifCond .ne 13, 3), (12, .aload_n 0, 1), (13, .getfield 71, 3), (16, .getfield 342, 3), (19, .goto 10, 3), (22, .aload_n 0, 1), (23, .getfield 71, 3), (26, .getfield 343, 3), (29, .ireturn, 1)]
set_option maxRecDepth 20000 in
theorem oX8_inverse : CtOk mX8_inverse.2.1 tX8_inverse := by unfold CtOk; decide +kernel
set_option maxRecDepth 20000 in
theorem kX8_inverse : MK mX8_inverse := ⟨tj6 92 (by rfl) rfl, tj1 1 (by rfl) rfl, by decide +kernel, by decide +kernel, by decide +kernel⟩
theorem vX8_inverse : MKv mX8_inverse 8 := ⟨tj6 90 (by rfl) rfl, tj6 91 (by rfl) rfl, _, _, rfl⟩
def mX8_inverseOutput : Mi := (yX8_inverseOutput, cX8_inverseOutput, 2, some .int, 1)
def tX8_inverseOutput : Ct := [(0, .aload_n 0, 1), (1, .invokevirtual 339, 3), (4, .iload_n 1, 1), (5, .ifCond .lt 21, 3), (8, .iload_n 1, 1), (9, .aload_n 0, 1), (10, .getfield 10, 3), (13, .aload_n 0, 1), (14, .getfield 71, 3), (17, .getfield 342, 3), (20, .invokevirtual 202, 3), (23, .if_icmp .lt 14, 3), (26, .new 113, 3), (29, .dup, 1), (30, .ldc_w 346, 3), (33, .invokespecial 117, 3), (36, .athrow, 1), (37, .aload_n 0, 1), (38, .getfield 71, 3), (41, .aload_n 0, 1), (42, .getfield 10, 3), (45, .iload_n 1, 1), (46, .invokevirtual 348, 3), (49, .ireturn, 1)]
set_option maxRecDepth 20000 in
theorem oX8_inverseOutput : CtOk mX8_inverseOutput.2.1 tX8_inverseOutput := by unfold CtOk; decide +kernel
set_option maxRecDepth 20000 in
theorem kX8_inverseOutput : MK mX8_inverseOutput := ⟨tj6 128 (by rfl) rfl, tj1 1 (by rfl) rfl, by decide +kernel, by decide +kernel, by decide +kernel⟩
theorem vX8_inverseOutput : MKv mX8_inverseOutput 8 := ⟨tj6 126 (by rfl) rfl, tj6 127 (by rfl) rfl, _, _, rfl⟩
def mX8_save : Mi := (yX8_save, cX8_save, 1, some .long, 0)
def tX8_save : Ct := [(0, .aload_n 0, 1), (1, .getfield 16, 3), (4, .aload_n 0, 1), (5, .getfield 10, 3), (8, .invokevirtual 351, 3), (11, .aload_n 0, 1), (12, .getfield 26, 3), (15, .aload_n 0, 1), (16, .getfield 22, 3), (19, .invokevirtual 354, 3), (22, .aload_n 0, 1), (23, .iconst 1, 1), (24, .putfield 29, 3), (27, .aload_n 0, 1), (28, .getfield 10, 3), (31, .aload_n 0, 1), (32, .getfield 10, 3), (35, .getfield 124, 3), (38, .invokevirtual 141, 3), (41, .lreturn, 1)]
set_option maxRecDepth 20000 in
theorem oX8_save : CtOk mX8_save.2.1 tX8_save := by unfold CtOk; decide +kernel
set_option maxRecDepth 20000 in
theorem kX8_save : MK mX8_save := ⟨tj2 180 (by rfl) rfl, tj1 1 (by rfl) rfl, by decide +kernel, by decide +kernel, by decide +kernel⟩
theorem vX8_save : MKv mX8_save 8 := ⟨tj2 178 (by rfl) rfl, tj2 179 (by rfl) rfl, _, _, rfl⟩
def mX8_restore : Mi := (yX8_restore, cX8_restore, 1, some .long, 0)
def tX8_restore : Ct := [(0, .aload_n 0, 1), (1, .getfield 29, 3), (4, .ifCond .ne 14, 3), (7, .new 154, 3), (10, .dup, 1), (11, .ldc_w 357, 3), (14, .invokespecial 158, 3), (17, .athrow, 1), (18, .aload_n 0, 1), (19, .getfield 10, 3), (22, .aload_n 0, 1), (23, .getfield 16, 3), (26, .invokevirtual 351, 3), (29, .aload_n 0, 1), (30, .getfield 22, 3), (33, .aload_n 0, 1), (34, .getfield 26, 3), (37, .invokevirtual 354, 3), (40, .aload_n 0, 1), (41, .getfield 10, 3), (44, .aload_n 0, 1), (45, .getfield 10, 3), (48, .getfield 124, 3), (51, .invokevirtual 141, 3), (54, .lreturn, 1)]
set_option maxRecDepth 20000 in
theorem oX8_restore : CtOk mX8_restore.2.1 tX8_restore := by unfold CtOk; decide +kernel
set_option maxRecDepth 20000 in
theorem kX8_restore : MK mX8_restore := ⟨tj6 141 (by rfl) rfl, tj1 1 (by rfl) rfl, by decide +kernel, by decide +kernel, by decide +kernel⟩
theorem vX8_restore : MKv mX8_restore 8 := ⟨tj6 139 (by rfl) rfl, tj6 140 (by rfl) rfl, _, _, rfl⟩
def mX8_needRegister : Mi := (yX8_needRegister, cX8_needRegister, 1, none, 1)
def tX8_needRegister : Ct := [(0, .iload_n 0, 1), (1, .ifCond .lt 8, 3), (4, .iload_n 0, 1), (5, .iconst 4, 1), (6, .if_icmp .lt 14, 3), (9, .new 113, 3), (12, .dup, 1), (13, .ldc_w 359, 3), (16, .invokespecial 117, 3), (19, .athrow, 1), (20, .return_, 1)]
set_option maxRecDepth 20000 in
theorem oX8_needRegister : CtOk mX8_needRegister.2.1 tX8_needRegister := by unfold CtOk; decide +kernel
set_option maxRecDepth 20000 in
theorem kX8_needRegister : MK mX8_needRegister := ⟨tj4 40 (by rfl) rfl, tj1 1 (by rfl) rfl, by decide +kernel, by decide +kernel, by decide +kernel⟩
theorem sX8_needRegister : Cond.static mX8_needRegister.1 ∈ TSg := tj4 39 (by rfl) rfl
def mX8_needBit : Mi := (yX8_needBit, cX8_needBit, 1, none, 1)
def tX8_needBit : Ct := [(0, .iload_n 0, 1), (1, .ifCond .eq 19, 3), (4, .iload_n 0, 1), (5, .iconst 1, 1), (6, .if_icmp .eq 14, 3), (9, .new 113, 3), (12, .dup, 1), (13, .ldc_w 361, 3), (16, .invokespecial 117, 3), (19, .athrow, 1), (20, .return_, 1)]
set_option maxRecDepth 20000 in
theorem oX8_needBit : CtOk mX8_needBit.2.1 tX8_needBit := by unfold CtOk; decide +kernel
set_option maxRecDepth 20000 in
theorem kX8_needBit : MK mX8_needBit := ⟨tj4 10 (by rfl) rfl, tj1 1 (by rfl) rfl, by decide +kernel, by decide +kernel, by decide +kernel⟩
theorem sX8_needBit : Cond.static mX8_needBit.1 ∈ TSg := tj4 9 (by rfl) rfl
def mX8_needLength : Mi := (yX8_needLength, cX8_needLength, 3, none, 3)
def tX8_needLength : Ct := [(0, .iload_n 0, 1), (1, .iload_n 1, 1), (2, .if_icmp .lt 8, 3), (5, .iload_n 0, 1), (6, .iload_n 2, 1), (7, .if_icmp .le 13, 3), (10, .new 86, 3), (13, .dup, 1), (14, .ldc 213, 2), (16, .invokespecial 90, 3), (19, .athrow, 1), (20, .return_, 1)]
set_option maxRecDepth 20000 in
theorem oX8_needLength : CtOk mX8_needLength.2.1 tX8_needLength := by unfold CtOk; decide +kernel
set_option maxRecDepth 20000 in
theorem kX8_needLength : MK mX8_needLength := ⟨tj5 218 (by rfl) rfl, tj1 1 (by rfl) rfl, by decide +kernel, by decide +kernel, by decide +kernel⟩
theorem sX8_needLength : Cond.static mX8_needLength.1 ∈ TSg := tj5 217 (by rfl) rfl
def mX8_needNeighborhood : Mi := (yX8_needNeighborhood, cX8_needNeighborhood, 2, none, 1)
def tX8_needNeighborhood : Ct := [(0, .iload_n 1, 1), (1, .ifCond .lt 14, 3), (4, .iload_n 1, 1), (5, .aload_n 0, 1), (6, .getfield 10, 3), (9, .getfield 100, 3), (12, .if_icmp .lt 14, 3), (15, .new 113, 3), (18, .dup, 1), (19, .ldc_w 363, 3), (22, .invokespecial 117, 3), (25, .athrow, 1), (26, .return_, 1)]
set_option maxRecDepth 20000 in
theorem oX8_needNeighborhood : CtOk mX8_needNeighborhood.2.1 tX8_needNeighborhood := by unfold CtOk; decide +kernel
set_option maxRecDepth 20000 in
theorem kX8_needNeighborhood : MK mX8_needNeighborhood := ⟨tj3 95 (by rfl) rfl, tj1 1 (by rfl) rfl, by decide +kernel, by decide +kernel, by decide +kernel⟩
theorem vX8_needNeighborhood : MKv mX8_needNeighborhood 8 := ⟨tj3 94 (by rfl) rfl, tb0 5 (by rfl) rfl, _, _, rfl⟩
def mX8_needNode : Mi := (yX8_needNode, cX8_needNode, 2, none, 1)
def tX8_needNode : Ct := [(0, .iload_n 1, 1), (1, .ifCond .lt 14, 3), (4, .iload_n 1, 1), (5, .aload_n 0, 1), (6, .getfield 10, 3), (9, .getfield 110, 3), (12, .if_icmp .lt 14, 3), (15, .new 113, 3), (18, .dup, 1), (19, .ldc_w 365, 3), (22, .invokespecial 117, 3), (25, .athrow, 1), (26, .return_, 1)]
set_option maxRecDepth 20000 in
theorem oX8_needNode : CtOk mX8_needNode.2.1 tX8_needNode := by unfold CtOk; decide +kernel
set_option maxRecDepth 20000 in
theorem kX8_needNode : MK mX8_needNode := ⟨tj5 206 (by rfl) rfl, tj1 1 (by rfl) rfl, by decide +kernel, by decide +kernel, by decide +kernel⟩
theorem vX8_needNode : MKv mX8_needNode 8 := ⟨tj5 205 (by rfl) rfl, tb0 24 (by rfl) rfl, _, _, rfl⟩
def mX8_needInverse : Mi := (yX8_needInverse, cX8_needInverse, 1, none, 0)
def tX8_needInverse : Ct := [(0, .aload_n 0, 1), (1, .getfield 71, 3), (4, .aload_n 0, 1), (5, .getfield 10, 3), (8, .invokevirtual 367, 3), (11, .aload_n 0, 1), (12, .getfield 71, 3), (15, .getfield 342, 3), (18, .ifCond .ne 14, 3), (21, .new 269, 3), (24, .dup, 1), (25, .ldc_w 370, 3), (28, .invokespecial 273, 3), (31, .athrow, 1), (32, .return_, 1)]
set_option maxRecDepth 20000 in
theorem oX8_needInverse : CtOk mX8_needInverse.2.1 tX8_needInverse := by unfold CtOk; decide +kernel
set_option maxRecDepth 20000 in
theorem kX8_needInverse : MK mX8_needInverse := ⟨tj6 96 (by rfl) rfl, tj1 1 (by rfl) rfl, by decide +kernel, by decide +kernel, by decide +kernel⟩
theorem vX8_needInverse : MKv mX8_needInverse 8 := ⟨tj6 95 (by rfl) rfl, tb0 29 (by rfl) rfl, _, _, rfl⟩
def mX8_byteAt : Mi := (yX8_byteAt, cX8_byteAt, 2, some .int, 2)
def tX8_byteAt : Ct := [(0, .iload_n 0, 1), (1, .iload_n 1, 1), (2, .iushr, 1), (3, .sipush 255, 3), (6, .iand, 1), (7, .ireturn, 1)]
set_option maxRecDepth 20000 in
theorem oX8_byteAt : CtOk mX8_byteAt.2.1 tX8_byteAt := by unfold CtOk; decide +kernel
set_option maxRecDepth 20000 in
theorem kX8_byteAt : MK mX8_byteAt := ⟨tj3 133 (by rfl) rfl, tj1 1 (by rfl) rfl, by decide +kernel, by decide +kernel, by decide +kernel⟩
theorem sX8_byteAt : Cond.static mX8_byteAt.1 ∈ TSg := tj3 132 (by rfl) rfl
def mX8_takeLabels : Mi := (yX8_takeLabels, cX8_takeLabels, 2, none, 1)
def tX8_takeLabels : Ct := [(0, .aload_n 0, 1), (1, .getfield 50, 3), (4, .aload_n 0, 1), (5, .getfield 10, 3), (8, .aload_n 0, 1), (9, .getfield 22, 3), (12, .getfield 217, 3), (15, .iload_n 1, 1), (16, .iaload, 1), (17, .aload_n 0, 1), (18, .getfield 22, 3), (21, .getfield 224, 3), (24, .iload_n 1, 1), (25, .iaload, 1), (26, .invokevirtual 372, 3), (29, .return_, 1)]
set_option maxRecDepth 20000 in
theorem oX8_takeLabels : CtOk mX8_takeLabels.2.1 tX8_takeLabels := by unfold CtOk; decide +kernel
set_option maxRecDepth 20000 in
theorem kX8_takeLabels : MK mX8_takeLabels := ⟨tj5 117 (by rfl) rfl, tj1 1 (by rfl) rfl, by decide +kernel, by decide +kernel, by decide +kernel⟩
theorem vX8_takeLabels : MKv mX8_takeLabels 8 := ⟨tj5 116 (by rfl) rfl, tb0 18 (by rfl) rfl, _, _, rfl⟩
end
section
/-! ===== code tables: reference ===== -/
def mX9_thrown : Mi := (yX9_thrown, cX9_thrown, 1, some .int, 0)
def tX9_thrown : Ct := [(0, .aload_n 0, 1), (1, .getfield 96, 3), (4, .ireturn, 1)]
set_option maxRecDepth 20000 in
theorem oX9_thrown : CtOk mX9_thrown.2.1 tX9_thrown := by unfold CtOk; decide +kernel
set_option maxRecDepth 20000 in
theorem kX9_thrown : MK mX9_thrown := ⟨tj7 40 (by rfl) rfl, tj1 10 (by rfl) rfl, by decide +kernel, by decide +kernel, by decide +kernel⟩
theorem vX9_thrown : MKv mX9_thrown 9 := ⟨tj7 38 (by rfl) rfl, tj7 39 (by rfl) rfl, _, _, rfl⟩
def mX9_no : Mi := (yX9_no, cX9_no, 2, some .int, 1)
def tX9_no : Ct := [(0, .aload_n 0, 1), (1, .iload_n 1, 1), (2, .putfield 96, 3), (5, .iconst 0, 1), (6, .ireturn, 1)]
set_option maxRecDepth 20000 in
theorem oX9_no : CtOk mX9_no.2.1 tX9_no := by unfold CtOk; decide +kernel
set_option maxRecDepth 20000 in
theorem kX9_no : MK mX9_no := ⟨tj7 54 (by rfl) rfl, tj1 10 (by rfl) rfl, by decide +kernel, by decide +kernel, by decide +kernel⟩
theorem vX9_no : MKv mX9_no 9 := ⟨tj7 53 (by rfl) rfl, tb0 32 (by rfl) rfl, _, _, rfl⟩
def mX9_isIn : Mi := (yX9_isIn, cX9_isIn, 3, some .boolean, 3)
def tX9_isIn : Ct := [(0, .iload_n 0, 1), (1, .iload_n 1, 1), (2, .if_icmp .lt 12, 3), (5, .iload_n 0, 1), (6, .iload_n 2, 1), (7, .if_icmp .gt 7, 3), (10, .iconst 1, 1), (11, .goto 4, 3), (14, .iconst 0, 1), (15, .ireturn, 1)]
set_option maxRecDepth 20000 in
theorem oX9_isIn : CtOk mX9_isIn.2.1 tX9_isIn := by unfold CtOk; decide +kernel
set_option maxRecDepth 20000 in
theorem kX9_isIn : MK mX9_isIn := ⟨tj7 50 (by rfl) rfl, tj1 10 (by rfl) rfl, by decide +kernel, by decide +kernel, by decide +kernel⟩
theorem sX9_isIn : Cond.static mX9_isIn.1 ∈ TSg := tj7 49 (by rfl) rfl
def mX9_power : Mi := (yX9_power, cX9_power, 4, some .int, 1)
def tX9_power : Ct := [(0, .iconst 1, 1), (1, .istore_n 2, 1), (2, .iconst 0, 1), (3, .istore_n 3, 1), (4, .iload_n 3, 1), (5, .iload_n 1, 1), (6, .if_icmp .ge 16, 3), (9, .iload_n 2, 1), (10, .aload_n 0, 1), (11, .getfield 7, 3), (14, .imul, 1), (15, .istore_n 2, 1), (16, .iinc 3 1, 3), (19, .goto (-15), 3), (22, .iload_n 2, 1), (23, .ireturn, 1)]
set_option maxRecDepth 20000 in
theorem oX9_power : CtOk mX9_power.2.1 tX9_power := by unfold CtOk; decide +kernel
set_option maxRecDepth 20000 in
theorem kX9_power : MK mX9_power := ⟨tj7 62 (by rfl) rfl, tj1 10 (by rfl) rfl, by decide +kernel, by decide +kernel, by decide +kernel⟩
theorem vX9_power : MKv mX9_power 9 := ⟨tj7 61 (by rfl) rfl, tb0 34 (by rfl) rfl, _, _, rfl⟩
def mX9_all : Mi := (yX9_all, cX9_all, 1, some .int, 0)
def tX9_all : Ct := [(0, .aload_n 0, 1), (1, .aload_n 0, 1), (2, .getfield 13, 3), (5, .invokevirtual 99, 3), (8, .ireturn, 1)]
set_option maxRecDepth 20000 in
theorem oX9_all : CtOk mX9_all.2.1 tX9_all := by unfold CtOk; decide +kernel
set_option maxRecDepth 20000 in
theorem kX9_all : MK mX9_all := ⟨tj7 58 (by rfl) rfl, tj1 10 (by rfl) rfl, by decide +kernel, by decide +kernel, by decide +kernel⟩
theorem vX9_all : MKv mX9_all 9 := ⟨tj7 57 (by rfl) rfl, tb0 33 (by rfl) rfl, _, _, rfl⟩
def mX9_nodes : Mi := (yX9_nodes, cX9_nodes, 1, some .int, 0)
def tX9_nodes : Ct := [(0, .aload_n 0, 1), (1, .aload_n 0, 1), (2, .getfield 13, 3), (5, .iconst 1, 1), (6, .isub, 1), (7, .invokevirtual 99, 3), (10, .ireturn, 1)]
set_option maxRecDepth 20000 in
theorem oX9_nodes : CtOk mX9_nodes.2.1 tX9_nodes := by unfold CtOk; decide +kernel
set_option maxRecDepth 20000 in
theorem kX9_nodes : MK mX9_nodes := ⟨tj7 70 (by rfl) rfl, tj1 10 (by rfl) rfl, by decide +kernel, by decide +kernel, by decide +kernel⟩
theorem vX9_nodes : MKv mX9_nodes 9 := ⟨tj7 69 (by rfl) rfl, tb0 35 (by rfl) rfl, _, _, rfl⟩
def mX9_isSize : Mi := (yX9_isSize, cX9_isSize, 2, some .boolean, 2)
def tX9_isSize : Ct := [(0, .iload_n 0, 1), (1, .iconst 2, 1), (2, .if_icmp .ne 12, 3), (5, .iload_n 1, 1), (6, .iconst 2, 1), (7, .iconst 4, 1), (8, .invokestatic 103, 3), (11, .ifCond .ne 17, 3), (14, .iload_n 0, 1), (15, .iconst 3, 1), (16, .if_icmp .ne 16, 3), (19, .iload_n 1, 1), (20, .iconst 2, 1), (21, .iconst 3, 1), (22, .invokestatic 103, 3), (25, .ifCond .eq 7, 3), (28, .iconst 1, 1), (29, .goto 4, 3), (32, .iconst 0, 1), (33, .ireturn, 1)]
set_option maxRecDepth 20000 in
theorem oX9_isSize : CtOk mX9_isSize.2.1 tX9_isSize := by unfold CtOk; decide +kernel
set_option maxRecDepth 20000 in
theorem kX9_isSize : MK mX9_isSize := ⟨tj7 47 (by rfl) rfl, tj1 10 (by rfl) rfl, by decide +kernel, by decide +kernel, by decide +kernel⟩
theorem sX9_isSize : Cond.static mX9_isSize.1 ∈ TSg := tj7 46 (by rfl) rfl
def mX9_setSize : Mi := (yX9_setSize, cX9_setSize, 4, some .int, 2)
def tX9_setSize : Ct := [(0, .aload_n 0, 1), (1, .iconst 0, 1), (2, .putfield 96, 3), (5, .iload_n 1, 1), (6, .iload_n 2, 1), (7, .invokestatic 107, 3), (10, .ifCond .ne 9, 3), (13, .aload_n 0, 1), (14, .iconst 1, 1), (15, .invokevirtual 111, 3), (18, .ireturn, 1), (19, .aload_n 0, 1), (20, .iload_n 1, 1), (21, .putfield 7, 3), (24, .aload_n 0, 1), (25, .iload_n 2, 1), (26, .putfield 13, 3), (29, .iconst 0, 1), (30, .istore_n 3, 1), (31, .iload_n 3, 1), (32, .bipush 27, 2), (34, .if_icmp .ge 16, 3), (37, .aload_n 0, 1), (38, .getfield 16, 3), (41, .iload_n 3, 1), (42, .iconst 0, 1), (43, .iastore, 1), (44, .iinc 3 1, 3), (47, .goto (-16), 3), (50, .iconst 0, 1), (51, .istore_n 3, 1), (52, .iload_n 3, 1), (53, .iconst 4, 1), (54, .if_icmp .ge 23, 3), (57, .aload_n 0, 1), (58, .getfield 20, 3), (61, .iload_n 3, 1), (62, .iconst 0, 1), (63, .iastore, 1), (64, .aload_n 0, 1), (65, .getfield 23, 3), (68, .iload_n 3, 1), (69, .iconst 0, 1), (70, .iastore, 1), (71, .iinc 3 1, 3), (74, .goto (-22), 3), (77, .aload_n 0, 1), (78, .invokevirtual 114, 3), (81, .ireturn, 1)]
set_option maxRecDepth 20000 in
theorem oX9_setSize : CtOk mX9_setSize.2.1 tX9_setSize := by unfold CtOk; decide +kernel
set_option maxRecDepth 20000 in
theorem kX9_setSize : MK mX9_setSize := ⟨tj7 44 (by rfl) rfl, tj1 10 (by rfl) rfl, by decide +kernel, by decide +kernel, by decide +kernel⟩
theorem vX9_setSize : MKv mX9_setSize 9 := ⟨tj7 42 (by rfl) rfl, tj7 43 (by rfl) rfl, _, _, rfl⟩
def mX9_size : Mi := (yX9_size, cX9_size, 2, some .int, 1)
def tX9_size : Ct := [(0, .aload_n 0, 1), (1, .iconst 0, 1), (2, .putfield 96, 3), (5, .iload_n 1, 1), (6, .iconst 0, 1), (7, .iconst 3, 1), (8, .invokestatic 103, 3), (11, .ifCond .ne 9, 3), (14, .aload_n 0, 1), (15, .iconst 1, 1), (16, .invokevirtual 111, 3), (19, .ireturn, 1), (20, .iload_n 1, 1), (21, .ifCond .ne 10, 3), (24, .aload_n 0, 1), (25, .getfield 7, 3), (28, .goto 31, 3), (31, .iload_n 1, 1), (32, .iconst 1, 1), (33, .if_icmp .ne 10, 3), (36, .aload_n 0, 1), (37, .getfield 13, 3), (40, .goto 19, 3), (43, .iload_n 1, 1), (44, .iconst 2, 1), (45, .if_icmp .ne 10, 3), (48, .aload_n 0, 1), (49, .invokevirtual 114, 3), (52, .goto 7, 3), (55, .aload_n 0, 1), (56, .invokevirtual 118, 3), (59, .ireturn, 1)]
set_option maxRecDepth 20000 in
theorem oX9_size : CtOk mX9_size.2.1 tX9_size := by unfold CtOk; decide +kernel
set_option maxRecDepth 20000 in
theorem kX9_size : MK mX9_size := ⟨tj7 66 (by rfl) rfl, tj1 10 (by rfl) rfl, by decide +kernel, by decide +kernel, by decide +kernel⟩
theorem vX9_size : MKv mX9_size 9 := ⟨tj7 64 (by rfl) rfl, tj7 65 (by rfl) rfl, _, _, rfl⟩
def mX9_setOutput : Mi := (yX9_setOutput, cX9_setOutput, 4, some .int, 2)
def tX9_setOutput : Ct := [(0, .aload_n 0, 1), (1, .iconst 0, 1), (2, .putfield 96, 3), (5, .iload_n 1, 1), (6, .iconst 0, 1), (7, .aload_n 0, 1), (8, .invokevirtual 114, 3), (11, .iconst 1, 1), (12, .isub, 1), (13, .invokestatic 103, 3), (16, .ifCond .ne 9, 3), (19, .aload_n 0, 1), (20, .iconst 1, 1), (21, .invokevirtual 111, 3), (24, .ireturn, 1), (25, .iload_n 2, 1), (26, .iconst 0, 1), (27, .aload_n 0, 1), (28, .getfield 7, 3), (31, .iconst 1, 1), (32, .isub, 1), (33, .invokestatic 103, 3), (36, .ifCond .ne 9, 3), (39, .aload_n 0, 1), (40, .iconst 2, 1), (41, .invokevirtual 111, 3), (44, .ireturn, 1), (45, .aload_n 0, 1), (46, .getfield 16, 3), (49, .iload_n 1, 1), (50, .iaload, 1), (51, .istore_n 3, 1), (52, .aload_n 0, 1), (53, .getfield 16, 3), (56, .iload_n 1, 1), (57, .iload_n 2, 1), (58, .iastore, 1), (59, .iload_n 3, 1), (60, .ireturn, 1)]
set_option maxRecDepth 20000 in
theorem oX9_setOutput : CtOk mX9_setOutput.2.1 tX9_setOutput := by unfold CtOk; decide +kernel
set_option maxRecDepth 20000 in
theorem kX9_setOutput : MK mX9_setOutput := ⟨tj7 74 (by rfl) rfl, tj1 10 (by rfl) rfl, by decide +kernel, by decide +kernel, by decide +kernel⟩
theorem vX9_setOutput : MKv mX9_setOutput 9 := ⟨tj7 72 (by rfl) rfl, tj7 73 (by rfl) rfl, _, _, rfl⟩
def mX9_output : Mi := (yX9_output, cX9_output, 2, some .int, 1)
def tX9_output : Ct := [(0, .aload_n 0, 1), (1, .iconst 0, 1), (2, .putfield 96, 3), (5, .iload_n 1, 1), (6, .iconst 0, 1), (7, .aload_n 0, 1), (8, .invokevirtual 114, 3), (11, .iconst 1, 1), (12, .isub, 1), (13, .invokestatic 103, 3), (16, .ifCond .eq 12, 3), (19, .aload_n 0, 1), (20, .getfield 16, 3), (23, .iload_n 1, 1), (24, .iaload, 1), (25, .goto 8, 3), (28, .aload_n 0, 1), (29, .iconst 1, 1), (30, .invokevirtual 111, 3), (33, .ireturn, 1)]
set_option maxRecDepth 20000 in
theorem oX9_output : CtOk mX9_output.2.1 tX9_output := by unfold CtOk; decide +kernel
set_option maxRecDepth 20000 in
theorem kX9_output : MK mX9_output := ⟨tj7 78 (by rfl) rfl, tj1 10 (by rfl) rfl, by decide +kernel, by decide +kernel, by decide +kernel⟩
theorem vX9_output : MKv mX9_output 9 := ⟨tj7 76 (by rfl) rfl, tj7 77 (by rfl) rfl, _, _, rfl⟩
def mX9_becomes : Mi := (yX9_becomes, cX9_becomes, 3, some .int, 0)
def tX9_becomes : Ct := [(0, .iconst 0, 1), (1, .istore_n 1, 1), (2, .iconst 0, 1), (3, .istore_n 2, 1), (4, .iload_n 2, 1), (5, .aload_n 0, 1), (6, .invokevirtual 114, 3), (9, .if_icmp .ge 44, 3), (12, .iload_n 1, 1), (13, .aload_n 0, 1), (14, .getfield 16, 3), (17, .iload_n 2, 1), (18, .iaload, 1), (19, .aload_n 0, 1), (20, .getfield 41, 3), (23, .iload_n 2, 1), (24, .iaload, 1), (25, .if_icmp .ne 7, 3), (28, .iconst 0, 1), (29, .goto 4, 3), (32, .iconst 1, 1), (33, .iadd, 1), (34, .istore_n 1, 1), (35, .aload_n 0, 1), (36, .getfield 16, 3), (39, .iload_n 2, 1), (40, .aload_n 0, 1), (41, .getfield 41, 3), (44, .iload_n 2, 1), (45, .iaload, 1), (46, .iastore, 1), (47, .iinc 2 1, 3), (50, .goto (-46), 3), (53, .iload_n 1, 1), (54, .ireturn, 1)]
set_option maxRecDepth 20000 in
theorem oX9_becomes : CtOk mX9_becomes.2.1 tX9_becomes := by unfold CtOk; decide +kernel
set_option maxRecDepth 20000 in
theorem kX9_becomes : MK mX9_becomes := ⟨tj7 86 (by rfl) rfl, tj1 10 (by rfl) rfl, by decide +kernel, by decide +kernel, by decide +kernel⟩
theorem vX9_becomes : MKv mX9_becomes 9 := ⟨tj7 85 (by rfl) rfl, tb0 36 (by rfl) rfl, _, _, rfl⟩
def mX9_numberOf : Mi := (yX9_numberOf, cX9_numberOf, 5, some .long, 1)
def tX9_numberOf : Ct := [(0, .lconst 0, 1), (1, .lstore_n 2, 1), (2, .aload_n 0, 1), (3, .invokevirtual 114, 3), (6, .iconst 1, 1), (7, .isub, 1), (8, .istore 4, 2), (10, .iload 4, 2), (12, .ifCond .lt 23, 3), (15, .aload_n 0, 1), (16, .getfield 7, 3), (19, .i2l, 1), (20, .lload_n 2, 1), (21, .lmul, 1), (22, .aload_n 1, 1), (23, .iload 4, 2), (25, .iaload, 1), (26, .i2l, 1), (27, .ladd, 1), (28, .lstore_n 2, 1), (29, .iinc 4 (-1), 3), (32, .goto (-22), 3), (35, .lload_n 2, 1), (36, .lreturn, 1)]
set_option maxRecDepth 20000 in
theorem oX9_numberOf : CtOk mX9_numberOf.2.1 tX9_numberOf := by unfold CtOk; decide +kernel
set_option maxRecDepth 20000 in
theorem kX9_numberOf : MK mX9_numberOf := ⟨tj7 94 (by rfl) rfl, tj1 10 (by rfl) rfl, by decide +kernel, by decide +kernel, by decide +kernel⟩
theorem vX9_numberOf : MKv mX9_numberOf 9 := ⟨tj7 93 (by rfl) rfl, tb0 37 (by rfl) rfl, _, _, rfl⟩
def mX9_setNumber : Mi := (yX9_setNumber, cX9_setNumber, 6, some .int, 1)
def tX9_setNumber : Ct := [(0, .aload_n 0, 1), (1, .iconst 0, 1), (2, .putfield 96, 3), (5, .lload_n 1, 1), (6, .lstore_n 3, 1), (7, .iconst 0, 1), (8, .istore 5, 2), (10, .iload 5, 2), (12, .aload_n 0, 1), (13, .invokevirtual 114, 3), (16, .if_icmp .ge 38, 3), (19, .lload_n 1, 1), (20, .lconst 0, 1), (21, .lcmp, 1), (22, .ifCond .lt 32, 3), (25, .aload_n 0, 1), (26, .getfield 41, 3), (29, .iload 5, 2), (31, .lload_n 3, 1), (32, .aload_n 0, 1), (33, .getfield 7, 3), (36, .i2l, 1), (37, .lrem, 1), (38, .l2i, 1), (39, .iastore, 1), (40, .lload_n 3, 1), (41, .aload_n 0, 1), (42, .getfield 7, 3), (45, .i2l, 1), (46, .ldiv, 1), (47, .lstore_n 3, 1), (48, .iinc 5 1, 3), (51, .goto (-41), 3), (54, .lload_n 1, 1), (55, .lconst 0, 1), (56, .lcmp, 1), (57, .ifCond .lt 9, 3), (60, .lload_n 3, 1), (61, .lconst 0, 1), (62, .lcmp, 1), (63, .ifCond .le 11, 3), (66, .aload_n 0, 1), (67, .iconst 1, 1), (68, .invokevirtual 111, 3), (71, .goto 7, 3), (74, .aload_n 0, 1), (75, .invokevirtual 121, 3), (78, .ireturn, 1)]
set_option maxRecDepth 20000 in
theorem oX9_setNumber : CtOk mX9_setNumber.2.1 tX9_setNumber := by unfold CtOk; decide +kernel
set_option maxRecDepth 20000 in
theorem kX9_setNumber : MK mX9_setNumber := ⟨tj7 82 (by rfl) rfl, tj1 10 (by rfl) rfl, by decide +kernel, by decide +kernel, by decide +kernel⟩
theorem vX9_setNumber : MKv mX9_setNumber 9 := ⟨tj7 80 (by rfl) rfl, tj7 81 (by rfl) rfl, _, _, rfl⟩
def mX9_number : Mi := (yX9_number, cX9_number, 1, some .long, 0)
def tX9_number : Ct := [(0, .aload_n 0, 1), (1, .iconst 0, 1), (2, .putfield 96, 3), (5, .aload_n 0, 1), (6, .aload_n 0, 1), (7, .getfield 16, 3), (10, .invokevirtual 124, 3), (13, .lreturn, 1)]
set_option maxRecDepth 20000 in
theorem oX9_number : CtOk mX9_number.2.1 tX9_number := by unfold CtOk; decide +kernel
set_option maxRecDepth 20000 in
theorem kX9_number : MK mX9_number := ⟨tj7 90 (by rfl) rfl, tj1 10 (by rfl) rfl, by decide +kernel, by decide +kernel, by decide +kernel⟩
theorem vX9_number : MKv mX9_number 9 := ⟨tj7 88 (by rfl) rfl, tj7 89 (by rfl) rfl, _, _, rfl⟩
def mX9_turned : Mi := (yX9_turned, cX9_turned, 6, some .int, 2)
def tX9_turned : Ct := [(0, .iconst 0, 1), (1, .istore_n 3, 1), (2, .iload_n 1, 1), (3, .istore 4, 2), (5, .iconst 0, 1), (6, .istore 5, 2), (8, .iload 5, 2), (10, .iload_n 2, 1), (11, .if_icmp .ge 33, 3), (14, .aload_n 0, 1), (15, .getfield 7, 3), (18, .iload_n 3, 1), (19, .imul, 1), (20, .iload 4, 2), (22, .aload_n 0, 1), (23, .getfield 7, 3), (26, .irem, 1), (27, .iadd, 1), (28, .istore_n 3, 1), (29, .iload 4, 2), (31, .aload_n 0, 1), (32, .getfield 7, 3), (35, .idiv, 1), (36, .istore 4, 2), (38, .iinc 5 1, 3), (41, .goto (-33), 3), (44, .iload_n 3, 1), (45, .ireturn, 1)]
set_option maxRecDepth 20000 in
theorem oX9_turned : CtOk mX9_turned.2.1 tX9_turned := by unfold CtOk; decide +kernel
set_option maxRecDepth 20000 in
theorem kX9_turned : MK mX9_turned := ⟨tj7 106 (by rfl) rfl, tj1 10 (by rfl) rfl, by decide +kernel, by decide +kernel, by decide +kernel⟩
theorem vX9_turned : MKv mX9_turned 9 := ⟨tj7 105 (by rfl) rfl, tb0 39 (by rfl) rfl, _, _, rfl⟩
def mX9_mirrors : Mi := (yX9_mirrors, cX9_mirrors, 4, none, 2)
def tX9_mirrors : Ct := [(0, .iconst 0, 1), (1, .istore_n 3, 1), (2, .iload_n 3, 1), (3, .aload_n 0, 1), (4, .invokevirtual 114, 3), (7, .if_icmp .ge 23, 3), (10, .aload_n 2, 1), (11, .iload_n 3, 1), (12, .aload_n 1, 1), (13, .aload_n 0, 1), (14, .iload_n 3, 1), (15, .aload_n 0, 1), (16, .getfield 13, 3), (19, .invokevirtual 128, 3), (22, .iaload, 1), (23, .iastore, 1), (24, .iinc 3 1, 3), (27, .goto (-25), 3), (30, .return_, 1)]
set_option maxRecDepth 20000 in
theorem oX9_mirrors : CtOk mX9_mirrors.2.1 tX9_mirrors := by unfold CtOk; decide +kernel
set_option maxRecDepth 20000 in
theorem kX9_mirrors : MK mX9_mirrors := ⟨tj7 102 (by rfl) rfl, tj1 10 (by rfl) rfl, by decide +kernel, by decide +kernel, by decide +kernel⟩
theorem vX9_mirrors : MKv mX9_mirrors 9 := ⟨tj7 101 (by rfl) rfl, tb0 38 (by rfl) rfl, _, _, rfl⟩
def mX9_complements : Mi := (yX9_complements, cX9_complements, 4, none, 2)
def tX9_complements : Ct := [(0, .iconst 0, 1), (1, .istore_n 3, 1), (2, .iload_n 3, 1), (3, .aload_n 0, 1), (4, .invokevirtual 114, 3), (7, .if_icmp .ge 29, 3), (10, .aload_n 2, 1), (11, .iload_n 3, 1), (12, .aload_n 0, 1), (13, .getfield 7, 3), (16, .iconst 1, 1), (17, .isub, 1), (18, .aload_n 1, 1), (19, .aload_n 0, 1), (20, .invokevirtual 114, 3), (23, .iconst 1, 1), (24, .isub, 1), (25, .iload_n 3, 1), (26, .isub, 1), (27, .iaload, 1), (28, .isub, 1), (29, .iastore, 1), (30, .iinc 3 1, 3), (33, .goto (-31), 3), (36, .return_, 1)]
set_option maxRecDepth 20000 in
theorem oX9_complements : CtOk mX9_complements.2.1 tX9_complements := by unfold CtOk; decide +kernel
set_option maxRecDepth 20000 in
theorem kX9_complements : MK mX9_complements := ⟨tj7 114 (by rfl) rfl, tj1 10 (by rfl) rfl, by decide +kernel, by decide +kernel, by decide +kernel⟩
theorem vX9_complements : MKv mX9_complements 9 := ⟨tj7 113 (by rfl) rfl, tb0 40 (by rfl) rfl, _, _, rfl⟩
def mX9_mirror : Mi := (yX9_mirror, cX9_mirror, 1, some .int, 0)
def tX9_mirror : Ct := [(0, .aload_n 0, 1), (1, .iconst 0, 1), (2, .putfield 96, 3), (5, .aload_n 0, 1), (6, .aload_n 0, 1), (7, .getfield 16, 3), (10, .aload_n 0, 1), (11, .getfield 41, 3), (14, .invokevirtual 132, 3), (17, .aload_n 0, 1), (18, .invokevirtual 121, 3), (21, .ireturn, 1)]
set_option maxRecDepth 20000 in
theorem oX9_mirror : CtOk mX9_mirror.2.1 tX9_mirror := by unfold CtOk; decide +kernel
set_option maxRecDepth 20000 in
theorem kX9_mirror : MK mX9_mirror := ⟨tj7 98 (by rfl) rfl, tj1 10 (by rfl) rfl, by decide +kernel, by decide +kernel, by decide +kernel⟩
theorem vX9_mirror : MKv mX9_mirror 9 := ⟨tj7 96 (by rfl) rfl, tj7 97 (by rfl) rfl, _, _, rfl⟩
def mX9_complement : Mi := (yX9_complement, cX9_complement, 1, some .int, 0)
def tX9_complement : Ct := [(0, .aload_n 0, 1), (1, .iconst 0, 1), (2, .putfield 96, 3), (5, .aload_n 0, 1), (6, .aload_n 0, 1), (7, .getfield 16, 3), (10, .aload_n 0, 1), (11, .getfield 41, 3), (14, .invokevirtual 136, 3), (17, .aload_n 0, 1), (18, .invokevirtual 121, 3), (21, .ireturn, 1)]
set_option maxRecDepth 20000 in
theorem oX9_complement : CtOk mX9_complement.2.1 tX9_complement := by unfold CtOk; decide +kernel
set_option maxRecDepth 20000 in
theorem kX9_complement : MK mX9_complement := ⟨tj7 110 (by rfl) rfl, tj1 10 (by rfl) rfl, by decide +kernel, by decide +kernel, by decide +kernel⟩
theorem vX9_complement : MKv mX9_complement 9 := ⟨tj7 108 (by rfl) rfl, tj7 109 (by rfl) rfl, _, _, rfl⟩
def mX9_leastNumber : Mi := (yX9_leastNumber, cX9_leastNumber, 3, some .long, 0)
def tX9_leastNumber : Ct := [(0, .aload_n 0, 1), (1, .iconst 0, 1), (2, .putfield 96, 3), (5, .aload_n 0, 1), (6, .aload_n 0, 1), (7, .getfield 16, 3), (10, .invokevirtual 124, 3), (13, .lstore_n 1, 1), (14, .aload_n 0, 1), (15, .aload_n 0, 1), (16, .getfield 16, 3), (19, .aload_n 0, 1), (20, .getfield 41, 3), (23, .invokevirtual 132, 3), (26, .aload_n 0, 1), (27, .aload_n 0, 1), (28, .getfield 41, 3), (31, .aload_n 0, 1), (32, .getfield 44, 3), (35, .invokevirtual 136, 3), (38, .aload_n 0, 1), (39, .aload_n 0, 1), (40, .getfield 41, 3), (43, .invokevirtual 124, 3), (46, .lload_n 1, 1), (47, .lcmp, 1), (48, .ifCond .ge 14, 3), (51, .aload_n 0, 1), (52, .aload_n 0, 1), (53, .getfield 41, 3), (56, .invokevirtual 124, 3), (59, .goto 4, 3), (62, .lload_n 1, 1), (63, .lstore_n 1, 1), (64, .aload_n 0, 1), (65, .aload_n 0, 1), (66, .getfield 44, 3), (69, .invokevirtual 124, 3), (72, .lload_n 1, 1), (73, .lcmp, 1), (74, .ifCond .ge 14, 3), (77, .aload_n 0, 1), (78, .aload_n 0, 1), (79, .getfield 44, 3), (82, .invokevirtual 124, 3), (85, .goto 4, 3), (88, .lload_n 1, 1), (89, .lstore_n 1, 1), (90, .aload_n 0, 1), (91, .aload_n 0, 1), (92, .getfield 16, 3), (95, .aload_n 0, 1), (96, .getfield 44, 3), (99, .invokevirtual 136, 3), (102, .aload_n 0, 1), (103, .aload_n 0, 1), (104, .getfield 44, 3), (107, .invokevirtual 124, 3), (110, .lload_n 1, 1), (111, .lcmp, 1), (112, .ifCond .ge 14, 3), (115, .aload_n 0, 1), (116, .aload_n 0, 1), (117, .getfield 44, 3), (120, .invokevirtual 124, 3), (123, .goto 4, 3), (126, .lload_n 1, 1), (127, .lreturn, 1)]
set_option maxRecDepth 20000 in
theorem oX9_leastNumber : CtOk mX9_leastNumber.2.1 tX9_leastNumber := by unfold CtOk; decide +kernel
set_option maxRecDepth 20000 in
theorem kX9_leastNumber : MK mX9_leastNumber := ⟨tj7 118 (by rfl) rfl, tj1 10 (by rfl) rfl, by decide +kernel, by decide +kernel, by decide +kernel⟩
theorem vX9_leastNumber : MKv mX9_leastNumber 9 := ⟨tj7 116 (by rfl) rfl, tj7 117 (by rfl) rfl, _, _, rfl⟩
def mX9_compose : Mi := (yX9_compose, cX9_compose, 3, some .int, 0)
def tX9_compose : Ct := [(0, .aload_n 0, 1), (1, .iconst 0, 1), (2, .putfield 96, 3), (5, .aload_n 0, 1), (6, .getfield 13, 3), (9, .aload_n 0, 1), (10, .getfield 139, 3), (13, .iadd, 1), (14, .iconst 1, 1), (15, .isub, 1), (16, .istore_n 1, 1), (17, .aload_n 0, 1), (18, .getfield 142, 3), (21, .ifCond .eq 25, 3), (24, .aload_n 0, 1), (25, .getfield 142, 3), (28, .aload_n 0, 1), (29, .getfield 7, 3), (32, .if_icmp .ne 14, 3), (35, .aload_n 0, 1), (36, .getfield 7, 3), (39, .iload_n 1, 1), (40, .invokestatic 107, 3), (43, .ifCond .ne 9, 3), (46, .aload_n 0, 1), (47, .iconst 1, 1), (48, .invokevirtual 111, 3), (51, .ireturn, 1), (52, .iconst 0, 1), (53, .istore_n 2, 1), (54, .iload_n 2, 1), (55, .aload_n 0, 1), (56, .iload_n 1, 1), (57, .invokevirtual 99, 3), (60, .if_icmp .ge 34, 3), (63, .aload_n 0, 1), (64, .getfield 41, 3), (67, .iload_n 2, 1), (68, .aload_n 0, 1), (69, .getfield 16, 3), (72, .aload_n 0, 1), (73, .iload_n 2, 1), (74, .iload_n 1, 1), (75, .aload_n 0, 1), (76, .getfield 26, 3), (79, .aload_n 0, 1), (80, .getfield 139, 3), (83, .invokevirtual 145, 3), (86, .iaload, 1), (87, .iastore, 1), (88, .iinc 2 1, 3), (91, .goto (-37), 3), (94, .aload_n 0, 1), (95, .iload_n 1, 1), (96, .putfield 13, 3), (99, .aload_n 0, 1), (100, .invokevirtual 121, 3), (103, .istore_n 2, 1), (104, .aload_n 0, 1), (105, .getfield 13, 3), (108, .ireturn, 1)]
set_option maxRecDepth 20000 in
theorem oX9_compose : CtOk mX9_compose.2.1 tX9_compose := by unfold CtOk; decide +kernel
set_option maxRecDepth 20000 in
theorem kX9_compose : MK mX9_compose := ⟨tj7 122 (by rfl) rfl, tj1 10 (by rfl) rfl, by decide +kernel, by decide +kernel, by decide +kernel⟩
theorem vX9_compose : MKv mX9_compose 9 := ⟨tj7 120 (by rfl) rfl, tj7 121 (by rfl) rfl, _, _, rfl⟩
def mX9_imageOf : Mi := (yX9_imageOf, cX9_imageOf, 7, some .int, 4)
def tX9_imageOf : Ct := [(0, .iconst 0, 1), (1, .istore 5, 2), (3, .iconst 0, 1), (4, .istore 6, 2), (6, .iload 6, 2), (8, .iload 4, 2), (10, .iadd, 1), (11, .iload_n 2, 1), (12, .if_icmp .gt 41, 3), (15, .aload_n 0, 1), (16, .getfield 7, 3), (19, .iload 5, 2), (21, .imul, 1), (22, .aload_n 3, 1), (23, .iload_n 1, 1), (24, .aload_n 0, 1), (25, .iload_n 2, 1), (26, .iload 4, 2), (28, .isub, 1), (29, .iload 6, 2), (31, .isub, 1), (32, .invokevirtual 99, 3), (35, .idiv, 1), (36, .aload_n 0, 1), (37, .iload 4, 2), (39, .invokevirtual 99, 3), (42, .irem, 1), (43, .iaload, 1), (44, .iadd, 1), (45, .istore 5, 2), (47, .iinc 6 1, 3), (50, .goto (-44), 3), (53, .iload 5, 2), (55, .ireturn, 1)]
set_option maxRecDepth 20000 in
theorem oX9_imageOf : CtOk mX9_imageOf.2.1 tX9_imageOf := by unfold CtOk; decide +kernel
set_option maxRecDepth 20000 in
theorem kX9_imageOf : MK mX9_imageOf := ⟨tj7 126 (by rfl) rfl, tj1 10 (by rfl) rfl, by decide +kernel, by decide +kernel, by decide +kernel⟩
theorem vX9_imageOf : MKv mX9_imageOf 9 := ⟨tj7 125 (by rfl) rfl, tb0 41 (by rfl) rfl, _, _, rfl⟩
def mX9_cyclicImage : Mi := (yX9_cyclicImage, cX9_cyclicImage, 7, some .int, 2)
def tX9_cyclicImage : Ct := [(0, .iconst 0, 1), (1, .istore_n 3, 1), (2, .iconst 0, 1), (3, .istore 4, 2), (5, .iload 4, 2), (7, .iload_n 2, 1), (8, .if_icmp .ge 77, 3), (11, .iconst 0, 1), (12, .istore 5, 2), (14, .iconst 0, 1), (15, .istore 6, 2), (17, .iload 6, 2), (19, .aload_n 0, 1), (20, .getfield 13, 3), (23, .if_icmp .ge 41, 3), (26, .aload_n 0, 1), (27, .getfield 7, 3), (30, .iload 5, 2), (32, .imul, 1), (33, .iload_n 1, 1), (34, .aload_n 0, 1), (35, .iload_n 2, 1), (36, .iconst 1, 1), (37, .isub, 1), (38, .iload 4, 2), (40, .iload 6, 2), (42, .iadd, 1), (43, .iload_n 2, 1), (44, .irem, 1), (45, .isub, 1), (46, .invokevirtual 99, 3), (49, .idiv, 1), (50, .aload_n 0, 1), (51, .getfield 7, 3), (54, .irem, 1), (55, .iadd, 1), (56, .istore 5, 2), (58, .iinc 6 1, 3), (61, .goto (-44), 3), (64, .aload_n 0, 1), (65, .getfield 7, 3), (68, .iload_n 3, 1), (69, .imul, 1), (70, .aload_n 0, 1), (71, .getfield 16, 3), (74, .iload 5, 2), (76, .iaload, 1), (77, .iadd, 1), (78, .istore_n 3, 1), (79, .iinc 4 1, 3), (82, .goto (-77), 3), (85, .iload_n 3, 1), (86, .ireturn, 1)]
set_option maxRecDepth 20000 in
theorem oX9_cyclicImage : CtOk mX9_cyclicImage.2.1 tX9_cyclicImage := by unfold CtOk; decide +kernel
set_option maxRecDepth 20000 in
theorem kX9_cyclicImage : MK mX9_cyclicImage := ⟨tj7 220 (by rfl) rfl, tj1 10 (by rfl) rfl, by decide +kernel, by decide +kernel, by decide +kernel⟩
theorem vX9_cyclicImage : MKv mX9_cyclicImage 9 := ⟨tj7 219 (by rfl) rfl, tb0 55 (by rfl) rfl, _, _, rfl⟩
def mX9_append : Mi := (yX9_append, cX9_append, 5, some .int, 1)
def tX9_append : Ct := [(0, .aload_n 0, 1), (1, .iconst 0, 1), (2, .putfield 96, 3), (5, .iconst 0, 1), (6, .istore_n 2, 1), (7, .bipush 24, 2), (9, .istore_n 3, 1), (10, .iload_n 3, 1), (11, .ifCond .lt 54, 3), (14, .iload_n 1, 1), (15, .iload_n 3, 1), (16, .ishr, 1), (17, .sipush 255, 3), (20, .iand, 1), (21, .istore 4, 2), (23, .iload 4, 2), (25, .ifCond .eq 21, 3), (28, .iload 4, 2), (30, .bipush 33, 2), (32, .bipush 126, 2), (34, .invokestatic 103, 3), (37, .ifCond .ne 9, 3), (40, .aload_n 0, 1), (41, .iconst 1, 1), (42, .invokevirtual 111, 3), (45, .ireturn, 1), (46, .iload_n 2, 1), (47, .iload 4, 2), (49, .ifCond .ne 7, 3), (52, .iconst 0, 1), (53, .goto 4, 3), (56, .iconst 1, 1), (57, .iadd, 1), (58, .istore_n 2, 1), (59, .iinc 3 (-8), 3), (62, .goto (-52), 3), (65, .aload_n 0, 1), (66, .getfield 149, 3), (69, .iload_n 2, 1), (70, .iadd, 1), (71, .bipush 40, 2), (73, .if_icmp .le 9, 3), (76, .aload_n 0, 1), (77, .iconst 2, 1), (78, .invokevirtual 111, 3), (81, .ireturn, 1), (82, .bipush 24, 2), (84, .istore_n 3, 1), (85, .iload_n 3, 1), (86, .ifCond .lt 47, 3), (89, .iload_n 1, 1), (90, .iload_n 3, 1), (91, .ishr, 1), (92, .sipush 255, 3), (95, .iand, 1), (96, .istore 4, 2), (98, .iload 4, 2), (100, .ifCond .ne 6, 3), (103, .goto 24, 3), (106, .aload_n 0, 1), (107, .getfield 35, 3), (110, .aload_n 0, 1), (111, .getfield 149, 3), (114, .iload 4, 2), (116, .iastore, 1), (117, .aload_n 0, 1), (118, .dup, 1), (119, .getfield 149, 3), (122, .iconst 1, 1), (123, .iadd, 1), (124, .putfield 149, 3), (127, .iinc 3 (-8), 3), (130, .goto (-45), 3), (133, .aload_n 0, 1), (134, .getfield 149, 3), (137, .ireturn, 1)]
set_option maxRecDepth 20000 in
theorem oX9_append : CtOk mX9_append.2.1 tX9_append := by unfold CtOk; decide +kernel
set_option maxRecDepth 20000 in
theorem kX9_append : MK mX9_append := ⟨tj7 130 (by rfl) rfl, tj1 10 (by rfl) rfl, by decide +kernel, by decide +kernel, by decide +kernel⟩
theorem vX9_append : MKv mX9_append 9 := ⟨tj7 128 (by rfl) rfl, tj7 129 (by rfl) rfl, _, _, rfl⟩
def mX9_here : Mi := (yX9_here, cX9_here, 1, some .int, 0)
def tX9_here : Ct := [(0, .aload_n 0, 1), (1, .getfield 152, 3), (4, .aload_n 0, 1), (5, .getfield 149, 3), (8, .if_icmp .ge 15, 3), (11, .aload_n 0, 1), (12, .getfield 35, 3), (15, .aload_n 0, 1), (16, .getfield 152, 3), (19, .iaload, 1), (20, .goto 4, 3), (23, .iconst (-1), 1), (24, .ireturn, 1)]
set_option maxRecDepth 20000 in
theorem oX9_here : CtOk mX9_here.2.1 tX9_here := by unfold CtOk; decide +kernel
set_option maxRecDepth 20000 in
theorem kX9_here : MK mX9_here := ⟨tj7 165 (by rfl) rfl, tj1 10 (by rfl) rfl, by decide +kernel, by decide +kernel, by decide +kernel⟩
theorem vX9_here : MKv mX9_here 9 := ⟨tj7 164 (by rfl) rfl, tb0 48 (by rfl) rfl, _, _, rfl⟩
def mX9_rank : Mi := (yX9_rank, cX9_rank, 1, some .int, 1)
def tX9_rank : Ct := [(0, .iload_n 0, 1), (1, .bipush 61, 2), (3, .if_icmp .eq 9, 3), (6, .iload_n 0, 1), (7, .bipush 60, 2), (9, .if_icmp .ne 7, 3), (12, .iconst 1, 1), (13, .goto 52, 3), (16, .iload_n 0, 1), (17, .bipush 43, 2), (19, .if_icmp .eq 9, 3), (22, .iload_n 0, 1), (23, .bipush 45, 2), (25, .if_icmp .ne 7, 3), (28, .iconst 2, 1), (29, .goto 36, 3), (32, .iload_n 0, 1), (33, .bipush 42, 2), (35, .if_icmp .eq 15, 3), (38, .iload_n 0, 1), (39, .bipush 47, 2), (41, .if_icmp .eq 9, 3), (44, .iload_n 0, 1), (45, .bipush 37, 2), (47, .if_icmp .ne 7, 3), (50, .iconst 3, 1), (51, .goto 14, 3), (54, .iload_n 0, 1), (55, .bipush 33, 2), (57, .if_icmp .ne 7, 3), (60, .iconst 4, 1), (61, .goto 4, 3), (64, .iconst 0, 1), (65, .ireturn, 1)]
set_option maxRecDepth 20000 in
theorem oX9_rank : CtOk mX9_rank.2.1 tX9_rank := by unfold CtOk; decide +kernel
set_option maxRecDepth 20000 in
theorem kX9_rank : MK mX9_rank := ⟨tj7 149 (by rfl) rfl, tj1 10 (by rfl) rfl, by decide +kernel, by decide +kernel, by decide +kernel⟩
theorem sX9_rank : Cond.static mX9_rank.1 ∈ TSg := tj7 148 (by rfl) rfl
def mX9_emits : Mi := (yX9_emits, cX9_emits, 2, none, 1)
def tX9_emits : Ct := [(0, .aload_n 0, 1), (1, .getfield 47, 3), (4, .aload_n 0, 1), (5, .getfield 155, 3), (8, .iload_n 1, 1), (9, .iastore, 1), (10, .aload_n 0, 1), (11, .dup, 1), (12, .getfield 155, 3), (15, .iconst 1, 1), (16, .iadd, 1), (17, .putfield 155, 3), (20, .return_, 1)]
set_option maxRecDepth 20000 in
theorem oX9_emits : CtOk mX9_emits.2.1 tX9_emits := by unfold CtOk; decide +kernel
set_option maxRecDepth 20000 in
theorem kX9_emits : MK mX9_emits := ⟨tj7 153 (by rfl) rfl, tj1 10 (by rfl) rfl, by decide +kernel, by decide +kernel, by decide +kernel⟩
theorem vX9_emits : MKv mX9_emits 9 := ⟨tj7 152 (by rfl) rfl, tb0 45 (by rfl) rfl, _, _, rfl⟩
def mX9_top : Mi := (yX9_top, cX9_top, 1, some .int, 0)
def tX9_top : Ct := [(0, .aload_n 0, 1), (1, .getfield 158, 3), (4, .ifCond .ne 7, 3), (7, .iconst 0, 1), (8, .goto 14, 3), (11, .aload_n 0, 1), (12, .getfield 50, 3), (15, .aload_n 0, 1), (16, .getfield 158, 3), (19, .iconst 1, 1), (20, .isub, 1), (21, .iaload, 1), (22, .ireturn, 1)]
set_option maxRecDepth 20000 in
theorem oX9_top : CtOk mX9_top.2.1 tX9_top := by unfold CtOk; decide +kernel
set_option maxRecDepth 20000 in
theorem kX9_top : MK mX9_top := ⟨tj7 146 (by rfl) rfl, tj1 10 (by rfl) rfl, by decide +kernel, by decide +kernel, by decide +kernel⟩
theorem vX9_top : MKv mX9_top 9 := ⟨tj7 145 (by rfl) rfl, tb0 44 (by rfl) rfl, _, _, rfl⟩
def mX9_waitsFor : Mi := (yX9_waitsFor, cX9_waitsFor, 2, none, 1)
def tX9_waitsFor : Ct := [(0, .aload_n 0, 1), (1, .getfield 50, 3), (4, .aload_n 0, 1), (5, .getfield 158, 3), (8, .iload_n 1, 1), (9, .iastore, 1), (10, .aload_n 0, 1), (11, .dup, 1), (12, .getfield 158, 3), (15, .iconst 1, 1), (16, .iadd, 1), (17, .putfield 158, 3), (20, .return_, 1)]
set_option maxRecDepth 20000 in
theorem oX9_waitsFor : CtOk mX9_waitsFor.2.1 tX9_waitsFor := by unfold CtOk; decide +kernel
set_option maxRecDepth 20000 in
theorem kX9_waitsFor : MK mX9_waitsFor := ⟨tj7 169 (by rfl) rfl, tj1 10 (by rfl) rfl, by decide +kernel, by decide +kernel, by decide +kernel⟩
theorem vX9_waitsFor : MKv mX9_waitsFor 9 := ⟨tj7 168 (by rfl) rfl, tb0 49 (by rfl) rfl, _, _, rfl⟩
def mX9_lets : Mi := (yX9_lets, cX9_lets, 2, none, 1)
def tX9_lets : Ct := [(0, .aload_n 0, 1), (1, .getfield 158, 3), (4, .ifCond .le 40, 3), (7, .aload_n 0, 1), (8, .invokevirtual 161, 3), (11, .invokestatic 164, 3), (14, .iload_n 1, 1), (15, .if_icmp .lt 29, 3), (18, .aload_n 0, 1), (19, .dup, 1), (20, .getfield 158, 3), (23, .iconst 1, 1), (24, .isub, 1), (25, .putfield 158, 3), (28, .aload_n 0, 1), (29, .aload_n 0, 1), (30, .getfield 50, 3), (33, .aload_n 0, 1), (34, .getfield 158, 3), (37, .iaload, 1), (38, .invokevirtual 167, 3), (41, .goto (-41), 3), (44, .return_, 1)]
set_option maxRecDepth 20000 in
theorem oX9_lets : CtOk mX9_lets.2.1 tX9_lets := by unfold CtOk; decide +kernel
set_option maxRecDepth 20000 in
theorem kX9_lets : MK mX9_lets := ⟨tj7 142 (by rfl) rfl, tj1 10 (by rfl) rfl, by decide +kernel, by decide +kernel, by decide +kernel⟩
theorem vX9_lets : MKv mX9_lets 9 := ⟨tj7 141 (by rfl) rfl, tb0 43 (by rfl) rfl, _, _, rfl⟩
def mX9_fails : Mi := (yX9_fails, cX9_fails, 2, some .boolean, 1)
def tX9_fails : Ct := [(0, .aload_n 0, 1), (1, .iload_n 1, 1), (2, .putfield 171, 3), (5, .aload_n 0, 1), (6, .aload_n 0, 1), (7, .getfield 152, 3), (10, .putfield 38, 3), (13, .iconst 0, 1), (14, .ireturn, 1)]
set_option maxRecDepth 20000 in
theorem oX9_fails : CtOk mX9_fails.2.1 tX9_fails := by unfold CtOk; decide +kernel
set_option maxRecDepth 20000 in
theorem kX9_fails : MK mX9_fails := ⟨tj7 157 (by rfl) rfl, tj1 10 (by rfl) rfl, by decide +kernel, by decide +kernel, by decide +kernel⟩
theorem vX9_fails : MKv mX9_fails 9 := ⟨tj7 156 (by rfl) rfl, tb0 46 (by rfl) rfl, _, _, rfl⟩
def mX9_isWrong : Mi := (yX9_isWrong, cX9_isWrong, 1, some .boolean, 0)
def tX9_isWrong : Ct := [(0, .aload_n 0, 1), (1, .aload_n 0, 1), (2, .getfield 152, 3), (5, .aload_n 0, 1), (6, .getfield 149, 3), (9, .if_icmp .ne 7, 3), (12, .iconst 2, 1), (13, .goto 4, 3), (16, .iconst 1, 1), (17, .invokevirtual 174, 3), (20, .ireturn, 1)]
set_option maxRecDepth 20000 in
theorem oX9_isWrong : CtOk mX9_isWrong.2.1 tX9_isWrong := by unfold CtOk; decide +kernel
set_option maxRecDepth 20000 in
theorem kX9_isWrong : MK mX9_isWrong := ⟨tj7 173 (by rfl) rfl, tj1 10 (by rfl) rfl, by decide +kernel, by decide +kernel, by decide +kernel⟩
theorem vX9_isWrong : MKv mX9_isWrong 9 := ⟨tj7 172 (by rfl) rfl, tb0 50 (by rfl) rfl, _, _, rfl⟩
def mX9_isBegun : Mi := (yX9_isBegun, cX9_isBegun, 3, some .boolean, 0)
def tX9_isBegun : Ct := [(0, .aload_n 0, 1), (1, .invokevirtual 178, 3), (4, .istore_n 1, 1), (5, .aload_n 0, 1), (6, .iconst 1, 1), (7, .putfield 181, 3), (10, .iload_n 1, 1), (11, .bipush 48, 2), (13, .bipush 57, 2), (15, .invokestatic 103, 3), (18, .ifCond .ne 14, 3), (21, .iload_n 1, 1), (22, .bipush 97, 2), (24, .bipush 100, 2), (26, .invokestatic 103, 3), (29, .ifCond .eq 72, 3), (32, .iload_n 1, 1), (33, .bipush 57, 2), (35, .if_icmp .le 20, 3), (38, .iload_n 1, 1), (39, .bipush 97, 2), (41, .isub, 1), (42, .aload_n 0, 1), (43, .getfield 13, 3), (46, .if_icmp .lt 9, 3), (49, .aload_n 0, 1), (50, .iconst 3, 1), (51, .invokevirtual 174, 3), (54, .ireturn, 1), (55, .aload_n 0, 1), (56, .iload_n 1, 1), (57, .bipush 57, 2), (59, .if_icmp .gt 10, 3), (62, .iload_n 1, 1), (63, .bipush 48, 2), (65, .isub, 1), (66, .goto 10, 3), (69, .bipush 10, 2), (71, .iload_n 1, 1), (72, .iadd, 1), (73, .bipush 97, 2), (75, .isub, 1), (76, .invokevirtual 167, 3), (79, .aload_n 0, 1), (80, .dup, 1), (81, .getfield 152, 3), (84, .iconst 1, 1), (85, .iadd, 1), (86, .putfield 152, 3), (89, .aload_n 0, 1), (90, .iconst 4, 1), (91, .invokevirtual 185, 3), (94, .aload_n 0, 1), (95, .iconst 0, 1), (96, .putfield 181, 3), (99, .iconst 1, 1), (100, .ireturn, 1), (101, .iload_n 1, 1), (102, .bipush 33, 2), (104, .if_icmp .eq 9, 3), (107, .iload_n 1, 1), (108, .bipush 40, 2), (110, .if_icmp .ne 20, 3), (113, .aload_n 0, 1), (114, .iload_n 1, 1), (115, .invokevirtual 188, 3), (118, .aload_n 0, 1), (119, .dup, 1), (120, .getfield 152, 3), (123, .iconst 1, 1), (124, .iadd, 1), (125, .putfield 152, 3), (128, .iconst 1, 1), (129, .ireturn, 1), (130, .iload_n 1, 1), (131, .bipush 109, 2), (133, .if_icmp .eq 8, 3), (136, .aload_n 0, 1), (137, .invokevirtual 191, 3), (140, .ireturn, 1), (141, .aload_n 0, 1), (142, .dup, 1), (143, .getfield 152, 3), (146, .iconst 1, 1), (147, .iadd, 1), (148, .putfield 152, 3), (151, .aload_n 0, 1), (152, .invokevirtual 178, 3), (155, .istore_n 2, 1), (156, .iload_n 2, 1), (157, .bipush 105, 2), (159, .if_icmp .eq 14, 3), (162, .iload_n 2, 1), (163, .bipush 97, 2), (165, .if_icmp .eq 8, 3), (168, .aload_n 0, 1), (169, .invokevirtual 191, 3), (172, .ireturn, 1), (173, .aload_n 0, 1), (174, .dup, 1), (175, .getfield 152, 3), (178, .iconst 1, 1), (179, .iadd, 1), (180, .putfield 152, 3), (183, .aload_n 0, 1), (184, .invokevirtual 178, 3), (187, .iload_n 2, 1), (188, .bipush 105, 2), (190, .if_icmp .ne 8, 3), (193, .bipush 110, 2), (195, .goto 5, 3), (198, .bipush 120, 2), (200, .if_icmp .eq 8, 3), (203, .aload_n 0, 1), (204, .invokevirtual 191, 3), (207, .ireturn, 1), (208, .aload_n 0, 1), (209, .dup, 1), (210, .getfield 152, 3), (213, .iconst 1, 1), (214, .iadd, 1), (215, .putfield 152, 3), (218, .aload_n 0, 1), (219, .invokevirtual 178, 3), (222, .bipush 40, 2), (224, .if_icmp .eq 8, 3), (227, .aload_n 0, 1), (228, .invokevirtual 191, 3), (231, .ireturn, 1), (232, .aload_n 0, 1), (233, .dup, 1), (234, .getfield 152, 3), (237, .iconst 1, 1), (238, .iadd, 1), (239, .putfield 152, 3), (242, .aload_n 0, 1), (243, .iload_n 2, 1), (244, .invokevirtual 188, 3), (247, .iconst 1, 1), (248, .ireturn, 1)]
set_option maxRecDepth 20000 in
theorem oX9_isBegun : CtOk mX9_isBegun.2.1 tX9_isBegun := by unfold CtOk; decide +kernel
set_option maxRecDepth 20000 in
theorem kX9_isBegun : MK mX9_isBegun := ⟨tj7 161 (by rfl) rfl, tj1 10 (by rfl) rfl, by decide +kernel, by decide +kernel, by decide +kernel⟩
theorem vX9_isBegun : MKv mX9_isBegun 9 := ⟨tj7 160 (by rfl) rfl, tb0 47 (by rfl) rfl, _, _, rfl⟩
def mX9_isGone : Mi := (yX9_isGone, cX9_isGone, 6, some .boolean, 0)
def tX9_isGone : Ct := [(0, .aload_n 0, 1), (1, .invokevirtual 178, 3), (4, .istore_n 1, 1), (5, .iload_n 1, 1), (6, .invokestatic 164, 3), (9, .istore_n 2, 1), (10, .iload_n 2, 1), (11, .ifCond .le 65, 3), (14, .iload_n 2, 1), (15, .iconst 4, 1), (16, .if_icmp .ge 60, 3), (19, .aload_n 0, 1), (20, .iload_n 2, 1), (21, .iconst 1, 1), (22, .if_icmp .ne 7, 3), (25, .iconst 2, 1), (26, .goto 4, 3), (29, .iload_n 2, 1), (30, .invokevirtual 185, 3), (33, .iload_n 2, 1), (34, .iconst 1, 1), (35, .if_icmp .ne 19, 3), (38, .aload_n 0, 1), (39, .invokevirtual 161, 3), (42, .invokestatic 164, 3), (45, .iconst 1, 1), (46, .if_icmp .ne 8, 3), (49, .aload_n 0, 1), (50, .invokevirtual 191, 3), (53, .ireturn, 1), (54, .aload_n 0, 1), (55, .iload_n 1, 1), (56, .invokevirtual 188, 3), (59, .aload_n 0, 1), (60, .iconst 1, 1), (61, .putfield 181, 3), (64, .aload_n 0, 1), (65, .dup, 1), (66, .getfield 152, 3), (69, .iconst 1, 1), (70, .iadd, 1), (71, .putfield 152, 3), (74, .iconst 1, 1), (75, .ireturn, 1), (76, .iload_n 1, 1), (77, .bipush 44, 2), (79, .if_icmp .eq 14, 3), (82, .iload_n 1, 1), (83, .bipush 41, 2), (85, .if_icmp .eq 8, 3), (88, .aload_n 0, 1), (89, .invokevirtual 191, 3), (92, .ireturn, 1), (93, .aload_n 0, 1), (94, .iconst 1, 1), (95, .invokevirtual 185, 3), (98, .aload_n 0, 1), (99, .invokevirtual 161, 3), (102, .istore_n 3, 1), (103, .iload_n 3, 1), (104, .bipush 105, 2), (106, .if_icmp .eq 9, 3), (109, .iload_n 3, 1), (110, .bipush 97, 2), (112, .if_icmp .ne 7, 3), (115, .iconst 1, 1), (116, .goto 4, 3), (119, .iconst 0, 1), (120, .istore 4, 2), (122, .iload_n 3, 1), (123, .bipush 73, 2), (125, .if_icmp .eq 9, 3), (128, .iload_n 3, 1), (129, .bipush 65, 2), (131, .if_icmp .ne 7, 3), (134, .iconst 1, 1), (135, .goto 4, 3), (138, .iconst 0, 1), (139, .istore 5, 2), (141, .iload_n 1, 1), (142, .bipush 44, 2), (144, .if_icmp .ne 11, 3), (147, .iload 4, 2), (149, .ifCond .ne 22, 3), (152, .goto 14, 3), (155, .iload 5, 2), (157, .ifCond .ne 14, 3), (160, .iload_n 3, 1), (161, .bipush 40, 2), (163, .if_icmp .eq 8, 3), (166, .aload_n 0, 1), (167, .invokevirtual 191, 3), (170, .ireturn, 1), (171, .aload_n 0, 1), (172, .dup, 1), (173, .getfield 152, 3), (176, .iconst 1, 1), (177, .iadd, 1), (178, .putfield 152, 3), (181, .iload_n 1, 1), (182, .bipush 44, 2), (184, .if_icmp .ne 28, 3), (187, .aload_n 0, 1), (188, .getfield 50, 3), (191, .aload_n 0, 1), (192, .getfield 158, 3), (195, .iconst 1, 1), (196, .isub, 1), (197, .iload_n 3, 1), (198, .bipush 97, 2), (200, .isub, 1), (201, .bipush 65, 2), (203, .iadd, 1), (204, .iastore, 1), (205, .aload_n 0, 1), (206, .iconst 1, 1), (207, .putfield 181, 3), (210, .iconst 1, 1), (211, .ireturn, 1), (212, .aload_n 0, 1), (213, .dup, 1), (214, .getfield 158, 3), (217, .iconst 1, 1), (218, .isub, 1), (219, .putfield 158, 3), (222, .iload 5, 2), (224, .ifCond .eq 8, 3), (227, .aload_n 0, 1), (228, .iload_n 3, 1), (229, .invokevirtual 167, 3), (232, .aload_n 0, 1), (233, .iconst 4, 1), (234, .invokevirtual 185, 3), (237, .iconst 1, 1), (238, .ireturn, 1)]
set_option maxRecDepth 20000 in
theorem oX9_isGone : CtOk mX9_isGone.2.1 tX9_isGone := by unfold CtOk; decide +kernel
set_option maxRecDepth 20000 in
theorem kX9_isGone : MK mX9_isGone := ⟨tj7 177 (by rfl) rfl, tj1 10 (by rfl) rfl, by decide +kernel, by decide +kernel, by decide +kernel⟩
theorem vX9_isGone : MKv mX9_isGone 9 := ⟨tj7 176 (by rfl) rfl, tb0 51 (by rfl) rfl, _, _, rfl⟩
def mX9_isFormula : Mi := (yX9_isFormula, cX9_isFormula, 1, some .boolean, 0)
def tX9_isFormula : Ct := [(0, .aload_n 0, 1), (1, .iconst 0, 1), (2, .putfield 152, 3), (5, .aload_n 0, 1), (6, .iconst 0, 1), (7, .putfield 155, 3), (10, .aload_n 0, 1), (11, .iconst 0, 1), (12, .putfield 158, 3), (15, .aload_n 0, 1), (16, .iconst 1, 1), (17, .putfield 181, 3), (20, .aload_n 0, 1), (21, .getfield 181, 3), (24, .ifCond .ne 21, 3), (27, .aload_n 0, 1), (28, .getfield 152, 3), (31, .aload_n 0, 1), (32, .getfield 149, 3), (35, .if_icmp .lt 10, 3), (38, .aload_n 0, 1), (39, .getfield 158, 3), (42, .ifCond .le 67, 3), (45, .aload_n 0, 1), (46, .getfield 181, 3), (49, .ifCond .ne 34, 3), (52, .aload_n 0, 1), (53, .getfield 152, 3), (56, .aload_n 0, 1), (57, .getfield 149, 3), (60, .if_icmp .ne 23, 3), (63, .aload_n 0, 1), (64, .iconst 1, 1), (65, .invokevirtual 185, 3), (68, .aload_n 0, 1), (69, .getfield 158, 3), (72, .ifCond .le 9, 3), (75, .aload_n 0, 1), (76, .iconst 2, 1), (77, .invokevirtual 174, 3), (80, .ireturn, 1), (81, .iconst 1, 1), (82, .ireturn, 1), (83, .aload_n 0, 1), (84, .getfield 181, 3), (87, .ifCond .eq 13, 3), (90, .aload_n 0, 1), (91, .invokevirtual 195, 3), (94, .ifCond .ne (-74), 3), (97, .goto 10, 3), (100, .aload_n 0, 1), (101, .invokevirtual 198, 3), (104, .ifCond .ne (-84), 3), (107, .iconst 0, 1), (108, .ireturn, 1), (109, .iconst 1, 1), (110, .ireturn, 1)]
set_option maxRecDepth 20000 in
theorem oX9_isFormula : CtOk mX9_isFormula.2.1 tX9_isFormula := by unfold CtOk; decide +kernel
set_option maxRecDepth 20000 in
theorem kX9_isFormula : MK mX9_isFormula := ⟨tj7 138 (by rfl) rfl, tj1 10 (by rfl) rfl, by decide +kernel, by decide +kernel, by decide +kernel⟩
theorem vX9_isFormula : MKv mX9_isFormula 9 := ⟨tj7 137 (by rfl) rfl, tb0 42 (by rfl) rfl, _, _, rfl⟩
def mX9_value : Mi := (yX9_value, cX9_value, 7, some .int, 1)
def tX9_value : Ct := [(0, .iconst 0, 1), (1, .istore_n 2, 1), (2, .aload_n 0, 1), (3, .iconst 0, 1), (4, .putfield 201, 3), (7, .iconst 0, 1), (8, .istore_n 3, 1), (9, .iload_n 3, 1), (10, .aload_n 0, 1), (11, .getfield 155, 3), (14, .if_icmp .ge 328, 3), (17, .aload_n 0, 1), (18, .getfield 47, 3), (21, .iload_n 3, 1), (22, .iaload, 1), (23, .istore 4, 2), (25, .iload 4, 2), (27, .bipush 14, 2), (29, .if_icmp .ge 50, 3), (32, .aload_n 0, 1), (33, .getfield 53, 3), (36, .iload_n 2, 1), (37, .iload 4, 2), (39, .bipush 10, 2), (41, .if_icmp .ge 8, 3), (44, .iload 4, 2), (46, .goto 26, 3), (49, .iload_n 1, 1), (50, .aload_n 0, 1), (51, .aload_n 0, 1), (52, .getfield 13, 3), (55, .iconst 1, 1), (56, .isub, 1), (57, .iload 4, 2), (59, .bipush 10, 2), (61, .isub, 1), (62, .isub, 1), (63, .invokevirtual 99, 3), (66, .idiv, 1), (67, .aload_n 0, 1), (68, .getfield 7, 3), (71, .irem, 1), (72, .iastore, 1), (73, .iinc 2 1, 3), (76, .goto 260, 3), (79, .iload 4, 2), (81, .bipush 33, 2), (83, .if_icmp .ne 30, 3), (86, .aload_n 0, 1), (87, .getfield 53, 3), (90, .iload_n 2, 1), (91, .iconst 1, 1), (92, .isub, 1), (93, .aload_n 0, 1), (94, .getfield 53, 3), (97, .iload_n 2, 1), (98, .iconst 1, 1), (99, .isub, 1), (100, .iaload, 1), (101, .ifCond .ne 7, 3), (104, .iconst 1, 1), (105, .goto 4, 3), (108, .iconst 0, 1), (109, .iastore, 1), (110, .goto 226, 3), (113, .iinc 2 (-1), 3), (116, .aload_n 0, 1), (117, .getfield 53, 3), (120, .iload_n 2, 1), (121, .iconst 1, 1), (122, .isub, 1), (123, .iaload, 1), (124, .istore 5, 2), (126, .aload_n 0, 1), (127, .getfield 53, 3), (130, .iload_n 2, 1), (131, .iaload, 1), (132, .istore 6, 2), (134, .iload 6, 2), (136, .ifCond .ne 35, 3), (139, .iload 4, 2), (141, .bipush 47, 2), (143, .if_icmp .eq 10, 3), (146, .iload 4, 2), (148, .bipush 37, 2), (150, .if_icmp .ne 21, 3), (153, .aload_n 0, 1), (154, .iload 4, 2), (156, .bipush 47, 2), (158, .if_icmp .ne 7, 3), (161, .iconst 4, 1), (162, .goto 4, 3), (165, .iconst 5, 1), (166, .putfield 201, 3), (169, .iconst 0, 1), (170, .ireturn, 1), (171, .aload_n 0, 1), (172, .getfield 53, 3), (175, .iload_n 2, 1), (176, .iconst 1, 1), (177, .isub, 1), (178, .iload 4, 2), (180, .bipush 43, 2), (182, .if_icmp .ne 11, 3), (185, .iload 5, 2), (187, .iload 6, 2), (189, .iadd, 1), (190, .goto 145, 3), (193, .iload 4, 2), (195, .bipush 45, 2), (197, .if_icmp .ne 11, 3), (200, .iload 5, 2), (202, .iload 6, 2), (204, .isub, 1), (205, .goto 130, 3), (208, .iload 4, 2), (210, .bipush 42, 2), (212, .if_icmp .ne 11, 3), (215, .iload 5, 2), (217, .iload 6, 2), (219, .imul, 1), (220, .goto 115, 3), (223, .iload 4, 2), (225, .bipush 47, 2), (227, .if_icmp .ne 11, 3), (230, .iload 5, 2), (232, .iload 6, 2), (234, .idiv, 1), (235, .goto 100, 3), (238, .iload 4, 2), (240, .bipush 37, 2), (242, .if_icmp .ne 11, 3), (245, .iload 5, 2), (247, .iload 6, 2), (249, .irem, 1), (250, .goto 85, 3), (253, .iload 4, 2), (255, .bipush 61, 2), (257, .if_icmp .ne 18, 3), (260, .iload 5, 2), (262, .iload 6, 2), (264, .if_icmp .ne 7, 3), (267, .iconst 1, 1), (268, .goto 67, 3), (271, .iconst 0, 1), (272, .goto 63, 3), (275, .iload 4, 2), (277, .bipush 60, 2), (279, .if_icmp .ne 18, 3), (282, .iload 5, 2), (284, .iload 6, 2), (286, .if_icmp .ge 7, 3), (289, .iconst 1, 1), (290, .goto 45, 3), (293, .iconst 0, 1), (294, .goto 41, 3), (297, .iload 4, 2), (299, .bipush 73, 2), (301, .if_icmp .ne 20, 3), (304, .iload 5, 2), (306, .iload 6, 2), (308, .if_icmp .ge 8, 3), (311, .iload 5, 2), (313, .goto 22, 3), (316, .iload 6, 2), (318, .goto 17, 3), (321, .iload 5, 2), (323, .iload 6, 2), (325, .if_icmp .le 8, 3), (328, .iload 5, 2), (330, .goto 5, 3), (333, .iload 6, 2), (335, .iastore, 1), (336, .iinc 3 1, 3), (339, .goto (-330), 3), (342, .aload_n 0, 1), (343, .getfield 53, 3), (346, .iconst 0, 1), (347, .iaload, 1), (348, .aload_n 0, 1), (349, .getfield 7, 3), (352, .irem, 1), (353, .istore_n 3, 1), (354, .iload_n 3, 1), (355, .ifCond .ge 12, 3), (358, .iload_n 3, 1), (359, .aload_n 0, 1), (360, .getfield 7, 3), (363, .iadd, 1), (364, .goto 4, 3), (367, .iload_n 3, 1), (368, .ireturn, 1)]
set_option maxRecDepth 20000 in
theorem oX9_value : CtOk mX9_value.2.1 tX9_value := by unfold CtOk; decide +kernel
set_option maxRecDepth 20000 in
theorem kX9_value : MK mX9_value := ⟨tj7 181 (by rfl) rfl, tj1 10 (by rfl) rfl, by decide +kernel, by decide +kernel, by decide +kernel⟩
theorem vX9_value : MKv mX9_value 9 := ⟨tj7 180 (by rfl) rfl, tb0 52 (by rfl) rfl, _, _, rfl⟩
def mX9_compile : Mi := (yX9_compile, cX9_compile, 3, some .int, 0)
def tX9_compile : Ct := [(0, .aload_n 0, 1), (1, .iconst 0, 1), (2, .putfield 96, 3), (5, .aload_n 0, 1), (6, .iconst 0, 1), (7, .putfield 171, 3), (10, .aload_n 0, 1), (11, .iconst (-1), 1), (12, .putfield 38, 3), (15, .aload_n 0, 1), (16, .invokevirtual 204, 3), (19, .istore_n 1, 1), (20, .aload_n 0, 1), (21, .iconst 0, 1), (22, .putfield 149, 3), (25, .iload_n 1, 1), (26, .ifCond .ne 9, 3), (29, .aload_n 0, 1), (30, .iconst 1, 1), (31, .invokevirtual 111, 3), (34, .ireturn, 1), (35, .iconst 0, 1), (36, .istore_n 2, 1), (37, .iload_n 2, 1), (38, .aload_n 0, 1), (39, .invokevirtual 114, 3), (42, .if_icmp .ge 49, 3), (45, .aload_n 0, 1), (46, .getfield 41, 3), (49, .iload_n 2, 1), (50, .aload_n 0, 1), (51, .iload_n 2, 1), (52, .invokevirtual 207, 3), (55, .iastore, 1), (56, .aload_n 0, 1), (57, .getfield 201, 3), (60, .ifCond .ne 6, 3), (63, .goto 22, 3), (66, .aload_n 0, 1), (67, .aload_n 0, 1), (68, .getfield 201, 3), (71, .putfield 171, 3), (74, .aload_n 0, 1), (75, .iload_n 2, 1), (76, .putfield 38, 3), (79, .aload_n 0, 1), (80, .iconst 2, 1), (81, .invokevirtual 111, 3), (84, .ireturn, 1), (85, .iinc 2 1, 3), (88, .goto (-51), 3), (91, .aload_n 0, 1), (92, .invokevirtual 121, 3), (95, .ireturn, 1)]
set_option maxRecDepth 20000 in
theorem oX9_compile : CtOk mX9_compile.2.1 tX9_compile := by unfold CtOk; decide +kernel
set_option maxRecDepth 20000 in
theorem kX9_compile : MK mX9_compile := ⟨tj7 134 (by rfl) rfl, tj1 10 (by rfl) rfl, by decide +kernel, by decide +kernel, by decide +kernel⟩
theorem vX9_compile : MKv mX9_compile 9 := ⟨tj7 132 (by rfl) rfl, tj7 133 (by rfl) rfl, _, _, rfl⟩
def mX9_error : Mi := (yX9_error, cX9_error, 2, some .int, 1)
def tX9_error : Ct := [(0, .aload_n 0, 1), (1, .iconst 0, 1), (2, .putfield 96, 3), (5, .iload_n 1, 1), (6, .iconst 0, 1), (7, .iconst 1, 1), (8, .invokestatic 103, 3), (11, .ifCond .ne 11, 3), (14, .aload_n 0, 1), (15, .iconst 1, 1), (16, .invokevirtual 111, 3), (19, .goto 18, 3), (22, .iload_n 1, 1), (23, .ifCond .ne 10, 3), (26, .aload_n 0, 1), (27, .getfield 171, 3), (30, .goto 7, 3), (33, .aload_n 0, 1), (34, .getfield 38, 3), (37, .ireturn, 1)]
set_option maxRecDepth 20000 in
theorem oX9_error : CtOk mX9_error.2.1 tX9_error := by unfold CtOk; decide +kernel
set_option maxRecDepth 20000 in
theorem kX9_error : MK mX9_error := ⟨tj7 185 (by rfl) rfl, tj1 10 (by rfl) rfl, by decide +kernel, by decide +kernel, by decide +kernel⟩
theorem vX9_error : MKv mX9_error 9 := ⟨tj7 183 (by rfl) rfl, tj7 184 (by rfl) rfl, _, _, rfl⟩
def mX9_isRegister : Mi := (yX9_isRegister, cX9_isRegister, 1, some .boolean, 1)
def tX9_isRegister : Ct := [(0, .iload_n 0, 1), (1, .iconst 0, 1), (2, .iconst 3, 1), (3, .invokestatic 103, 3), (6, .ireturn, 1)]
set_option maxRecDepth 20000 in
theorem oX9_isRegister : CtOk mX9_isRegister.2.1 tX9_isRegister := by unfold CtOk; decide +kernel
set_option maxRecDepth 20000 in
theorem kX9_isRegister : MK mX9_isRegister := ⟨tj7 196 (by rfl) rfl, tj1 10 (by rfl) rfl, by decide +kernel, by decide +kernel, by decide +kernel⟩
theorem sX9_isRegister : Cond.static mX9_isRegister.1 ∈ TSg := tj7 195 (by rfl) rfl
def mX9_isOne : Mi := (yX9_isOne, cX9_isOne, 2, some .boolean, 1)
def tX9_isOne : Ct := [(0, .aload_n 0, 1), (1, .iload_n 1, 1), (2, .invokestatic 210, 3), (5, .ifCond .eq 7, 3), (8, .iconst 0, 1), (9, .goto 4, 3), (12, .iconst 1, 1), (13, .putfield 96, 3), (16, .aload_n 0, 1), (17, .getfield 96, 3), (20, .ifCond .ne 7, 3), (23, .iconst 1, 1), (24, .goto 4, 3), (27, .iconst 0, 1), (28, .ireturn, 1)]
set_option maxRecDepth 20000 in
theorem oX9_isOne : CtOk mX9_isOne.2.1 tX9_isOne := by unfold CtOk; decide +kernel
set_option maxRecDepth 20000 in
theorem kX9_isOne : MK mX9_isOne := ⟨tj7 193 (by rfl) rfl, tj1 10 (by rfl) rfl, by decide +kernel, by decide +kernel, by decide +kernel⟩
theorem vX9_isOne : MKv mX9_isOne 9 := ⟨tj7 192 (by rfl) rfl, tb0 53 (by rfl) rfl, _, _, rfl⟩
def mX9_setWord : Mi := (yX9_setWord, cX9_setWord, 5, some .int, 3)
def tX9_setWord : Ct := [(0, .aload_n 0, 1), (1, .iload_n 1, 1), (2, .invokevirtual 213, 3), (5, .ifCond .ne 5, 3), (8, .iconst 0, 1), (9, .ireturn, 1), (10, .iload_n 2, 1), (11, .iconst 0, 1), (12, .bipush 14, 2), (14, .invokestatic 103, 3), (17, .ifCond .eq 18, 3), (20, .iload_n 3, 1), (21, .iconst 0, 1), (22, .aload_n 0, 1), (23, .iload_n 2, 1), (24, .invokevirtual 99, 3), (27, .iconst 1, 1), (28, .isub, 1), (29, .invokestatic 103, 3), (32, .ifCond .ne 9, 3), (35, .aload_n 0, 1), (36, .iconst 2, 1), (37, .invokevirtual 111, 3), (40, .ireturn, 1), (41, .aload_n 0, 1), (42, .getfield 20, 3), (45, .iload_n 1, 1), (46, .iaload, 1), (47, .istore 4, 2), (49, .aload_n 0, 1), (50, .getfield 20, 3), (53, .iload_n 1, 1), (54, .iload_n 2, 1), (55, .iastore, 1), (56, .aload_n 0, 1), (57, .getfield 23, 3), (60, .iload_n 1, 1), (61, .iload_n 3, 1), (62, .iastore, 1), (63, .iload 4, 2), (65, .ireturn, 1)]
set_option maxRecDepth 20000 in
theorem oX9_setWord : CtOk mX9_setWord.2.1 tX9_setWord := by unfold CtOk; decide +kernel
set_option maxRecDepth 20000 in
theorem kX9_setWord : MK mX9_setWord := ⟨tj7 189 (by rfl) rfl, tj1 10 (by rfl) rfl, by decide +kernel, by decide +kernel, by decide +kernel⟩
theorem vX9_setWord : MKv mX9_setWord 9 := ⟨tj7 187 (by rfl) rfl, tj7 188 (by rfl) rfl, _, _, rfl⟩
def mX9_wordLength : Mi := (yX9_wordLength, cX9_wordLength, 2, some .int, 1)
def tX9_wordLength : Ct := [(0, .aload_n 0, 1), (1, .iload_n 1, 1), (2, .invokevirtual 213, 3), (5, .ifCond .eq 12, 3), (8, .aload_n 0, 1), (9, .getfield 20, 3), (12, .iload_n 1, 1), (13, .iaload, 1), (14, .goto 4, 3), (17, .iconst 0, 1), (18, .ireturn, 1)]
set_option maxRecDepth 20000 in
theorem oX9_wordLength : CtOk mX9_wordLength.2.1 tX9_wordLength := by unfold CtOk; decide +kernel
set_option maxRecDepth 20000 in
theorem kX9_wordLength : MK mX9_wordLength := ⟨tj7 200 (by rfl) rfl, tj1 10 (by rfl) rfl, by decide +kernel, by decide +kernel, by decide +kernel⟩
theorem vX9_wordLength : MKv mX9_wordLength 9 := ⟨tj7 198 (by rfl) rfl, tj7 199 (by rfl) rfl, _, _, rfl⟩
def mX9_wordIndex : Mi := (yX9_wordIndex, cX9_wordIndex, 2, some .int, 1)
def tX9_wordIndex : Ct := [(0, .aload_n 0, 1), (1, .iload_n 1, 1), (2, .invokevirtual 213, 3), (5, .ifCond .eq 12, 3), (8, .aload_n 0, 1), (9, .getfield 23, 3), (12, .iload_n 1, 1), (13, .iaload, 1), (14, .goto 4, 3), (17, .iconst 0, 1), (18, .ireturn, 1)]
set_option maxRecDepth 20000 in
theorem oX9_wordIndex : CtOk mX9_wordIndex.2.1 tX9_wordIndex := by unfold CtOk; decide +kernel
set_option maxRecDepth 20000 in
theorem kX9_wordIndex : MK mX9_wordIndex := ⟨tj7 204 (by rfl) rfl, tj1 10 (by rfl) rfl, by decide +kernel, by decide +kernel, by decide +kernel⟩
theorem vX9_wordIndex : MKv mX9_wordIndex 9 := ⟨tj7 202 (by rfl) rfl, tj7 203 (by rfl) rfl, _, _, rfl⟩
def mX9_cellOf : Mi := (yX9_cellOf, cX9_cellOf, 3, some .int, 2)
def tX9_cellOf : Ct := [(0, .aload_n 0, 1), (1, .getfield 23, 3), (4, .iload_n 1, 1), (5, .iaload, 1), (6, .aload_n 0, 1), (7, .aload_n 0, 1), (8, .getfield 20, 3), (11, .iload_n 1, 1), (12, .iaload, 1), (13, .iconst 1, 1), (14, .isub, 1), (15, .iload_n 2, 1), (16, .isub, 1), (17, .invokevirtual 99, 3), (20, .idiv, 1), (21, .aload_n 0, 1), (22, .getfield 7, 3), (25, .irem, 1), (26, .ireturn, 1)]
set_option maxRecDepth 20000 in
theorem oX9_cellOf : CtOk mX9_cellOf.2.1 tX9_cellOf := by unfold CtOk; decide +kernel
set_option maxRecDepth 20000 in
theorem kX9_cellOf : MK mX9_cellOf := ⟨tj7 212 (by rfl) rfl, tj1 10 (by rfl) rfl, by decide +kernel, by decide +kernel, by decide +kernel⟩
theorem vX9_cellOf : MKv mX9_cellOf 9 := ⟨tj7 211 (by rfl) rfl, tb0 54 (by rfl) rfl, _, _, rfl⟩
def mX9_cell : Mi := (yX9_cell, cX9_cell, 3, some .int, 2)
def tX9_cell : Ct := [(0, .aload_n 0, 1), (1, .iload_n 1, 1), (2, .invokestatic 210, 3), (5, .ifCond .eq 23, 3), (8, .iload_n 2, 1), (9, .iconst 0, 1), (10, .aload_n 0, 1), (11, .getfield 20, 3), (14, .iload_n 1, 1), (15, .iaload, 1), (16, .iconst 1, 1), (17, .isub, 1), (18, .invokestatic 103, 3), (21, .ifCond .eq 7, 3), (24, .iconst 0, 1), (25, .goto 4, 3), (28, .iconst 1, 1), (29, .putfield 96, 3), (32, .aload_n 0, 1), (33, .getfield 96, 3), (36, .ifCond .ne 12, 3), (39, .aload_n 0, 1), (40, .iload_n 1, 1), (41, .iload_n 2, 1), (42, .invokevirtual 216, 3), (45, .goto 4, 3), (48, .iconst 0, 1), (49, .ireturn, 1)]
set_option maxRecDepth 20000 in
theorem oX9_cell : CtOk mX9_cell.2.1 tX9_cell := by unfold CtOk; decide +kernel
set_option maxRecDepth 20000 in
theorem kX9_cell : MK mX9_cell := ⟨tj7 208 (by rfl) rfl, tj1 10 (by rfl) rfl, by decide +kernel, by decide +kernel, by decide +kernel⟩
theorem vX9_cell : MKv mX9_cell 9 := ⟨tj7 206 (by rfl) rfl, tj7 207 (by rfl) rfl, _, _, rfl⟩
def mX9_apply : Mi := (yX9_apply, cX9_apply, 3, some .int, 2)
def tX9_apply : Ct := [(0, .aload_n 0, 1), (1, .iload_n 1, 1), (2, .invokevirtual 213, 3), (5, .ifCond .ne 5, 3), (8, .iconst 0, 1), (9, .ireturn, 1), (10, .aload_n 0, 1), (11, .getfield 20, 3), (14, .iload_n 1, 1), (15, .iaload, 1), (16, .iload_n 2, 1), (17, .ifCond .eq 7, 3), (20, .iconst 1, 1), (21, .goto 7, 3), (24, .aload_n 0, 1), (25, .getfield 13, 3), (28, .if_icmp .ge 9, 3), (31, .aload_n 0, 1), (32, .iconst 2, 1), (33, .invokevirtual 111, 3), (36, .ireturn, 1), (37, .aload_n 0, 1), (38, .getfield 23, 3), (41, .iload_n 1, 1), (42, .iload_n 2, 1), (43, .ifCond .eq 22, 3), (46, .aload_n 0, 1), (47, .aload_n 0, 1), (48, .getfield 23, 3), (51, .iload_n 1, 1), (52, .iaload, 1), (53, .aload_n 0, 1), (54, .getfield 20, 3), (57, .iload_n 1, 1), (58, .iaload, 1), (59, .invokevirtual 219, 3), (62, .goto 27, 3), (65, .aload_n 0, 1), (66, .aload_n 0, 1), (67, .getfield 23, 3), (70, .iload_n 1, 1), (71, .iaload, 1), (72, .aload_n 0, 1), (73, .getfield 20, 3), (76, .iload_n 1, 1), (77, .iaload, 1), (78, .aload_n 0, 1), (79, .getfield 16, 3), (82, .aload_n 0, 1), (83, .getfield 13, 3), (86, .invokevirtual 145, 3), (89, .iastore, 1), (90, .aload_n 0, 1), (91, .getfield 20, 3), (94, .iload_n 1, 1), (95, .dup2, 1), (96, .iaload, 1), (97, .iload_n 2, 1), (98, .ifCond .eq 7, 3), (101, .iconst 0, 1), (102, .goto 9, 3), (105, .aload_n 0, 1), (106, .getfield 13, 3), (109, .iconst 1, 1), (110, .isub, 1), (111, .isub, 1), (112, .iastore, 1), (113, .aload_n 0, 1), (114, .getfield 20, 3), (117, .iload_n 1, 1), (118, .iaload, 1), (119, .ireturn, 1)]
set_option maxRecDepth 20000 in
theorem oX9_apply : CtOk mX9_apply.2.1 tX9_apply := by unfold CtOk; decide +kernel
set_option maxRecDepth 20000 in
theorem kX9_apply : MK mX9_apply := ⟨tj7 216 (by rfl) rfl, tj1 10 (by rfl) rfl, by decide +kernel, by decide +kernel, by decide +kernel⟩
theorem vX9_apply : MKv mX9_apply 9 := ⟨tj7 214 (by rfl) rfl, tj7 215 (by rfl) rfl, _, _, rfl⟩
def mX9_orbit : Mi := (yX9_orbit, cX9_orbit, 5, some .int, 2)
def tX9_orbit : Ct := [(0, .aload_n 0, 1), (1, .iconst 0, 1), (2, .putfield 96, 3), (5, .iload_n 1, 1), (6, .invokestatic 210, 3), (9, .ifCond .eq 12, 3), (12, .iload_n 2, 1), (13, .iconst 0, 1), (14, .iconst 1, 1), (15, .invokestatic 103, 3), (18, .ifCond .ne 9, 3), (21, .aload_n 0, 1), (22, .iconst 1, 1), (23, .invokevirtual 111, 3), (26, .ireturn, 1), (27, .aload_n 0, 1), (28, .getfield 20, 3), (31, .iload_n 1, 1), (32, .iaload, 1), (33, .iconst 1, 1), (34, .bipush 8, 2), (36, .invokestatic 103, 3), (39, .ifCond .ne 9, 3), (42, .aload_n 0, 1), (43, .iconst 2, 1), (44, .invokevirtual 111, 3), (47, .ireturn, 1), (48, .iconst 0, 1), (49, .istore_n 3, 1), (50, .iload_n 3, 1), (51, .sipush 6561, 3), (54, .if_icmp .ge 16, 3), (57, .aload_n 0, 1), (58, .getfield 56, 3), (61, .iload_n 3, 1), (62, .iconst 0, 1), (63, .iastore, 1), (64, .iinc 3 1, 3), (67, .goto (-17), 3), (70, .aload_n 0, 1), (71, .getfield 23, 3), (74, .iload_n 1, 1), (75, .iaload, 1), (76, .istore_n 3, 1), (77, .iconst 1, 1), (78, .istore 4, 2), (80, .aload_n 0, 1), (81, .getfield 56, 3), (84, .iload_n 3, 1), (85, .iaload, 1), (86, .ifCond .ne 29, 3), (89, .aload_n 0, 1), (90, .getfield 56, 3), (93, .iload_n 3, 1), (94, .iload 4, 2), (96, .iastore, 1), (97, .iinc 4 1, 3), (100, .aload_n 0, 1), (101, .iload_n 3, 1), (102, .aload_n 0, 1), (103, .getfield 20, 3), (106, .iload_n 1, 1), (107, .iaload, 1), (108, .invokevirtual 219, 3), (111, .istore_n 3, 1), (112, .goto (-32), 3), (115, .iload_n 2, 1), (116, .ifCond .ne 14, 3), (119, .aload_n 0, 1), (120, .getfield 56, 3), (123, .iload_n 3, 1), (124, .iaload, 1), (125, .iconst 1, 1), (126, .isub, 1), (127, .goto 12, 3), (130, .iload 4, 2), (132, .aload_n 0, 1), (133, .getfield 56, 3), (136, .iload_n 3, 1), (137, .iaload, 1), (138, .isub, 1), (139, .ireturn, 1)]
set_option maxRecDepth 20000 in
theorem oX9_orbit : CtOk mX9_orbit.2.1 tX9_orbit := by unfold CtOk; decide +kernel
set_option maxRecDepth 20000 in
theorem kX9_orbit : MK mX9_orbit := ⟨tj7 224 (by rfl) rfl, tj1 10 (by rfl) rfl, by decide +kernel, by decide +kernel, by decide +kernel⟩
theorem vX9_orbit : MKv mX9_orbit 9 := ⟨tj7 222 (by rfl) rfl, tj7 223 (by rfl) rfl, _, _, rfl⟩
def mX9_goal : Mi := (yX9_goal, cX9_goal, 3, some .int, 2)
def tX9_goal : Ct := [(0, .iload_n 1, 1), (1, .aload_n 0, 1), (2, .aload_n 0, 1), (3, .getfield 13, 3), (6, .iconst 2, 1), (7, .isub, 1), (8, .invokevirtual 99, 3), (11, .irem, 1), (12, .aload_n 0, 1), (13, .getfield 7, 3), (16, .imul, 1), (17, .iload_n 2, 1), (18, .iadd, 1), (19, .ireturn, 1)]
set_option maxRecDepth 20000 in
theorem oX9_goal : CtOk mX9_goal.2.1 tX9_goal := by unfold CtOk; decide +kernel
set_option maxRecDepth 20000 in
theorem kX9_goal : MK mX9_goal := ⟨tj8 4 (by rfl) rfl, tj1 10 (by rfl) rfl, by decide +kernel, by decide +kernel, by decide +kernel⟩
theorem vX9_goal : MKv mX9_goal 9 := ⟨tj8 3 (by rfl) rfl, tb0 59 (by rfl) rfl, _, _, rfl⟩
def mX9_label : Mi := (yX9_label, cX9_label, 3, some .int, 2)
def tX9_label : Ct := [(0, .aload_n 0, 1), (1, .getfield 16, 3), (4, .iload_n 1, 1), (5, .aload_n 0, 1), (6, .getfield 7, 3), (9, .imul, 1), (10, .iload_n 2, 1), (11, .iadd, 1), (12, .iaload, 1), (13, .ireturn, 1)]
set_option maxRecDepth 20000 in
theorem oX9_label : CtOk mX9_label.2.1 tX9_label := by unfold CtOk; decide +kernel
set_option maxRecDepth 20000 in
theorem kX9_label : MK mX9_label := ⟨tj8 0 (by rfl) rfl, tj1 10 (by rfl) rfl, by decide +kernel, by decide +kernel, by decide +kernel⟩
theorem vX9_label : MKv mX9_label 9 := ⟨tj7 239 (by rfl) rfl, tb0 58 (by rfl) rfl, _, _, rfl⟩
def mX9_findsWays : Mi := (yX9_findsWays, cX9_findsWays, 8, none, 2)
def tX9_findsWays : Ct := [(0, .aload_n 0, 1), (1, .invokevirtual 118, 3), (4, .istore_n 3, 1), (5, .iconst 0, 1), (6, .istore 4, 2), (8, .iload 4, 2), (10, .iload_n 3, 1), (11, .if_icmp .ge 41, 3), (14, .aload_n 0, 1), (15, .getfield 59, 3), (18, .bipush 9, 2), (20, .aload_n 0, 1), (21, .getfield 20, 3), (24, .iload_n 1, 1), (25, .iaload, 1), (26, .imul, 1), (27, .iload 4, 2), (29, .iadd, 1), (30, .iload_n 2, 1), (31, .ifCond .lt 9, 3), (34, .iload_n 2, 1), (35, .iload 4, 2), (37, .if_icmp .ne 7, 3), (40, .iconst 1, 1), (41, .goto 4, 3), (44, .iconst 0, 1), (45, .iastore, 1), (46, .iinc 4 1, 3), (49, .goto (-41), 3), (52, .aload_n 0, 1), (53, .getfield 20, 3), (56, .iload_n 1, 1), (57, .iaload, 1), (58, .iconst 1, 1), (59, .isub, 1), (60, .istore 4, 2), (62, .iload 4, 2), (64, .ifCond .lt 108, 3), (67, .iconst 0, 1), (68, .istore 5, 2), (70, .iload 5, 2), (72, .iload_n 3, 1), (73, .if_icmp .ge 93, 3), (76, .iconst 0, 1), (77, .istore 6, 2), (79, .iconst 0, 1), (80, .istore 7, 2), (82, .iload 7, 2), (84, .aload_n 0, 1), (85, .getfield 7, 3), (88, .if_icmp .ge 57, 3), (91, .iload 6, 2), (93, .aload_n 0, 1), (94, .iload 5, 2), (96, .iload 7, 2), (98, .invokevirtual 222, 3), (101, .aload_n 0, 1), (102, .iload_n 1, 1), (103, .iload 4, 2), (105, .invokevirtual 216, 3), (108, .if_icmp .ne 27, 3), (111, .aload_n 0, 1), (112, .getfield 59, 3), (115, .bipush 9, 2), (117, .iload 4, 2), (119, .iconst 1, 1), (120, .iadd, 1), (121, .imul, 1), (122, .aload_n 0, 1), (123, .iload 5, 2), (125, .iload 7, 2), (127, .invokevirtual 225, 3), (130, .iadd, 1), (131, .iaload, 1), (132, .goto 4, 3), (135, .iconst 0, 1), (136, .iadd, 1), (137, .istore 6, 2), (139, .iinc 7 1, 3), (142, .goto (-60), 3), (145, .aload_n 0, 1), (146, .getfield 59, 3), (149, .bipush 9, 2), (151, .iload 4, 2), (153, .imul, 1), (154, .iload 5, 2), (156, .iadd, 1), (157, .iload 6, 2), (159, .iastore, 1), (160, .iinc 5 1, 3), (163, .goto (-93), 3), (166, .iinc 4 (-1), 3), (169, .goto (-107), 3), (172, .return_, 1)]
set_option maxRecDepth 20000 in
theorem oX9_findsWays : CtOk mX9_findsWays.2.1 tX9_findsWays := by unfold CtOk; decide +kernel
set_option maxRecDepth 20000 in
theorem kX9_findsWays : MK mX9_findsWays := ⟨tj7 236 (by rfl) rfl, tj1 10 (by rfl) rfl, by decide +kernel, by decide +kernel, by decide +kernel⟩
theorem vX9_findsWays : MKv mX9_findsWays 9 := ⟨tj7 235 (by rfl) rfl, tb0 57 (by rfl) rfl, _, _, rfl⟩
def mX9_count : Mi := (yX9_count, cX9_count, 5, some .int, 2)
def tX9_count : Ct := [(0, .iload_n 2, 1), (1, .ifCond .eq 14, 3), (4, .aload_n 0, 1), (5, .getfield 20, 3), (8, .iload_n 1, 1), (9, .iaload, 1), (10, .ifCond .ne 5, 3), (13, .iconst 0, 1), (14, .ireturn, 1), (15, .iconst 0, 1), (16, .istore_n 3, 1), (17, .iconst 0, 1), (18, .istore 4, 2), (20, .iload 4, 2), (22, .aload_n 0, 1), (23, .invokevirtual 118, 3), (26, .if_icmp .ge 43, 3), (29, .iload_n 2, 1), (30, .ifCond .ne 8, 3), (33, .iload 4, 2), (35, .ifCond .ne 18, 3), (38, .aload_n 0, 1), (39, .iload_n 1, 1), (40, .iload_n 2, 1), (41, .ifCond .eq 8, 3), (44, .iload 4, 2), (46, .goto 4, 3), (49, .iconst (-1), 1), (50, .invokevirtual 228, 3), (53, .iload_n 3, 1), (54, .aload_n 0, 1), (55, .getfield 59, 3), (58, .iload 4, 2), (60, .iaload, 1), (61, .iadd, 1), (62, .istore_n 3, 1), (63, .iinc 4 1, 3), (66, .goto (-46), 3), (69, .iload_n 3, 1), (70, .ireturn, 1)]
set_option maxRecDepth 20000 in
theorem oX9_count : CtOk mX9_count.2.1 tX9_count := by unfold CtOk; decide +kernel
set_option maxRecDepth 20000 in
theorem kX9_count : MK mX9_count := ⟨tj7 232 (by rfl) rfl, tj1 10 (by rfl) rfl, by decide +kernel, by decide +kernel, by decide +kernel⟩
theorem vX9_count : MKv mX9_count 9 := ⟨tj7 231 (by rfl) rfl, tb0 56 (by rfl) rfl, _, _, rfl⟩
def mX9_preimageCount : Mi := (yX9_preimageCount, cX9_preimageCount, 3, some .int, 2)
def tX9_preimageCount : Ct := [(0, .aload_n 0, 1), (1, .iload_n 1, 1), (2, .invokevirtual 213, 3), (5, .ifCond .eq 12, 3), (8, .aload_n 0, 1), (9, .iload_n 1, 1), (10, .iload_n 2, 1), (11, .invokevirtual 232, 3), (14, .goto 4, 3), (17, .iconst 0, 1), (18, .ireturn, 1)]
set_option maxRecDepth 20000 in
theorem oX9_preimageCount : CtOk mX9_preimageCount.2.1 tX9_preimageCount := by unfold CtOk; decide +kernel
set_option maxRecDepth 20000 in
theorem kX9_preimageCount : MK mX9_preimageCount := ⟨tj7 228 (by rfl) rfl, tj1 10 (by rfl) rfl, by decide +kernel, by decide +kernel, by decide +kernel⟩
theorem vX9_preimageCount : MKv mX9_preimageCount 9 := ⟨tj7 226 (by rfl) rfl, tj7 227 (by rfl) rfl, _, _, rfl⟩
def mX9_shortOne : Mi := (yX9_shortOne, cX9_shortOne, 5, some .int, 2)
def tX9_shortOne : Ct := [(0, .iload_n 2, 1), (1, .istore_n 3, 1), (2, .iconst 0, 1), (3, .istore 4, 2), (5, .iload 4, 2), (7, .aload_n 0, 1), (8, .aload_n 0, 1), (9, .getfield 20, 3), (12, .iload_n 1, 1), (13, .iaload, 1), (14, .invokevirtual 99, 3), (17, .if_icmp .ge 43, 3), (20, .aload_n 0, 1), (21, .iload 4, 2), (23, .aload_n 0, 1), (24, .getfield 20, 3), (27, .iload_n 1, 1), (28, .iaload, 1), (29, .invokevirtual 219, 3), (32, .aload_n 0, 1), (33, .getfield 23, 3), (36, .iload_n 1, 1), (37, .iaload, 1), (38, .if_icmp .eq 6, 3), (41, .goto 13, 3), (44, .iload_n 3, 1), (45, .ifCond .ne 6, 3), (48, .iload 4, 2), (50, .ireturn, 1), (51, .iinc 3 (-1), 3), (54, .iinc 4 1, 3), (57, .goto (-52), 3), (60, .iconst (-1), 1), (61, .ireturn, 1)]
set_option maxRecDepth 20000 in
theorem oX9_shortOne : CtOk mX9_shortOne.2.1 tX9_shortOne := by unfold CtOk; decide +kernel
set_option maxRecDepth 20000 in
theorem kX9_shortOne : MK mX9_shortOne := ⟨tj8 12 (by rfl) rfl, tj1 10 (by rfl) rfl, by decide +kernel, by decide +kernel, by decide +kernel⟩
theorem vX9_shortOne : MKv mX9_shortOne 9 := ⟨tj8 11 (by rfl) rfl, tb0 60 (by rfl) rfl, _, _, rfl⟩
def mX9_longOne : Mi := (yX9_longOne, cX9_longOne, 12, some .int, 3)
def tX9_longOne : Ct := [(0, .iload_n 3, 1), (1, .istore 4, 2), (3, .iload_n 2, 1), (4, .ifCond .eq 19, 3), (7, .aload_n 0, 1), (8, .getfield 20, 3), (11, .iload_n 1, 1), (12, .iaload, 1), (13, .aload_n 0, 1), (14, .getfield 13, 3), (17, .iconst 1, 1), (18, .isub, 1), (19, .isub, 1), (20, .goto 9, 3), (23, .aload_n 0, 1), (24, .getfield 20, 3), (27, .iload_n 1, 1), (28, .iaload, 1), (29, .istore 5, 2), (31, .iconst 0, 1), (32, .istore 6, 2), (34, .aload_n 0, 1), (35, .iload_n 1, 1), (36, .iload_n 2, 1), (37, .ifCond .eq 7, 3), (40, .iconst 0, 1), (41, .goto 4, 3), (44, .iconst (-1), 1), (45, .invokevirtual 228, 3), (48, .iload 4, 2), (50, .aload_n 0, 1), (51, .getfield 59, 3), (54, .iload 6, 2), (56, .iaload, 1), (57, .if_icmp .lt 32, 3), (60, .iload 4, 2), (62, .aload_n 0, 1), (63, .getfield 59, 3), (66, .iload 6, 2), (68, .iaload, 1), (69, .isub, 1), (70, .istore 4, 2), (72, .iinc 6 1, 3), (75, .iload_n 2, 1), (76, .ifCond .eq (-28), 3), (79, .aload_n 0, 1), (80, .iload_n 1, 1), (81, .iload 6, 2), (83, .invokevirtual 228, 3), (86, .goto (-38), 3), (89, .iload 6, 2), (91, .istore 7, 2), (93, .iconst 0, 1), (94, .istore 8, 2), (96, .iload 8, 2), (98, .iload 5, 2), (100, .if_icmp .ge 122, 3), (103, .iconst 0, 1), (104, .istore 9, 2), (106, .iconst 1, 1), (107, .istore 10, 2), (109, .iload 10, 2), (111, .ifCond .eq 83, 3), (114, .aload_n 0, 1), (115, .iload 6, 2), (117, .iload 9, 2), (119, .invokevirtual 222, 3), (122, .aload_n 0, 1), (123, .iload_n 1, 1), (124, .iload 8, 2), (126, .invokevirtual 216, 3), (129, .if_icmp .ne 27, 3), (132, .aload_n 0, 1), (133, .getfield 59, 3), (136, .bipush 9, 2), (138, .iload 8, 2), (140, .iconst 1, 1), (141, .iadd, 1), (142, .imul, 1), (143, .aload_n 0, 1), (144, .iload 6, 2), (146, .iload 9, 2), (148, .invokevirtual 225, 3), (151, .iadd, 1), (152, .iaload, 1), (153, .goto 4, 3), (156, .iconst 0, 1), (157, .istore 11, 2), (159, .iload 4, 2), (161, .iload 11, 2), (163, .if_icmp .lt 7, 3), (166, .iconst 1, 1), (167, .goto 4, 3), (170, .iconst 0, 1), (171, .istore 10, 2), (173, .iload 10, 2), (175, .ifCond .ne 6, 3), (178, .goto (-69), 3), (181, .iload 4, 2), (183, .iload 11, 2), (185, .isub, 1), (186, .istore 4, 2), (188, .iinc 9 1, 3), (191, .goto (-82), 3), (194, .iload 7, 2), (196, .aload_n 0, 1), (197, .getfield 7, 3), (200, .imul, 1), (201, .iload 9, 2), (203, .iadd, 1), (204, .istore 7, 2), (206, .aload_n 0, 1), (207, .iload 6, 2), (209, .iload 9, 2), (211, .invokevirtual 225, 3), (214, .istore 6, 2), (216, .iinc 8 1, 3), (219, .goto (-123), 3), (222, .iload 7, 2), (224, .ireturn, 1)]
set_option maxRecDepth 20000 in
theorem oX9_longOne : CtOk mX9_longOne.2.1 tX9_longOne := by unfold CtOk; decide +kernel
set_option maxRecDepth 20000 in
theorem kX9_longOne : MK mX9_longOne := ⟨tj8 16 (by rfl) rfl, tj1 10 (by rfl) rfl, by decide +kernel, by decide +kernel, by decide +kernel⟩
theorem vX9_longOne : MKv mX9_longOne 9 := ⟨tj8 15 (by rfl) rfl, tb0 61 (by rfl) rfl, _, _, rfl⟩
def mX9_preimage : Mi := (yX9_preimage, cX9_preimage, 7, some .int, 4)
def tX9_preimage : Ct := [(0, .aload_n 0, 1), (1, .iconst 0, 1), (2, .putfield 96, 3), (5, .iload_n 1, 1), (6, .invokestatic 210, 3), (9, .ifCond .eq 11, 3), (12, .iload 4, 2), (14, .invokestatic 210, 3), (17, .ifCond .ne 9, 3), (20, .aload_n 0, 1), (21, .iconst 1, 1), (22, .invokevirtual 111, 3), (25, .ireturn, 1), (26, .iload_n 2, 1), (27, .ifCond .eq 12, 3), (30, .aload_n 0, 1), (31, .getfield 20, 3), (34, .iload_n 1, 1), (35, .iaload, 1), (36, .goto 16, 3), (39, .aload_n 0, 1), (40, .getfield 20, 3), (43, .iload_n 1, 1), (44, .iaload, 1), (45, .aload_n 0, 1), (46, .getfield 13, 3), (49, .iadd, 1), (50, .iconst 1, 1), (51, .isub, 1), (52, .istore 5, 2), (54, .iload 5, 2), (56, .bipush 14, 2), (58, .if_icmp .le 9, 3), (61, .aload_n 0, 1), (62, .iconst 2, 1), (63, .invokevirtual 111, 3), (66, .ireturn, 1), (67, .iload_n 3, 1), (68, .ifCond .lt 13, 3), (71, .iload_n 3, 1), (72, .aload_n 0, 1), (73, .iload_n 1, 1), (74, .iload_n 2, 1), (75, .invokevirtual 232, 3), (78, .if_icmp .lt 9, 3), (81, .aload_n 0, 1), (82, .iconst 3, 1), (83, .invokevirtual 111, 3), (86, .ireturn, 1), (87, .iload_n 2, 1), (88, .ifCond .eq 27, 3), (91, .aload_n 0, 1), (92, .getfield 20, 3), (95, .iload_n 1, 1), (96, .iaload, 1), (97, .aload_n 0, 1), (98, .getfield 13, 3), (101, .iconst 1, 1), (102, .isub, 1), (103, .if_icmp .ge 12, 3), (106, .aload_n 0, 1), (107, .iload_n 1, 1), (108, .iload_n 3, 1), (109, .invokevirtual 236, 3), (112, .goto 10, 3), (115, .aload_n 0, 1), (116, .iload_n 1, 1), (117, .iload_n 2, 1), (118, .iload_n 3, 1), (119, .invokevirtual 239, 3), (122, .istore 6, 2), (124, .aload_n 0, 1), (125, .getfield 20, 3), (128, .iload 4, 2), (130, .iload 5, 2), (132, .iastore, 1), (133, .aload_n 0, 1), (134, .getfield 23, 3), (137, .iload 4, 2), (139, .iload 6, 2), (141, .iastore, 1), (142, .iload 6, 2), (144, .ireturn, 1)]
set_option maxRecDepth 20000 in
theorem oX9_preimage : CtOk mX9_preimage.2.1 tX9_preimage := by unfold CtOk; decide +kernel
set_option maxRecDepth 20000 in
theorem kX9_preimage : MK mX9_preimage := ⟨tj8 8 (by rfl) rfl, tj1 10 (by rfl) rfl, by decide +kernel, by decide +kernel, by decide +kernel⟩
theorem vX9_preimage : MKv mX9_preimage 9 := ⟨tj8 6 (by rfl) rfl, tj8 7 (by rfl) rfl, _, _, rfl⟩
def mX9_preimagesBetween : Mi := (yX9_preimagesBetween, cX9_preimagesBetween, 4, some .int, 3)
def tX9_preimagesBetween : Ct := [(0, .aload_n 0, 1), (1, .iconst 0, 1), (2, .putfield 96, 3), (5, .iload_n 1, 1), (6, .invokestatic 210, 3), (9, .ifCond .eq 31, 3), (12, .iload_n 2, 1), (13, .iconst 0, 1), (14, .aload_n 0, 1), (15, .invokevirtual 118, 3), (18, .iconst 1, 1), (19, .isub, 1), (20, .invokestatic 103, 3), (23, .ifCond .eq 17, 3), (26, .iload_n 3, 1), (27, .iconst 0, 1), (28, .aload_n 0, 1), (29, .invokevirtual 118, 3), (32, .iconst 1, 1), (33, .isub, 1), (34, .invokestatic 103, 3), (37, .ifCond .ne 9, 3), (40, .aload_n 0, 1), (41, .iconst 1, 1), (42, .invokevirtual 111, 3), (45, .ireturn, 1), (46, .aload_n 0, 1), (47, .iload_n 1, 1), (48, .iload_n 3, 1), (49, .invokevirtual 228, 3), (52, .aload_n 0, 1), (53, .getfield 59, 3), (56, .iload_n 2, 1), (57, .iaload, 1), (58, .ireturn, 1)]
set_option maxRecDepth 20000 in
theorem oX9_preimagesBetween : CtOk mX9_preimagesBetween.2.1 tX9_preimagesBetween := by unfold CtOk; decide +kernel
set_option maxRecDepth 20000 in
theorem kX9_preimagesBetween : MK mX9_preimagesBetween := ⟨tj8 20 (by rfl) rfl, tj1 10 (by rfl) rfl, by decide +kernel, by decide +kernel, by decide +kernel⟩
theorem vX9_preimagesBetween : MKv mX9_preimagesBetween 9 := ⟨tj8 18 (by rfl) rfl, tj8 19 (by rfl) rfl, _, _, rfl⟩
def mX9_preimages : Mi := (yX9_preimages, cX9_preimages, 8, some .int, 2)
def tX9_preimages : Ct := [(0, .aload_n 0, 1), (1, .invokevirtual 118, 3), (4, .istore_n 3, 1), (5, .iconst 0, 1), (6, .istore 4, 2), (8, .iload 4, 2), (10, .iload_n 3, 1), (11, .if_icmp .ge 17, 3), (14, .aload_n 0, 1), (15, .getfield 62, 3), (18, .iload 4, 2), (20, .iconst 1, 1), (21, .iastore, 1), (22, .iinc 4 1, 3), (25, .goto (-17), 3), (28, .iconst 0, 1), (29, .istore 4, 2), (31, .iload 4, 2), (33, .iload_n 2, 1), (34, .if_icmp .ge 153, 3), (37, .iload_n 1, 1), (38, .aload_n 0, 1), (39, .iload_n 2, 1), (40, .iconst 1, 1), (41, .isub, 1), (42, .iload 4, 2), (44, .isub, 1), (45, .invokevirtual 99, 3), (48, .idiv, 1), (49, .aload_n 0, 1), (50, .getfield 7, 3), (53, .irem, 1), (54, .istore 5, 2), (56, .iconst 0, 1), (57, .istore 6, 2), (59, .iload 6, 2), (61, .iload_n 3, 1), (62, .if_icmp .ge 17, 3), (65, .aload_n 0, 1), (66, .getfield 65, 3), (69, .iload 6, 2), (71, .iconst 0, 1), (72, .iastore, 1), (73, .iinc 6 1, 3), (76, .goto (-17), 3), (79, .iconst 0, 1), (80, .istore 6, 2), (82, .iload 6, 2), (84, .iload_n 3, 1), (85, .if_icmp .ge 67, 3), (88, .iconst 0, 1), (89, .istore 7, 2), (91, .iload 7, 2), (93, .aload_n 0, 1), (94, .getfield 7, 3), (97, .if_icmp .ge 49, 3), (100, .aload_n 0, 1), (101, .getfield 65, 3), (104, .aload_n 0, 1), (105, .iload 6, 2), (107, .iload 7, 2), (109, .invokevirtual 225, 3), (112, .dup2, 1), (113, .iaload, 1), (114, .aload_n 0, 1), (115, .iload 6, 2), (117, .iload 7, 2), (119, .invokevirtual 222, 3), (122, .iload 5, 2), (124, .if_icmp .ne 13, 3), (127, .aload_n 0, 1), (128, .getfield 62, 3), (131, .iload 6, 2), (133, .iaload, 1), (134, .goto 4, 3), (137, .iconst 0, 1), (138, .iadd, 1), (139, .iastore, 1), (140, .iinc 7 1, 3), (143, .goto (-52), 3), (146, .iinc 6 1, 3), (149, .goto (-67), 3), (152, .iconst 0, 1), (153, .istore 6, 2), (155, .iload 6, 2), (157, .iload_n 3, 1), (158, .if_icmp .ge 23, 3), (161, .aload_n 0, 1), (162, .getfield 62, 3), (165, .iload 6, 2), (167, .aload_n 0, 1), (168, .getfield 65, 3), (171, .iload 6, 2), (173, .iaload, 1), (174, .iastore, 1), (175, .iinc 6 1, 3), (178, .goto (-23), 3), (181, .iinc 4 1, 3), (184, .goto (-153), 3), (187, .iconst 0, 1), (188, .istore 4, 2), (190, .iconst 0, 1), (191, .istore 5, 2), (193, .iload 5, 2), (195, .iload_n 3, 1), (196, .if_icmp .ge 21, 3), (199, .iload 4, 2), (201, .aload_n 0, 1), (202, .getfield 62, 3), (205, .iload 5, 2), (207, .iaload, 1), (208, .iadd, 1), (209, .istore 4, 2), (211, .iinc 5 1, 3), (214, .goto (-21), 3), (217, .iload 4, 2), (219, .ireturn, 1)]
set_option maxRecDepth 20000 in
theorem oX9_preimages : CtOk mX9_preimages.2.1 tX9_preimages := by unfold CtOk; decide +kernel
set_option maxRecDepth 20000 in
theorem kX9_preimages : MK mX9_preimages := ⟨tj8 28 (by rfl) rfl, tj1 10 (by rfl) rfl, by decide +kernel, by decide +kernel, by decide +kernel⟩
theorem vX9_preimages : MKv mX9_preimages 9 := ⟨tj8 27 (by rfl) rfl, tb0 62 (by rfl) rfl, _, _, rfl⟩
def mX9_wordsWith : Mi := (yX9_wordsWith, cX9_wordsWith, 5, some .int, 2)
def tX9_wordsWith : Ct := [(0, .aload_n 0, 1), (1, .iconst 0, 1), (2, .putfield 96, 3), (5, .iload_n 1, 1), (6, .iconst 0, 1), (7, .bipush 7, 2), (9, .invokestatic 103, 3), (12, .ifCond .ne 9, 3), (15, .aload_n 0, 1), (16, .iconst 1, 1), (17, .invokevirtual 111, 3), (20, .ireturn, 1), (21, .iconst 0, 1), (22, .istore_n 3, 1), (23, .iconst 0, 1), (24, .istore 4, 2), (26, .iload 4, 2), (28, .aload_n 0, 1), (29, .iload_n 1, 1), (30, .invokevirtual 99, 3), (33, .if_icmp .ge 28, 3), (36, .iload_n 3, 1), (37, .aload_n 0, 1), (38, .iload 4, 2), (40, .iload_n 1, 1), (41, .invokevirtual 243, 3), (44, .iload_n 2, 1), (45, .if_icmp .ne 7, 3), (48, .iconst 1, 1), (49, .goto 4, 3), (52, .iconst 0, 1), (53, .iadd, 1), (54, .istore_n 3, 1), (55, .iinc 4 1, 3), (58, .goto (-32), 3), (61, .iload_n 3, 1), (62, .ireturn, 1)]
set_option maxRecDepth 20000 in
theorem oX9_wordsWith : CtOk mX9_wordsWith.2.1 tX9_wordsWith := by unfold CtOk; decide +kernel
set_option maxRecDepth 20000 in
theorem kX9_wordsWith : MK mX9_wordsWith := ⟨tj8 24 (by rfl) rfl, tj1 10 (by rfl) rfl, by decide +kernel, by decide +kernel, by decide +kernel⟩
theorem vX9_wordsWith : MKv mX9_wordsWith 9 := ⟨tj8 22 (by rfl) rfl, tj8 23 (by rfl) rfl, _, _, rfl⟩
def mX9_mostPreimages : Mi := (yX9_mostPreimages, cX9_mostPreimages, 5, some .int, 1)
def tX9_mostPreimages : Ct := [(0, .aload_n 0, 1), (1, .iconst 0, 1), (2, .putfield 96, 3), (5, .iload_n 1, 1), (6, .iconst 0, 1), (7, .bipush 7, 2), (9, .invokestatic 103, 3), (12, .ifCond .ne 9, 3), (15, .aload_n 0, 1), (16, .iconst 1, 1), (17, .invokevirtual 111, 3), (20, .ireturn, 1), (21, .iconst 0, 1), (22, .istore_n 2, 1), (23, .iconst 0, 1), (24, .istore_n 3, 1), (25, .iload_n 3, 1), (26, .aload_n 0, 1), (27, .iload_n 1, 1), (28, .invokevirtual 99, 3), (31, .if_icmp .ge 30, 3), (34, .aload_n 0, 1), (35, .iload_n 3, 1), (36, .iload_n 1, 1), (37, .invokevirtual 243, 3), (40, .istore 4, 2), (42, .iload 4, 2), (44, .iload_n 2, 1), (45, .if_icmp .le 8, 3), (48, .iload 4, 2), (50, .goto 4, 3), (53, .iload_n 2, 1), (54, .istore_n 2, 1), (55, .iinc 3 1, 3), (58, .goto (-33), 3), (61, .iload_n 2, 1), (62, .ireturn, 1)]
set_option maxRecDepth 20000 in
theorem oX9_mostPreimages : CtOk mX9_mostPreimages.2.1 tX9_mostPreimages := by unfold CtOk; decide +kernel
set_option maxRecDepth 20000 in
theorem kX9_mostPreimages : MK mX9_mostPreimages := ⟨tj8 32 (by rfl) rfl, tj1 10 (by rfl) rfl, by decide +kernel, by decide +kernel, by decide +kernel⟩
theorem vX9_mostPreimages : MKv mX9_mostPreimages 9 := ⟨tj8 30 (by rfl) rfl, tj8 31 (by rfl) rfl, _, _, rfl⟩
def mX9_fixedWords : Mi := (yX9_fixedWords, cX9_fixedWords, 4, some .int, 1)
def tX9_fixedWords : Ct := [(0, .aload_n 0, 1), (1, .iconst 0, 1), (2, .putfield 96, 3), (5, .iload_n 1, 1), (6, .iconst 1, 1), (7, .bipush 8, 2), (9, .invokestatic 103, 3), (12, .ifCond .ne 9, 3), (15, .aload_n 0, 1), (16, .iconst 1, 1), (17, .invokevirtual 111, 3), (20, .ireturn, 1), (21, .iconst 0, 1), (22, .istore_n 2, 1), (23, .iconst 0, 1), (24, .istore_n 3, 1), (25, .iload_n 3, 1), (26, .aload_n 0, 1), (27, .iload_n 1, 1), (28, .invokevirtual 99, 3), (31, .if_icmp .ge 27, 3), (34, .iload_n 2, 1), (35, .aload_n 0, 1), (36, .iload_n 3, 1), (37, .iload_n 1, 1), (38, .invokevirtual 219, 3), (41, .iload_n 3, 1), (42, .if_icmp .ne 7, 3), (45, .iconst 1, 1), (46, .goto 4, 3), (49, .iconst 0, 1), (50, .iadd, 1), (51, .istore_n 2, 1), (52, .iinc 3 1, 3), (55, .goto (-30), 3), (58, .iload_n 2, 1), (59, .ireturn, 1)]
set_option maxRecDepth 20000 in
theorem oX9_fixedWords : CtOk mX9_fixedWords.2.1 tX9_fixedWords := by unfold CtOk; decide +kernel
set_option maxRecDepth 20000 in
theorem kX9_fixedWords : MK mX9_fixedWords := ⟨tj8 36 (by rfl) rfl, tj1 10 (by rfl) rfl, by decide +kernel, by decide +kernel, by decide +kernel⟩
theorem vX9_fixedWords : MKv mX9_fixedWords 9 := ⟨tj8 34 (by rfl) rfl, tj8 35 (by rfl) rfl, _, _, rfl⟩
def mX9_edge : Mi := (yX9_edge, cX9_edge, 4, some .int, 3)
def tX9_edge : Ct := [(0, .aload_n 0, 1), (1, .iconst 0, 1), (2, .putfield 96, 3), (5, .iload_n 1, 1), (6, .iconst 0, 1), (7, .aload_n 0, 1), (8, .invokevirtual 118, 3), (11, .iconst 1, 1), (12, .isub, 1), (13, .invokestatic 103, 3), (16, .ifCond .eq 26, 3), (19, .iload_n 2, 1), (20, .iconst 0, 1), (21, .aload_n 0, 1), (22, .getfield 7, 3), (25, .iconst 1, 1), (26, .isub, 1), (27, .invokestatic 103, 3), (30, .ifCond .eq 12, 3), (33, .iload_n 3, 1), (34, .iconst 0, 1), (35, .iconst 1, 1), (36, .invokestatic 103, 3), (39, .ifCond .ne 9, 3), (42, .aload_n 0, 1), (43, .iconst 1, 1), (44, .invokevirtual 111, 3), (47, .ireturn, 1), (48, .iload_n 3, 1), (49, .ifCond .ne 12, 3), (52, .aload_n 0, 1), (53, .iload_n 1, 1), (54, .iload_n 2, 1), (55, .invokevirtual 225, 3), (58, .goto 9, 3), (61, .aload_n 0, 1), (62, .iload_n 1, 1), (63, .iload_n 2, 1), (64, .invokevirtual 222, 3), (67, .ireturn, 1)]
set_option maxRecDepth 20000 in
theorem oX9_edge : CtOk mX9_edge.2.1 tX9_edge := by unfold CtOk; decide +kernel
set_option maxRecDepth 20000 in
theorem kX9_edge : MK mX9_edge := ⟨tj8 40 (by rfl) rfl, tj1 10 (by rfl) rfl, by decide +kernel, by decide +kernel, by decide +kernel⟩
theorem vX9_edge : MKv mX9_edge 9 := ⟨tj8 38 (by rfl) rfl, tj8 39 (by rfl) rfl, _, _, rfl⟩
def mX9_successors : Mi := (yX9_successors, cX9_successors, 6, some .int, 2)
def tX9_successors : Ct := [(0, .iconst 0, 1), (1, .istore_n 3, 1), (2, .iconst 0, 1), (3, .istore 4, 2), (5, .iload 4, 2), (7, .aload_n 0, 1), (8, .invokevirtual 118, 3), (11, .if_icmp .ge 68, 3), (14, .iload_n 1, 1), (15, .iload 4, 2), (17, .ishr, 1), (18, .iconst 1, 1), (19, .iand, 1), (20, .ifCond .ne 6, 3), (23, .goto 50, 3), (26, .iconst 0, 1), (27, .istore 5, 2), (29, .iload 5, 2), (31, .aload_n 0, 1), (32, .getfield 7, 3), (35, .if_icmp .ge 38, 3), (38, .iload_n 3, 1), (39, .aload_n 0, 1), (40, .iload 4, 2), (42, .iload 5, 2), (44, .invokevirtual 222, 3), (47, .iload_n 2, 1), (48, .if_icmp .ne 16, 3), (51, .iconst 1, 1), (52, .aload_n 0, 1), (53, .iload 4, 2), (55, .iload 5, 2), (57, .invokevirtual 225, 3), (60, .ishl, 1), (61, .goto 4, 3), (64, .iconst 0, 1), (65, .ior, 1), (66, .istore_n 3, 1), (67, .iinc 5 1, 3), (70, .goto (-41), 3), (73, .iinc 4 1, 3), (76, .goto (-71), 3), (79, .iload_n 3, 1), (80, .ireturn, 1)]
set_option maxRecDepth 20000 in
theorem oX9_successors : CtOk mX9_successors.2.1 tX9_successors := by unfold CtOk; decide +kernel
set_option maxRecDepth 20000 in
theorem kX9_successors : MK mX9_successors := ⟨tj8 56 (by rfl) rfl, tj1 10 (by rfl) rfl, by decide +kernel, by decide +kernel, by decide +kernel⟩
theorem vX9_successors : MKv mX9_successors 9 := ⟨tj8 55 (by rfl) rfl, tb0 65 (by rfl) rfl, _, _, rfl⟩
def mX9_reaches : Mi := (yX9_reaches, cX9_reaches, 5, none, 4)
def tX9_reaches : Ct := [(0, .aload_n 0, 1), (1, .getfield 80, 3), (4, .iload_n 1, 1), (5, .baload, 1), (6, .ifCond .eq 4, 3), (9, .return_, 1), (10, .aload_n 0, 1), (11, .getfield 80, 3), (14, .iload_n 1, 1), (15, .iconst 1, 1), (16, .bastore, 1), (17, .aload_n 0, 1), (18, .getfield 68, 3), (21, .aload_n 0, 1), (22, .getfield 246, 3), (25, .iload_n 1, 1), (26, .iastore, 1), (27, .aload_n 0, 1), (28, .getfield 71, 3), (31, .aload_n 0, 1), (32, .getfield 246, 3), (35, .iload_n 2, 1), (36, .iastore, 1), (37, .aload_n 0, 1), (38, .getfield 74, 3), (41, .aload_n 0, 1), (42, .getfield 246, 3), (45, .iload_n 3, 1), (46, .iastore, 1), (47, .aload_n 0, 1), (48, .getfield 77, 3), (51, .aload_n 0, 1), (52, .getfield 246, 3), (55, .iload 4, 2), (57, .iastore, 1), (58, .iload_n 1, 1), (59, .ifCond .ne 11, 3), (62, .aload_n 0, 1), (63, .aload_n 0, 1), (64, .getfield 246, 3), (67, .putfield 249, 3), (70, .aload_n 0, 1), (71, .dup, 1), (72, .getfield 246, 3), (75, .iconst 1, 1), (76, .iadd, 1), (77, .putfield 246, 3), (80, .return_, 1)]
set_option maxRecDepth 20000 in
theorem oX9_reaches : CtOk mX9_reaches.2.1 tX9_reaches := by unfold CtOk; decide +kernel
set_option maxRecDepth 20000 in
theorem kX9_reaches : MK mX9_reaches := ⟨tj8 52 (by rfl) rfl, tj1 10 (by rfl) rfl, by decide +kernel, by decide +kernel, by decide +kernel⟩
theorem vX9_reaches : MKv mX9_reaches 9 := ⟨tj8 51 (by rfl) rfl, tb0 64 (by rfl) rfl, _, _, rfl⟩
def mX9_findsSets : Mi := (yX9_findsSets, cX9_findsSets, 3, none, 0)
def tX9_findsSets : Ct := [(0, .iconst 0, 1), (1, .istore_n 1, 1), (2, .iload_n 1, 1), (3, .sipush 512, 3), (6, .if_icmp .ge 16, 3), (9, .aload_n 0, 1), (10, .getfield 80, 3), (13, .iload_n 1, 1), (14, .iconst 0, 1), (15, .bastore, 1), (16, .iinc 1 1, 3), (19, .goto (-17), 3), (22, .aload_n 0, 1), (23, .iconst 0, 1), (24, .putfield 246, 3), (27, .aload_n 0, 1), (28, .iconst (-1), 1), (29, .putfield 249, 3), (32, .aload_n 0, 1), (33, .iconst 1, 1), (34, .aload_n 0, 1), (35, .invokevirtual 118, 3), (38, .ishl, 1), (39, .iconst 1, 1), (40, .isub, 1), (41, .iconst (-1), 1), (42, .iconst 0, 1), (43, .iconst 0, 1), (44, .invokevirtual 252, 3), (47, .iconst 0, 1), (48, .istore_n 1, 1), (49, .iload_n 1, 1), (50, .aload_n 0, 1), (51, .getfield 246, 3), (54, .if_icmp .ge 50, 3), (57, .iconst 0, 1), (58, .istore_n 2, 1), (59, .iload_n 2, 1), (60, .aload_n 0, 1), (61, .getfield 7, 3), (64, .if_icmp .ge 34, 3), (67, .aload_n 0, 1), (68, .aload_n 0, 1), (69, .aload_n 0, 1), (70, .getfield 68, 3), (73, .iload_n 1, 1), (74, .iaload, 1), (75, .iload_n 2, 1), (76, .invokevirtual 256, 3), (79, .iload_n 1, 1), (80, .iload_n 2, 1), (81, .aload_n 0, 1), (82, .getfield 77, 3), (85, .iload_n 1, 1), (86, .iaload, 1), (87, .iconst 1, 1), (88, .iadd, 1), (89, .invokevirtual 252, 3), (92, .iinc 2 1, 3), (95, .goto (-36), 3), (98, .iinc 1 1, 3), (101, .goto (-52), 3), (104, .return_, 1)]
set_option maxRecDepth 20000 in
theorem oX9_findsSets : CtOk mX9_findsSets.2.1 tX9_findsSets := by unfold CtOk; decide +kernel
set_option maxRecDepth 20000 in
theorem kX9_findsSets : MK mX9_findsSets := ⟨tj8 48 (by rfl) rfl, tj1 10 (by rfl) rfl, by decide +kernel, by decide +kernel, by decide +kernel⟩
theorem vX9_findsSets : MKv mX9_findsSets 9 := ⟨tj8 47 (by rfl) rfl, tb0 63 (by rfl) rfl, _, _, rfl⟩
def mX9_subsets : Mi := (yX9_subsets, cX9_subsets, 1, some .int, 0)
def tX9_subsets : Ct := [(0, .aload_n 0, 1), (1, .iconst 0, 1), (2, .putfield 96, 3), (5, .aload_n 0, 1), (6, .invokevirtual 259, 3), (9, .aload_n 0, 1), (10, .getfield 246, 3), (13, .ireturn, 1)]
set_option maxRecDepth 20000 in
theorem oX9_subsets : CtOk mX9_subsets.2.1 tX9_subsets := by unfold CtOk; decide +kernel
set_option maxRecDepth 20000 in
theorem kX9_subsets : MK mX9_subsets := ⟨tj8 44 (by rfl) rfl, tj1 10 (by rfl) rfl, by decide +kernel, by decide +kernel, by decide +kernel⟩
theorem vX9_subsets : MKv mX9_subsets 9 := ⟨tj8 42 (by rfl) rfl, tj8 43 (by rfl) rfl, _, _, rfl⟩
def mX9_orphans : Mi := (yX9_orphans, cX9_orphans, 5, some .int, 1)
def tX9_orphans : Ct := [(0, .aload_n 0, 1), (1, .iconst 0, 1), (2, .putfield 96, 3), (5, .iload_n 1, 1), (6, .iconst 0, 1), (7, .bipush 12, 2), (9, .invokestatic 103, 3), (12, .ifCond .ne 9, 3), (15, .aload_n 0, 1), (16, .iconst 1, 1), (17, .invokevirtual 111, 3), (20, .ireturn, 1), (21, .iconst 0, 1), (22, .istore_n 2, 1), (23, .iload_n 2, 1), (24, .sipush 512, 3), (27, .if_icmp .ge 16, 3), (30, .aload_n 0, 1), (31, .getfield 84, 3), (34, .iload_n 2, 1), (35, .iconst 0, 1), (36, .iastore, 1), (37, .iinc 2 1, 3), (40, .goto (-17), 3), (43, .aload_n 0, 1), (44, .getfield 84, 3), (47, .iconst 1, 1), (48, .aload_n 0, 1), (49, .invokevirtual 118, 3), (52, .ishl, 1), (53, .iconst 1, 1), (54, .isub, 1), (55, .iconst 1, 1), (56, .iastore, 1), (57, .iconst 0, 1), (58, .istore_n 2, 1), (59, .iload_n 2, 1), (60, .iload_n 1, 1), (61, .if_icmp .ge 121, 3), (64, .iconst 0, 1), (65, .istore_n 3, 1), (66, .iload_n 3, 1), (67, .sipush 512, 3), (70, .if_icmp .ge 16, 3), (73, .aload_n 0, 1), (74, .getfield 87, 3), (77, .iload_n 3, 1), (78, .iconst 0, 1), (79, .iastore, 1), (80, .iinc 3 1, 3), (83, .goto (-17), 3), (86, .iconst 0, 1), (87, .istore_n 3, 1), (88, .iload_n 3, 1), (89, .sipush 512, 3), (92, .if_icmp .ge 57, 3), (95, .iconst 0, 1), (96, .istore 4, 2), (98, .iload 4, 2), (100, .aload_n 0, 1), (101, .getfield 7, 3), (104, .if_icmp .ge 39, 3), (107, .aload_n 0, 1), (108, .getfield 84, 3), (111, .iload_n 3, 1), (112, .iaload, 1), (113, .ifCond .le 30, 3), (116, .aload_n 0, 1), (117, .getfield 87, 3), (120, .aload_n 0, 1), (121, .iload_n 3, 1), (122, .iload 4, 2), (124, .invokevirtual 256, 3), (127, .dup2, 1), (128, .iaload, 1), (129, .aload_n 0, 1), (130, .getfield 84, 3), (133, .iload_n 3, 1), (134, .iaload, 1), (135, .iadd, 1), (136, .iastore, 1), (137, .iinc 4 1, 3), (140, .goto (-42), 3), (143, .iinc 3 1, 3), (146, .goto (-58), 3), (149, .iconst 0, 1), (150, .istore_n 3, 1), (151, .iload_n 3, 1), (152, .sipush 512, 3), (155, .if_icmp .ge 21, 3), (158, .aload_n 0, 1), (159, .getfield 84, 3), (162, .iload_n 3, 1), (163, .aload_n 0, 1), (164, .getfield 87, 3), (167, .iload_n 3, 1), (168, .iaload, 1), (169, .iastore, 1), (170, .iinc 3 1, 3), (173, .goto (-22), 3), (176, .iinc 2 1, 3), (179, .goto (-120), 3), (182, .aload_n 0, 1), (183, .getfield 84, 3), (186, .iconst 0, 1), (187, .iaload, 1), (188, .ireturn, 1)]
set_option maxRecDepth 20000 in
theorem oX9_orphans : CtOk mX9_orphans.2.1 tX9_orphans := by unfold CtOk; decide +kernel
set_option maxRecDepth 20000 in
theorem kX9_orphans : MK mX9_orphans := ⟨tj8 60 (by rfl) rfl, tj1 10 (by rfl) rfl, by decide +kernel, by decide +kernel, by decide +kernel⟩
theorem vX9_orphans : MKv mX9_orphans 9 := ⟨tj8 58 (by rfl) rfl, tj8 59 (by rfl) rfl, _, _, rfl⟩
def mX9_shortestOrphan : Mi := (yX9_shortestOrphan, cX9_shortestOrphan, 5, some .int, 1)
def tX9_shortestOrphan : Ct := [(0, .aload_n 0, 1), (1, .iload_n 1, 1), (2, .invokevirtual 213, 3), (5, .ifCond .ne 5, 3), (8, .iconst 0, 1), (9, .ireturn, 1), (10, .aload_n 0, 1), (11, .invokevirtual 259, 3), (14, .aload_n 0, 1), (15, .getfield 249, 3), (18, .ifCond .ge 9, 3), (21, .aload_n 0, 1), (22, .iconst 2, 1), (23, .invokevirtual 111, 3), (26, .ireturn, 1), (27, .aload_n 0, 1), (28, .getfield 77, 3), (31, .aload_n 0, 1), (32, .getfield 249, 3), (35, .iaload, 1), (36, .bipush 14, 2), (38, .if_icmp .le 9, 3), (41, .aload_n 0, 1), (42, .iconst 3, 1), (43, .invokevirtual 111, 3), (46, .ireturn, 1), (47, .iconst 0, 1), (48, .istore_n 2, 1), (49, .iconst 1, 1), (50, .istore_n 3, 1), (51, .aload_n 0, 1), (52, .getfield 249, 3), (55, .istore 4, 2), (57, .aload_n 0, 1), (58, .getfield 71, 3), (61, .iload 4, 2), (63, .iaload, 1), (64, .ifCond .lt 34, 3), (67, .iload_n 2, 1), (68, .aload_n 0, 1), (69, .getfield 74, 3), (72, .iload 4, 2), (74, .iaload, 1), (75, .iload_n 3, 1), (76, .imul, 1), (77, .iadd, 1), (78, .istore_n 2, 1), (79, .iload_n 3, 1), (80, .aload_n 0, 1), (81, .getfield 7, 3), (84, .imul, 1), (85, .istore_n 3, 1), (86, .aload_n 0, 1), (87, .getfield 71, 3), (90, .iload 4, 2), (92, .iaload, 1), (93, .istore 4, 2), (95, .goto (-38), 3), (98, .aload_n 0, 1), (99, .getfield 20, 3), (102, .iload_n 1, 1), (103, .aload_n 0, 1), (104, .getfield 77, 3), (107, .aload_n 0, 1), (108, .getfield 249, 3), (111, .iaload, 1), (112, .iastore, 1), (113, .aload_n 0, 1), (114, .getfield 23, 3), (117, .iload_n 1, 1), (118, .iload_n 2, 1), (119, .iastore, 1), (120, .aload_n 0, 1), (121, .getfield 77, 3), (124, .aload_n 0, 1), (125, .getfield 249, 3), (128, .iaload, 1), (129, .ireturn, 1)]
set_option maxRecDepth 20000 in
theorem oX9_shortestOrphan : CtOk mX9_shortestOrphan.2.1 tX9_shortestOrphan := by unfold CtOk; decide +kernel
set_option maxRecDepth 20000 in
theorem kX9_shortestOrphan : MK mX9_shortestOrphan := ⟨tj8 64 (by rfl) rfl, tj1 10 (by rfl) rfl, by decide +kernel, by decide +kernel, by decide +kernel⟩
theorem vX9_shortestOrphan : MKv mX9_shortestOrphan 9 := ⟨tj8 62 (by rfl) rfl, tj8 63 (by rfl) rfl, _, _, rfl⟩
def mX9_pairs : Mi := (yX9_pairs, cX9_pairs, 6, some .int, 0)
def tX9_pairs : Ct := [(0, .aload_n 0, 1), (1, .invokevirtual 118, 3), (4, .istore_n 1, 1), (5, .iconst 0, 1), (6, .istore_n 2, 1), (7, .iload_n 2, 1), (8, .sipush 6561, 3), (11, .if_icmp .ge 16, 3), (14, .aload_n 0, 1), (15, .getfield 90, 3), (18, .iload_n 2, 1), (19, .iconst 0, 1), (20, .bastore, 1), (21, .iinc 2 1, 3), (24, .goto (-17), 3), (27, .iconst 0, 1), (28, .istore_n 2, 1), (29, .iload_n 2, 1), (30, .iload_n 1, 1), (31, .if_icmp .ge 109, 3), (34, .iconst 0, 1), (35, .istore_n 3, 1), (36, .iload_n 3, 1), (37, .iload_n 1, 1), (38, .if_icmp .ge 96, 3), (41, .iconst 0, 1), (42, .istore 4, 2), (44, .iload 4, 2), (46, .aload_n 0, 1), (47, .getfield 7, 3), (50, .if_icmp .ge 78, 3), (53, .iconst 0, 1), (54, .istore 5, 2), (56, .iload 5, 2), (58, .aload_n 0, 1), (59, .getfield 7, 3), (62, .if_icmp .ge 60, 3), (65, .aload_n 0, 1), (66, .iload_n 2, 1), (67, .iload 4, 2), (69, .invokevirtual 222, 3), (72, .aload_n 0, 1), (73, .iload_n 3, 1), (74, .iload 5, 2), (76, .invokevirtual 222, 3), (79, .if_icmp .ne 37, 3), (82, .aload_n 0, 1), (83, .getfield 90, 3), (86, .bipush 81, 2), (88, .bipush 9, 2), (90, .iload_n 2, 1), (91, .imul, 1), (92, .iload_n 3, 1), (93, .iadd, 1), (94, .imul, 1), (95, .bipush 9, 2), (97, .aload_n 0, 1), (98, .iload_n 2, 1), (99, .iload 4, 2), (101, .invokevirtual 225, 3), (104, .imul, 1), (105, .iadd, 1), (106, .aload_n 0, 1), (107, .iload_n 3, 1), (108, .iload 5, 2), (110, .invokevirtual 225, 3), (113, .iadd, 1), (114, .iconst 1, 1), (115, .bastore, 1), (116, .iinc 5 1, 3), (119, .goto (-63), 3), (122, .iinc 4 1, 3), (125, .goto (-81), 3), (128, .iinc 3 1, 3), (131, .goto (-95), 3), (134, .iinc 2 1, 3), (137, .goto (-108), 3), (140, .iconst 0, 1), (141, .istore_n 2, 1), (142, .iload_n 2, 1), (143, .bipush 81, 2), (145, .if_icmp .ge 83, 3), (148, .iconst 0, 1), (149, .istore_n 3, 1), (150, .iload_n 3, 1), (151, .bipush 81, 2), (153, .if_icmp .ge 69, 3), (156, .aload_n 0, 1), (157, .getfield 90, 3), (160, .bipush 81, 2), (162, .iload_n 3, 1), (163, .imul, 1), (164, .iload_n 2, 1), (165, .iadd, 1), (166, .baload, 1), (167, .ifCond .ne 6, 3), (170, .goto 46, 3), (173, .iconst 0, 1), (174, .istore 4, 2), (176, .iload 4, 2), (178, .bipush 81, 2), (180, .if_icmp .ge 36, 3), (183, .aload_n 0, 1), (184, .getfield 90, 3), (187, .bipush 81, 2), (189, .iload_n 3, 1), (190, .imul, 1), (191, .iload 4, 2), (193, .iadd, 1), (194, .dup2, 1), (195, .baload, 1), (196, .aload_n 0, 1), (197, .getfield 90, 3), (200, .bipush 81, 2), (202, .iload_n 2, 1), (203, .imul, 1), (204, .iload 4, 2), (206, .iadd, 1), (207, .baload, 1), (208, .ior, 1), (209, .bastore, 1), (210, .iinc 4 1, 3), (213, .goto (-37), 3), (216, .iinc 3 1, 3), (219, .goto (-69), 3), (222, .iinc 2 1, 3), (225, .goto (-83), 3), (228, .iconst 0, 1), (229, .istore_n 2, 1), (230, .iconst 0, 1), (231, .istore_n 3, 1), (232, .iload_n 3, 1), (233, .iload_n 1, 1), (234, .if_icmp .ge 56, 3), (237, .iconst 0, 1), (238, .istore 4, 2), (240, .iload 4, 2), (242, .iload_n 1, 1), (243, .if_icmp .ge 41, 3), (246, .iload_n 2, 1), (247, .iload_n 3, 1), (248, .iload 4, 2), (250, .if_icmp .eq 25, 3), (253, .aload_n 0, 1), (254, .getfield 90, 3), (257, .bipush 82, 2), (259, .bipush 9, 2), (261, .iload_n 3, 1), (262, .imul, 1), (263, .iload 4, 2), (265, .iadd, 1), (266, .imul, 1), (267, .baload, 1), (268, .ifCond .eq 7, 3), (271, .iconst 1, 1), (272, .goto 4, 3), (275, .iconst 0, 1), (276, .iadd, 1), (277, .istore_n 2, 1), (278, .iinc 4 1, 3), (281, .goto (-41), 3), (284, .iinc 3 1, 3), (287, .goto (-55), 3), (290, .iload_n 2, 1), (291, .ireturn, 1)]
set_option maxRecDepth 20000 in
theorem oX9_pairs : CtOk mX9_pairs.2.1 tX9_pairs := by unfold CtOk; decide +kernel
set_option maxRecDepth 20000 in
theorem kX9_pairs : MK mX9_pairs := ⟨tj8 72 (by rfl) rfl, tj1 10 (by rfl) rfl, by decide +kernel, by decide +kernel, by decide +kernel⟩
theorem vX9_pairs : MKv mX9_pairs 9 := ⟨tj8 71 (by rfl) rfl, tb0 66 (by rfl) rfl, _, _, rfl⟩
def mX9_cyclicPairs : Mi := (yX9_cyclicPairs, cX9_cyclicPairs, 1, some .int, 0)
def tX9_cyclicPairs : Ct := [(0, .aload_n 0, 1), (1, .iconst 0, 1), (2, .putfield 96, 3), (5, .aload_n 0, 1), (6, .invokevirtual 262, 3), (9, .ireturn, 1)]
set_option maxRecDepth 20000 in
theorem oX9_cyclicPairs : CtOk mX9_cyclicPairs.2.1 tX9_cyclicPairs := by unfold CtOk; decide +kernel
set_option maxRecDepth 20000 in
theorem kX9_cyclicPairs : MK mX9_cyclicPairs := ⟨tj8 68 (by rfl) rfl, tj1 10 (by rfl) rfl, by decide +kernel, by decide +kernel, by decide +kernel⟩
theorem vX9_cyclicPairs : MKv mX9_cyclicPairs 9 := ⟨tj8 66 (by rfl) rfl, tj8 67 (by rfl) rfl, _, _, rfl⟩
def mX9_isPermutive : Mi := (yX9_isPermutive, cX9_isPermutive, 5, some .boolean, 1)
def tX9_isPermutive : Ct := [(0, .iconst 0, 1), (1, .istore_n 2, 1), (2, .iload_n 2, 1), (3, .aload_n 0, 1), (4, .invokevirtual 114, 3), (7, .if_icmp .ge 73, 3), (10, .iload_n 2, 1), (11, .iload_n 1, 1), (12, .idiv, 1), (13, .aload_n 0, 1), (14, .getfield 7, 3), (17, .irem, 1), (18, .ifCond .eq 6, 3), (21, .goto 53, 3), (24, .iconst 0, 1), (25, .istore_n 3, 1), (26, .iconst 0, 1), (27, .istore 4, 2), (29, .iload 4, 2), (31, .aload_n 0, 1), (32, .getfield 7, 3), (35, .if_icmp .ge 25, 3), (38, .iload_n 3, 1), (39, .iconst 1, 1), (40, .aload_n 0, 1), (41, .getfield 16, 3), (44, .iload_n 2, 1), (45, .iload 4, 2), (47, .iload_n 1, 1), (48, .imul, 1), (49, .iadd, 1), (50, .iaload, 1), (51, .ishl, 1), (52, .ior, 1), (53, .istore_n 3, 1), (54, .iinc 4 1, 3), (57, .goto (-28), 3), (60, .iload_n 3, 1), (61, .iconst 1, 1), (62, .aload_n 0, 1), (63, .getfield 7, 3), (66, .ishl, 1), (67, .iconst 1, 1), (68, .isub, 1), (69, .if_icmp .eq 5, 3), (72, .iconst 0, 1), (73, .ireturn, 1), (74, .iinc 2 1, 3), (77, .goto (-75), 3), (80, .iconst 1, 1), (81, .ireturn, 1)]
set_option maxRecDepth 20000 in
theorem oX9_isPermutive : CtOk mX9_isPermutive.2.1 tX9_isPermutive := by unfold CtOk; decide +kernel
set_option maxRecDepth 20000 in
theorem kX9_isPermutive : MK mX9_isPermutive := ⟨tj8 80 (by rfl) rfl, tj1 10 (by rfl) rfl, by decide +kernel, by decide +kernel, by decide +kernel⟩
theorem vX9_isPermutive : MKv mX9_isPermutive 9 := ⟨tj8 79 (by rfl) rfl, tb0 67 (by rfl) rfl, _, _, rfl⟩
def mX9_isBalanced : Mi := (yX9_isBalanced, cX9_isBalanced, 4, some .boolean, 0)
def tX9_isBalanced : Ct := [(0, .iconst 0, 1), (1, .istore_n 1, 1), (2, .iload_n 1, 1), (3, .aload_n 0, 1), (4, .getfield 7, 3), (7, .if_icmp .ge 55, 3), (10, .iconst 0, 1), (11, .istore_n 2, 1), (12, .iconst 0, 1), (13, .istore_n 3, 1), (14, .iload_n 3, 1), (15, .aload_n 0, 1), (16, .invokevirtual 114, 3), (19, .if_icmp .ge 27, 3), (22, .iload_n 2, 1), (23, .aload_n 0, 1), (24, .getfield 16, 3), (27, .iload_n 3, 1), (28, .iaload, 1), (29, .iload_n 1, 1), (30, .if_icmp .ne 7, 3), (33, .iconst 1, 1), (34, .goto 4, 3), (37, .iconst 0, 1), (38, .iadd, 1), (39, .istore_n 2, 1), (40, .iinc 3 1, 3), (43, .goto (-29), 3), (46, .iload_n 2, 1), (47, .aload_n 0, 1), (48, .invokevirtual 118, 3), (51, .if_icmp .eq 5, 3), (54, .iconst 0, 1), (55, .ireturn, 1), (56, .iinc 1 1, 3), (59, .goto (-57), 3), (62, .iconst 1, 1), (63, .ireturn, 1)]
set_option maxRecDepth 20000 in
theorem oX9_isBalanced : CtOk mX9_isBalanced.2.1 tX9_isBalanced := by unfold CtOk; decide +kernel
set_option maxRecDepth 20000 in
theorem kX9_isBalanced : MK mX9_isBalanced := ⟨tj8 84 (by rfl) rfl, tj1 10 (by rfl) rfl, by decide +kernel, by decide +kernel, by decide +kernel⟩
theorem vX9_isBalanced : MKv mX9_isBalanced 9 := ⟨tj8 83 (by rfl) rfl, tb0 68 (by rfl) rfl, _, _, rfl⟩
def mX9_isMade : Mi := (yX9_isMade, cX9_isMade, 2, some .boolean, 0)
def tX9_isMade : Ct := [(0, .iconst 0, 1), (1, .istore_n 1, 1), (2, .iload_n 1, 1), (3, .aload_n 0, 1), (4, .invokevirtual 114, 3), (7, .if_icmp .ge 26, 3), (10, .aload_n 0, 1), (11, .getfield 16, 3), (14, .iload_n 1, 1), (15, .iaload, 1), (16, .aload_n 0, 1), (17, .getfield 41, 3), (20, .iload_n 1, 1), (21, .iaload, 1), (22, .if_icmp .eq 5, 3), (25, .iconst 0, 1), (26, .ireturn, 1), (27, .iinc 1 1, 3), (30, .goto (-28), 3), (33, .iconst 1, 1), (34, .ireturn, 1)]
set_option maxRecDepth 20000 in
theorem oX9_isMade : CtOk mX9_isMade.2.1 tX9_isMade := by unfold CtOk; decide +kernel
set_option maxRecDepth 20000 in
theorem kX9_isMade : MK mX9_isMade := ⟨tj8 88 (by rfl) rfl, tj1 10 (by rfl) rfl, by decide +kernel, by decide +kernel, by decide +kernel⟩
theorem vX9_isMade : MKv mX9_isMade 9 := ⟨tj8 87 (by rfl) rfl, tb0 69 (by rfl) rfl, _, _, rfl⟩
def mX9_has : Mi := (yX9_has, cX9_has, 2, some .boolean, 1)
def tX9_has : Ct := [(0, .aload_n 0, 1), (1, .iload_n 1, 1), (2, .iconst 0, 1), (3, .bipush 6, 2), (5, .invokestatic 103, 3), (8, .ifCond .eq 7, 3), (11, .iconst 0, 1), (12, .goto 4, 3), (15, .iconst 1, 1), (16, .putfield 96, 3), (19, .iload_n 1, 1), (20, .tableswitch 128 0 6 #[44, 61, 74, 83, 89, 94, 111], 44), (64, .aload_n 0, 1), (65, .invokevirtual 259, 3), (68, .aload_n 0, 1), (69, .getfield 249, 3), (72, .ifCond .ge 7, 3), (75, .iconst 1, 1), (76, .goto 4, 3), (79, .iconst 0, 1), (80, .ireturn, 1), (81, .aload_n 0, 1), (82, .invokevirtual 262, 3), (85, .ifCond .ne 7, 3), (88, .iconst 1, 1), (89, .goto 4, 3), (92, .iconst 0, 1), (93, .ireturn, 1), (94, .aload_n 0, 1), (95, .aload_n 0, 1), (96, .invokevirtual 118, 3), (99, .invokevirtual 265, 3), (102, .ireturn, 1), (103, .aload_n 0, 1), (104, .iconst 1, 1), (105, .invokevirtual 265, 3), (108, .ireturn, 1), (109, .aload_n 0, 1), (110, .invokevirtual 268, 3), (113, .ireturn, 1), (114, .aload_n 0, 1), (115, .aload_n 0, 1), (116, .getfield 16, 3), (119, .aload_n 0, 1), (120, .getfield 41, 3), (123, .invokevirtual 132, 3), (126, .aload_n 0, 1), (127, .invokevirtual 271, 3), (130, .ireturn, 1), (131, .aload_n 0, 1), (132, .aload_n 0, 1), (133, .getfield 16, 3), (136, .aload_n 0, 1), (137, .getfield 41, 3), (140, .invokevirtual 136, 3), (143, .aload_n 0, 1), (144, .invokevirtual 271, 3), (147, .ireturn, 1), (148, .iconst 0, 1), (149, .ireturn, 1)]
set_option maxRecDepth 20000 in
theorem oX9_has : CtOk mX9_has.2.1 tX9_has := by unfold CtOk; decide +kernel
set_option maxRecDepth 20000 in
theorem kX9_has : MK mX9_has := ⟨tj8 76 (by rfl) rfl, tj1 10 (by rfl) rfl, by decide +kernel, by decide +kernel, by decide +kernel⟩
theorem vX9_has : MKv mX9_has 9 := ⟨tj8 74 (by rfl) rfl, tj8 75 (by rfl) rfl, _, _, rfl⟩
def mX9_isInverse : Mi := (yX9_isInverse, cX9_isInverse, 7, some .boolean, 2)
def tX9_isInverse : Ct := [(0, .iload_n 1, 1), (1, .aload_n 0, 1), (2, .getfield 13, 3), (5, .iadd, 1), (6, .iconst 1, 1), (7, .isub, 1), (8, .istore_n 3, 1), (9, .iconst 0, 1), (10, .istore 4, 2), (12, .iload 4, 2), (14, .aload_n 0, 1), (15, .iload_n 1, 1), (16, .invokevirtual 99, 3), (19, .if_icmp .ge 17, 3), (22, .aload_n 0, 1), (23, .getfield 93, 3), (26, .iload 4, 2), (28, .iconst (-1), 1), (29, .iastore, 1), (30, .iinc 4 1, 3), (33, .goto (-21), 3), (36, .iconst 0, 1), (37, .istore 4, 2), (39, .iload 4, 2), (41, .aload_n 0, 1), (42, .iload_n 3, 1), (43, .invokevirtual 99, 3), (46, .if_icmp .ge 78, 3), (49, .aload_n 0, 1), (50, .iload 4, 2), (52, .iload_n 3, 1), (53, .aload_n 0, 1), (54, .getfield 16, 3), (57, .aload_n 0, 1), (58, .getfield 13, 3), (61, .invokevirtual 145, 3), (64, .istore 5, 2), (66, .iload 4, 2), (68, .aload_n 0, 1), (69, .iload_n 3, 1), (70, .iconst 1, 1), (71, .isub, 1), (72, .iload_n 2, 1), (73, .isub, 1), (74, .invokevirtual 99, 3), (77, .idiv, 1), (78, .aload_n 0, 1), (79, .getfield 7, 3), (82, .irem, 1), (83, .istore 6, 2), (85, .aload_n 0, 1), (86, .getfield 93, 3), (89, .iload 5, 2), (91, .iaload, 1), (92, .ifCond .lt 17, 3), (95, .aload_n 0, 1), (96, .getfield 93, 3), (99, .iload 5, 2), (101, .iaload, 1), (102, .iload 6, 2), (104, .if_icmp .eq 5, 3), (107, .iconst 0, 1), (108, .ireturn, 1), (109, .aload_n 0, 1), (110, .getfield 93, 3), (113, .iload 5, 2), (115, .iload 6, 2), (117, .iastore, 1), (118, .iinc 4 1, 3), (121, .goto (-82), 3), (124, .iconst 0, 1), (125, .istore 4, 2), (127, .iload 4, 2), (129, .aload_n 0, 1), (130, .iload_n 1, 1), (131, .invokevirtual 99, 3), (134, .if_icmp .ge 21, 3), (137, .aload_n 0, 1), (138, .getfield 93, 3), (141, .iload 4, 2), (143, .iaload, 1), (144, .ifCond .ge 5, 3), (147, .iconst 0, 1), (148, .ireturn, 1), (149, .iinc 4 1, 3), (152, .goto (-25), 3), (155, .iconst 1, 1), (156, .ireturn, 1)]
set_option maxRecDepth 20000 in
theorem oX9_isInverse : CtOk mX9_isInverse.2.1 tX9_isInverse := by unfold CtOk; decide +kernel
set_option maxRecDepth 20000 in
theorem kX9_isInverse : MK mX9_isInverse := ⟨tj8 100 (by rfl) rfl, tj1 10 (by rfl) rfl, by decide +kernel, by decide +kernel, by decide +kernel⟩
theorem vX9_isInverse : MKv mX9_isInverse 9 := ⟨tj8 99 (by rfl) rfl, tb0 71 (by rfl) rfl, _, _, rfl⟩
def mX9_hasInverse : Mi := (yX9_hasInverse, cX9_hasInverse, 3, some .boolean, 0)
def tX9_hasInverse : Ct := [(0, .iconst 1, 1), (1, .istore_n 1, 1), (2, .iload_n 1, 1), (3, .iconst 5, 1), (4, .if_icmp .gt 53, 3), (7, .iconst 0, 1), (8, .istore_n 2, 1), (9, .iload_n 2, 1), (10, .iload_n 1, 1), (11, .aload_n 0, 1), (12, .getfield 13, 3), (15, .iadd, 1), (16, .iconst 2, 1), (17, .isub, 1), (18, .if_icmp .gt 33, 3), (21, .aload_n 0, 1), (22, .iload_n 1, 1), (23, .iload_n 2, 1), (24, .invokevirtual 274, 3), (27, .ifCond .ne 6, 3), (30, .goto 15, 3), (33, .aload_n 0, 1), (34, .iload_n 1, 1), (35, .putfield 277, 3), (38, .aload_n 0, 1), (39, .iload_n 2, 1), (40, .putfield 280, 3), (43, .iconst 1, 1), (44, .ireturn, 1), (45, .iinc 2 1, 3), (48, .goto (-39), 3), (51, .iinc 1 1, 3), (54, .goto (-52), 3), (57, .iconst 0, 1), (58, .ireturn, 1)]
set_option maxRecDepth 20000 in
theorem oX9_hasInverse : CtOk mX9_hasInverse.2.1 tX9_hasInverse := by unfold CtOk; decide +kernel
set_option maxRecDepth 20000 in
theorem kX9_hasInverse : MK mX9_hasInverse := ⟨tj8 96 (by rfl) rfl, tj1 10 (by rfl) rfl, by decide +kernel, by decide +kernel, by decide +kernel⟩
theorem vX9_hasInverse : MKv mX9_hasInverse 9 := ⟨tj8 95 (by rfl) rfl, tb0 70 (by rfl) rfl, _, _, rfl⟩
def mX9_inverse : Mi := (yX9_inverse, cX9_inverse, 2, some .int, 1)
def tX9_inverse : Ct := [(0, .aload_n 0, 1), (1, .iconst 0, 1), (2, .putfield 96, 3), (5, .iload_n 1, 1), (6, .iconst 0, 1), (7, .iconst 1, 1), (8, .invokestatic 103, 3), (11, .ifCond .ne 9, 3), (14, .aload_n 0, 1), (15, .iconst 1, 1), (16, .invokevirtual 111, 3), (19, .ireturn, 1), (20, .aload_n 0, 1), (21, .invokevirtual 283, 3), (24, .ifCond .ne 11, 3), (27, .aload_n 0, 1), (28, .iconst 2, 1), (29, .invokevirtual 111, 3), (32, .goto 18, 3), (35, .iload_n 1, 1), (36, .ifCond .ne 10, 3), (39, .aload_n 0, 1), (40, .getfield 277, 3), (43, .goto 7, 3), (46, .aload_n 0, 1), (47, .getfield 280, 3), (50, .ireturn, 1)]
set_option maxRecDepth 20000 in
theorem oX9_inverse : CtOk mX9_inverse.2.1 tX9_inverse := by unfold CtOk; decide +kernel
set_option maxRecDepth 20000 in
theorem kX9_inverse : MK mX9_inverse := ⟨tj8 92 (by rfl) rfl, tj1 10 (by rfl) rfl, by decide +kernel, by decide +kernel, by decide +kernel⟩
theorem vX9_inverse : MKv mX9_inverse 9 := ⟨tj8 90 (by rfl) rfl, tj8 91 (by rfl) rfl, _, _, rfl⟩
def mX9_inverseOutput : Mi := (yX9_inverseOutput, cX9_inverseOutput, 2, some .int, 1)
def tX9_inverseOutput : Ct := [(0, .aload_n 0, 1), (1, .iconst 0, 1), (2, .putfield 96, 3), (5, .aload_n 0, 1), (6, .invokevirtual 283, 3), (9, .ifCond .ne 9, 3), (12, .aload_n 0, 1), (13, .iconst 1, 1), (14, .invokevirtual 111, 3), (17, .ireturn, 1), (18, .iload_n 1, 1), (19, .iconst 0, 1), (20, .aload_n 0, 1), (21, .aload_n 0, 1), (22, .getfield 277, 3), (25, .invokevirtual 99, 3), (28, .iconst 1, 1), (29, .isub, 1), (30, .invokestatic 103, 3), (33, .ifCond .eq 12, 3), (36, .aload_n 0, 1), (37, .getfield 93, 3), (40, .iload_n 1, 1), (41, .iaload, 1), (42, .goto 8, 3), (45, .aload_n 0, 1), (46, .iconst 2, 1), (47, .invokevirtual 111, 3), (50, .ireturn, 1)]
set_option maxRecDepth 20000 in
theorem oX9_inverseOutput : CtOk mX9_inverseOutput.2.1 tX9_inverseOutput := by unfold CtOk; decide +kernel
set_option maxRecDepth 20000 in
theorem kX9_inverseOutput : MK mX9_inverseOutput := ⟨tj8 104 (by rfl) rfl, tj1 10 (by rfl) rfl, by decide +kernel, by decide +kernel, by decide +kernel⟩
theorem vX9_inverseOutput : MKv mX9_inverseOutput 9 := ⟨tj8 102 (by rfl) rfl, tj8 103 (by rfl) rfl, _, _, rfl⟩
def mX9_copies : Mi := (yX9_copies, cX9_copies, 3, none, 2)
def tX9_copies : Ct := [(0, .iconst 0, 1), (1, .istore_n 2, 1), (2, .iload_n 2, 1), (3, .aload_n 1, 1), (4, .arraylength, 1), (5, .if_icmp .ge 15, 3), (8, .aload_n 1, 1), (9, .iload_n 2, 1), (10, .aload_n 0, 1), (11, .iload_n 2, 1), (12, .iaload, 1), (13, .iastore, 1), (14, .iinc 2 1, 3), (17, .goto (-15), 3), (20, .return_, 1)]
set_option maxRecDepth 20000 in
theorem oX9_copies : CtOk mX9_copies.2.1 tX9_copies := by unfold CtOk; decide +kernel
set_option maxRecDepth 20000 in
theorem kX9_copies : MK mX9_copies := ⟨tj8 111 (by rfl) rfl, tj1 10 (by rfl) rfl, by decide +kernel, by decide +kernel, by decide +kernel⟩
theorem sX9_copies : Cond.static mX9_copies.1 ∈ TSg := tj8 110 (by rfl) rfl
def mX9_save : Mi := (yX9_save, cX9_save, 1, some .long, 0)
def tX9_save : Ct := [(0, .aload_n 0, 1), (1, .iconst 0, 1), (2, .putfield 96, 3), (5, .aload_n 0, 1), (6, .aload_n 0, 1), (7, .getfield 7, 3), (10, .putfield 142, 3), (13, .aload_n 0, 1), (14, .aload_n 0, 1), (15, .getfield 13, 3), (18, .putfield 139, 3), (21, .aload_n 0, 1), (22, .getfield 16, 3), (25, .aload_n 0, 1), (26, .getfield 26, 3), (29, .invokestatic 286, 3), (32, .aload_n 0, 1), (33, .getfield 20, 3), (36, .aload_n 0, 1), (37, .getfield 29, 3), (40, .invokestatic 286, 3), (43, .aload_n 0, 1), (44, .getfield 23, 3), (47, .aload_n 0, 1), (48, .getfield 32, 3), (51, .invokestatic 286, 3), (54, .aload_n 0, 1), (55, .aload_n 0, 1), (56, .getfield 16, 3), (59, .invokevirtual 124, 3), (62, .lreturn, 1)]
set_option maxRecDepth 20000 in
theorem oX9_save : CtOk mX9_save.2.1 tX9_save := by unfold CtOk; decide +kernel
set_option maxRecDepth 20000 in
theorem kX9_save : MK mX9_save := ⟨tj8 108 (by rfl) rfl, tj1 10 (by rfl) rfl, by decide +kernel, by decide +kernel, by decide +kernel⟩
theorem vX9_save : MKv mX9_save 9 := ⟨tj8 106 (by rfl) rfl, tj8 107 (by rfl) rfl, _, _, rfl⟩
def mX9_restore : Mi := (yX9_restore, cX9_restore, 1, some .long, 0)
def tX9_restore : Ct := [(0, .aload_n 0, 1), (1, .aload_n 0, 1), (2, .getfield 142, 3), (5, .ifCond .ne 7, 3), (8, .iconst 1, 1), (9, .goto 4, 3), (12, .iconst 0, 1), (13, .putfield 96, 3), (16, .aload_n 0, 1), (17, .getfield 96, 3), (20, .iconst 1, 1), (21, .if_icmp .ne 5, 3), (24, .lconst 0, 1), (25, .lreturn, 1), (26, .aload_n 0, 1), (27, .aload_n 0, 1), (28, .getfield 142, 3), (31, .putfield 7, 3), (34, .aload_n 0, 1), (35, .aload_n 0, 1), (36, .getfield 139, 3), (39, .putfield 13, 3), (42, .aload_n 0, 1), (43, .getfield 26, 3), (46, .aload_n 0, 1), (47, .getfield 16, 3), (50, .invokestatic 286, 3), (53, .aload_n 0, 1), (54, .getfield 29, 3), (57, .aload_n 0, 1), (58, .getfield 20, 3), (61, .invokestatic 286, 3), (64, .aload_n 0, 1), (65, .getfield 32, 3), (68, .aload_n 0, 1), (69, .getfield 23, 3), (72, .invokestatic 286, 3), (75, .aload_n 0, 1), (76, .aload_n 0, 1), (77, .getfield 16, 3), (80, .invokevirtual 124, 3), (83, .lreturn, 1)]
set_option maxRecDepth 20000 in
theorem oX9_restore : CtOk mX9_restore.2.1 tX9_restore := by unfold CtOk; decide +kernel
set_option maxRecDepth 20000 in
theorem kX9_restore : MK mX9_restore := ⟨tj8 115 (by rfl) rfl, tj1 10 (by rfl) rfl, by decide +kernel, by decide +kernel, by decide +kernel⟩
theorem vX9_restore : MKv mX9_restore 9 := ⟨tj8 113 (by rfl) rfl, tj8 114 (by rfl) rfl, _, _, rfl⟩
end
section
/-! ===== links ===== -/
theorem p0_0 : FPt 0 0 .int false := ⟨_, _, _, rfl, by decide +kernel, rfl⟩
theorem p0_1 : FPt 0 1 .int false := ⟨_, _, _, rfl, by decide +kernel, rfl⟩
theorem p0_2 : FPt 0 2 .int false := ⟨_, _, _, rfl, by decide +kernel, rfl⟩
theorem p0_5 : FPt 0 5 .int false := ⟨_, _, _, rfl, by decide +kernel, rfl⟩
theorem p0_7 : FPt 0 7 .int false := ⟨_, _, _, rfl, by decide +kernel, rfl⟩
theorem p1_0 : FPt 1 0 .int false := ⟨_, _, _, rfl, by decide +kernel, rfl⟩
theorem p1_1 : FPt 1 1 .int false := ⟨_, _, _, rfl, by decide +kernel, rfl⟩
theorem p2_0 : FPt 2 0 .int false := ⟨_, _, _, rfl, by decide +kernel, rfl⟩
theorem p2_1 : FPt 2 1 .int false := ⟨_, _, _, rfl, by decide +kernel, rfl⟩
theorem p4_0 : FPt 4 0 .int false := ⟨_, _, _, rfl, by decide +kernel, rfl⟩
theorem p4_1 : FPt 4 1 .int false := ⟨_, _, _, rfl, by decide +kernel, rfl⟩
theorem p4_2 : FPt 4 2 .int false := ⟨_, _, _, rfl, by decide +kernel, rfl⟩
theorem p6_0 : FPt 6 0 .int false := ⟨_, _, _, rfl, by decide +kernel, rfl⟩
theorem p6_1 : FPt 6 1 .int false := ⟨_, _, _, rfl, by decide +kernel, rfl⟩
theorem p6_2 : FPt 6 2 .int false := ⟨_, _, _, rfl, by decide +kernel, rfl⟩
theorem p6_3 : FPt 6 3 .int false := ⟨_, _, _, rfl, by decide +kernel, rfl⟩
theorem p7_0 : FPt 7 0 .int false := ⟨_, _, _, rfl, by decide +kernel, rfl⟩
theorem p8_4 : FPt 8 4 .boolean false := ⟨_, _, _, rfl, by decide +kernel, rfl⟩
theorem p9_0 : FPt 9 0 .int false := ⟨_, _, _, rfl, by decide +kernel, rfl⟩
theorem p9_1 : FPt 9 1 .int false := ⟨_, _, _, rfl, by decide +kernel, rfl⟩
theorem p9_2 : FPt 9 2 .int false := ⟨_, _, _, rfl, by decide +kernel, rfl⟩
theorem p9_6 : FPt 9 6 .int false := ⟨_, _, _, rfl, by decide +kernel, rfl⟩
theorem p9_7 : FPt 9 7 .int false := ⟨_, _, _, rfl, by decide +kernel, rfl⟩
theorem p9_12 : FPt 9 12 .int false := ⟨_, _, _, rfl, by decide +kernel, rfl⟩
theorem p9_13 : FPt 9 13 .int false := ⟨_, _, _, rfl, by decide +kernel, rfl⟩
theorem p9_14 : FPt 9 14 .int false := ⟨_, _, _, rfl, by decide +kernel, rfl⟩
theorem p9_19 : FPt 9 19 .int false := ⟨_, _, _, rfl, by decide +kernel, rfl⟩
theorem p9_20 : FPt 9 20 .int false := ⟨_, _, _, rfl, by decide +kernel, rfl⟩
theorem p9_21 : FPt 9 21 .int false := ⟨_, _, _, rfl, by decide +kernel, rfl⟩
theorem p9_22 : FPt 9 22 .boolean false := ⟨_, _, _, rfl, by decide +kernel, rfl⟩
theorem p9_24 : FPt 9 24 .int false := ⟨_, _, _, rfl, by decide +kernel, rfl⟩
theorem p9_34 : FPt 9 34 .int false := ⟨_, _, _, rfl, by decide +kernel, rfl⟩
theorem p9_35 : FPt 9 35 .int false := ⟨_, _, _, rfl, by decide +kernel, rfl⟩
theorem p9_40 : FPt 9 40 .int false := ⟨_, _, _, rfl, by decide +kernel, rfl⟩
theorem p9_41 : FPt 9 41 .int false := ⟨_, _, _, rfl, by decide +kernel, rfl⟩
theorem cJ7_13 : MSL RJ7 13 mJ7_rangeCheck_23922 := ⟨kJ7_rangeCheck_23922, sJ7_rangeCheck_23922, tj4 102 (by rfl) rfl⟩
theorem fX0_19 : FLk RX0 19 0 3 := ⟨_, _, _, rfl, by decide, tj1 141 (by rfl) rfl⟩
theorem fX0_7 : FLk RX0 7 0 0 := ⟨_, _, _, rfl, by decide, tj1 135 (by rfl) rfl⟩
theorem fX0_13 : FLk RX0 13 0 1 := ⟨_, _, _, rfl, by decide, tj1 137 (by rfl) rfl⟩
theorem fX0_16 : FLk RX0 16 0 2 := ⟨_, _, _, rfl, by decide, tj1 139 (by rfl) rfl⟩
theorem fX0_37 : FLk RX0 37 0 5 := ⟨_, _, _, rfl, by decide, tj1 143 (by rfl) rfl⟩
theorem fX0_40 : FLk RX0 40 0 7 := ⟨_, _, _, rfl, by decide, tj1 145 (by rfl) rfl⟩
theorem cX0_43 : MVL RX0 43 mX0_readSign 0 := ⟨kX0_readSign, vX0_readSign, tj3 180 (by rfl) rfl⟩
theorem cX0_47 : MVL RX0 47 mX0_moveOperators 0 := ⟨kX0_moveOperators, vX0_moveOperators, tj3 216 (by rfl) rfl⟩
theorem cX0_51 : MVL RX0 51 mX0_readOperand 0 := ⟨kX0_readOperand, vX0_readOperand, tj3 184 (by rfl) rfl⟩
theorem cX0_55 : MVL RX0 55 mX0_readOperator 0 := ⟨kX0_readOperator, vX0_readOperator, tj3 208 (by rfl) rfl⟩
theorem cX0_59 : MVL RX0 59 mX0_refuse 0 := ⟨kX0_refuse, vX0_refuse, tj3 204 (by rfl) rfl⟩
theorem cX0_63 : MVL RX0 63 mX0_hold 0 := ⟨kX0_hold, vX0_hold, tj3 200 (by rfl) rfl⟩
theorem cX0_66 : MVL RX0 66 mX0_emit 0 := ⟨kX0_emit, vX0_emit, tj3 188 (by rfl) rfl⟩
theorem cX0_69 : MVL RX0 69 mX0_endFactor 0 := ⟨kX0_endFactor, vX0_endFactor, tj3 192 (by rfl) rfl⟩
theorem cX0_72 : MSL RX0 72 mX0_rankOf := ⟨kX0_rankOf, sX0_rankOf, tj3 212 (by rfl) rfl⟩
theorem cX0_75 : MSL RX0 75 mJ9_max_7cf53 := ⟨kJ9_max_7cf53, sJ9_max_7cf53, tj3 215 (by rfl) rfl⟩
theorem cX0_80 : MVL RX0 80 mX0_lastWaiting 0 := ⟨kX0_lastWaiting, vX0_lastWaiting, tj3 196 (by rfl) rfl⟩
theorem fX0_26 : FLk RX0 26 0 6 := ⟨_, _, _, rfl, by decide, tj1 144 (by rfl) rfl⟩
theorem fX0_23 : FLk RX0 23 0 4 := ⟨_, _, _, rfl, by decide, tj1 142 (by rfl) rfl⟩
theorem fX0_83 : FLk RX0 83 6 3 := ⟨_, _, _, rfl, by decide, tj1 76 (by rfl) rfl⟩
theorem fX0_86 : FLk RX0 86 6 1 := ⟨_, _, _, rfl, by decide, tj1 67 (by rfl) rfl⟩
theorem fX0_34 : FLk RX0 34 0 9 := ⟨_, _, _, rfl, by decide, tj1 147 (by rfl) rfl⟩
theorem cX0_89 : MVL RX0 89 mX6_spreadWord 6 := ⟨kX6_spreadWord, vX6_spreadWord, tj3 224 (by rfl) rfl⟩
theorem cX0_93 : MVL RX0 93 mX0_valueForCells 0 := ⟨kX0_valueForCells, vX0_valueForCells, tj3 225 (by rfl) rfl⟩
theorem fX0_96 : FLk RX0 96 6 0 := ⟨_, _, _, rfl, by decide, tj1 61 (by rfl) rfl⟩
theorem cX0_99 : MSL RX0 99 mJ9_floorMod_7cf53 := ⟨kJ9_floorMod_7cf53, sJ9_floorMod_7cf53, tj3 234 (by rfl) rfl⟩
theorem fX0_29 : FLk RX0 29 0 8 := ⟨_, _, _, rfl, by decide, tj1 146 (by rfl) rfl⟩
theorem cX0_102 : MVL RX0 102 mX0_combine 0 := ⟨kX0_combine, vX0_combine, tj3 229 (by rfl) rfl⟩
theorem cX0_105 : MSL RX0 105 mJ9_min_7cf53 := ⟨kJ9_min_7cf53, sJ9_min_7cf53, tj3 233 (by rfl) rfl⟩
theorem fX1_11 : FLk RX1 11 1 2 := ⟨_, _, _, rfl, by decide, tj1 179 (by rfl) rfl⟩
theorem cX1_20 : MVL RX1 20 mX6_spreadWord 6 := ⟨kX6_spreadWord, vX6_spreadWord, tj4 26 (by rfl) rfl⟩
theorem fX1_24 : FLk RX1 24 6 1 := ⟨_, _, _, rfl, by decide, tj1 62 (by rfl) rfl⟩
theorem cX1_28 : MVL RX1 28 mX1_readLabels 1 := ⟨kX1_readLabels, vX1_readLabels, tj4 27 (by rfl) rfl⟩
theorem fX1_32 : FLk RX1 32 6 0 := ⟨_, _, _, rfl, by decide, tj1 58 (by rfl) rfl⟩
theorem fX1_35 : FLk RX1 35 6 4 := ⟨_, _, _, rfl, by decide, tj1 81 (by rfl) rfl⟩
theorem fX1_38 : FLk RX1 38 6 5 := ⟨_, _, _, rfl, by decide, tj1 86 (by rfl) rfl⟩
theorem cX1_41 : MVL RX1 41 mX6_countOfWords 6 := ⟨kX6_countOfWords, vX6_countOfWords, tj4 98 (by rfl) rfl⟩
theorem fX1_17 : FLk RX1 17 1 3 := ⟨_, _, _, rfl, by decide, tj1 180 (by rfl) rfl⟩
theorem cX1_45 : MSL RX1 45 mJ7_fill_fda19 := ⟨kJ7_fill_fda19, sJ7_fill_fda19, tj4 99 (by rfl) rfl⟩
theorem fX1_51 : FLk RX1 51 1 0 := ⟨_, _, _, rfl, by decide, tj1 175 (by rfl) rfl⟩
theorem fX1_54 : FLk RX1 54 1 1 := ⟨_, _, _, rfl, by decide, tj1 177 (by rfl) rfl⟩
theorem cX1_57 : MVL RX1 57 mX1_cyclicImageOf 1 := ⟨kX1_cyclicImageOf, vX1_cyclicImageOf, tj5 106 (by rfl) rfl⟩
theorem fX2_16 : FLk RX2 16 2 0 := ⟨_, _, _, rfl, by decide, tj2 28 (by rfl) rfl⟩
theorem fX2_20 : FLk RX2 20 2 1 := ⟨_, _, _, rfl, by decide, tj2 30 (by rfl) rfl⟩
theorem fX2_9 : FLk RX2 9 2 2 := ⟨_, _, _, rfl, by decide, tj2 32 (by rfl) rfl⟩
theorem cX2_23 : MSL RX2 23 mJ7_fill_53178 := ⟨kJ7_fill_53178, sJ7_fill_53178, tj6 101 (by rfl) rfl⟩
theorem fX2_29 : FLk RX2 29 6 1 := ⟨_, _, _, rfl, by decide, tj1 63 (by rfl) rfl⟩
theorem cX2_34 : MVL RX2 34 mX6_countOfWords 6 := ⟨kX6_countOfWords, vX6_countOfWords, tj6 102 (by rfl) rfl⟩
theorem cX2_38 : MVL RX2 38 mX2_lengthenWords 2 := ⟨kX2_lengthenWords, vX2_lengthenWords, tj6 103 (by rfl) rfl⟩
theorem cX2_42 : MVL RX2 42 mX2_commonPositions 2 := ⟨kX2_commonPositions, vX2_commonPositions, tj6 108 (by rfl) rfl⟩
theorem cX2_46 : MSL RX2 46 mJ6_numberOfTrailingZeros_0f7a4 := ⟨kJ6_numberOfTrailingZeros_0f7a4, sJ6_numberOfTrailingZeros_0f7a4, tj6 117 (by rfl) rfl⟩
theorem fX2_51 : FLk RX2 51 6 3 := ⟨_, _, _, rfl, by decide, tj1 74 (by rfl) rfl⟩
theorem cX2_54 : MVL RX2 54 mX6_withoutLastCell 6 := ⟨kX6_withoutLastCell, vX6_withoutLastCell, tj6 107 (by rfl) rfl⟩
theorem fX2_57 : FLk RX2 57 6 0 := ⟨_, _, _, rfl, by decide, tj1 56 (by rfl) rfl⟩
theorem fX2_60 : FLk RX2 60 6 4 := ⟨_, _, _, rfl, by decide, tj1 78 (by rfl) rfl⟩
theorem fX2_13 : FLk RX2 13 2 3 := ⟨_, _, _, rfl, by decide, tj2 33 (by rfl) rfl⟩
theorem cX2_63 : MSL RX2 63 mJ7_fill_fda19 := ⟨kJ7_fill_fda19, sJ7_fill_fda19, tj6 112 (by rfl) rfl⟩
theorem cX2_66 : MSL RX2 66 mX2_equalPositions := ⟨kX2_equalPositions, sX2_equalPositions, tj6 113 (by rfl) rfl⟩
theorem cX2_70 : MVL RX2 70 mX6_lastCell 6 := ⟨kX6_lastCell, vX6_lastCell, tj6 116 (by rfl) rfl⟩
theorem cX2_73 : MVL RX2 73 mX6_cellOf 6 := ⟨kX6_cellOf, vX6_cellOf, tj6 134 (by rfl) rfl⟩
theorem cX3_13 : MVL RX3 13 mX3_readSteps 3 := ⟨kX3_readSteps, vX3_readSteps, tj2 161 (by rfl) rfl⟩
theorem fX3_17 : FLk RX3 17 6 2 := ⟨_, _, _, rfl, by decide, tj1 68 (by rfl) rfl⟩
theorem cX3_23 : MSL RX3 23 mX3_placeOf := ⟨kX3_placeOf, sX3_placeOf, tj2 165 (by rfl) rfl⟩
theorem fX3_9 : FLk RX3 9 3 0 := ⟨_, _, _, rfl, by decide, tj2 17 (by rfl) rfl⟩
theorem cX3_27 : MSL RX3 27 mJ9_max_7cf53 := ⟨kJ9_max_7cf53, sJ9_max_7cf53, tj2 168 (by rfl) rfl⟩
theorem cX3_32 : MSL RX3 32 mJ9_min_7cf53 := ⟨kJ9_min_7cf53, sJ9_min_7cf53, tj2 171 (by rfl) rfl⟩
theorem fX3_35 : FLk RX3 35 6 0 := ⟨_, _, _, rfl, by decide, tj1 59 (by rfl) rfl⟩
theorem cX3_38 : MSL RX3 38 mX3_stepsFrom := ⟨kX3_stepsFrom, sX3_stepsFrom, tj2 174 (by rfl) rfl⟩
theorem fX3_42 : FLk RX3 42 6 4 := ⟨_, _, _, rfl, by decide, tj1 82 (by rfl) rfl⟩
theorem fX3_46 : FLk RX3 46 6 5 := ⟨_, _, _, rfl, by decide, tj1 87 (by rfl) rfl⟩
theorem fX4_22 : FLk RX4 22 4 2 := ⟨_, _, _, rfl, by decide, tj1 202 (by rfl) rfl⟩
theorem fX4_9 : FLk RX4 9 4 3 := ⟨_, _, _, rfl, by decide, tj1 203 (by rfl) rfl⟩
theorem cX4_26 : MVL RX4 26 mX6_spreadWord 6 := ⟨kX6_spreadWord, vX6_spreadWord, tj5 122 (by rfl) rfl⟩
theorem cX4_30 : MVL RX4 30 mX4_countToAnywhere 4 := ⟨kX4_countToAnywhere, vX4_countToAnywhere, tj5 148 (by rfl) rfl⟩
theorem fX4_19 : FLk RX4 19 4 4 := ⟨_, _, _, rfl, by decide, tj1 204 (by rfl) rfl⟩
theorem cX4_34 : MSL RX4 34 mX4_sumOf := ⟨kX4_sumOf, sX4_sumOf, tj5 152 (by rfl) rfl⟩
theorem cX4_38 : MVL RX4 38 mX4_countTo 4 := ⟨kX4_countTo, vX4_countTo, tj5 131 (by rfl) rfl⟩
theorem fX4_42 : FLk RX4 42 6 2 := ⟨_, _, _, rfl, by decide, tj1 72 (by rfl) rfl⟩
theorem cX4_45 : MVL RX4 45 mX4_countBetween 4 := ⟨kX4_countBetween, vX4_countBetween, tj5 127 (by rfl) rfl⟩
theorem cX4_49 : MVL RX4 49 mX4_walk 4 := ⟨kX4_walk, vX4_walk, tj5 168 (by rfl) rfl⟩
theorem cX4_52 : MSL RX4 52 mX4_withoutEnd := ⟨kX4_withoutEnd, sX4_withoutEnd, tj5 172 (by rfl) rfl⟩
theorem fX4_56 : FLk RX4 56 6 1 := ⟨_, _, _, rfl, by decide, tj1 66 (by rfl) rfl⟩
theorem cX4_59 : MVL RX4 59 mX6_withoutLastCell 6 := ⟨kX6_withoutLastCell, vX6_withoutLastCell, tj5 175 (by rfl) rfl⟩
theorem fX4_63 : FLk RX4 63 6 0 := ⟨_, _, _, rfl, by decide, tj1 60 (by rfl) rfl⟩
theorem cX4_66 : MVL RX4 66 mX4_waysBy 4 := ⟨kX4_waysBy, vX4_waysBy, tj5 140 (by rfl) rfl⟩
theorem fX4_69 : FLk RX4 69 6 5 := ⟨_, _, _, rfl, by decide, tj1 88 (by rfl) rfl⟩
theorem cX4_72 : MSL RX4 72 mJ7_fill_53178 := ⟨kJ7_fill_53178, sJ7_fill_53178, tj5 135 (by rfl) rfl⟩
theorem cX4_78 : MVL RX4 78 mX4_countBackwards 4 := ⟨kX4_countBackwards, vX4_countBackwards, tj5 136 (by rfl) rfl⟩
theorem fX4_81 : FLk RX4 81 6 4 := ⟨_, _, _, rfl, by decide, tj1 83 (by rfl) rfl⟩
theorem fX4_84 : FLk RX4 84 4 0 := ⟨_, _, _, rfl, by decide, tj1 198 (by rfl) rfl⟩
theorem fX4_87 : FLk RX4 87 4 1 := ⟨_, _, _, rfl, by decide, tj1 200 (by rfl) rfl⟩
theorem cX4_90 : MVL RX4 90 mX6_countOfWords 6 := ⟨kX6_countOfWords, vX6_countOfWords, tj5 223 (by rfl) rfl⟩
theorem cX4_93 : MVL RX4 93 mX4_stepForward 4 := ⟨kX4_stepForward, vX4_stepForward, tj5 224 (by rfl) rfl⟩
theorem cX4_96 : MSL RX4 96 mJ9_max_7cf53 := ⟨kJ9_max_7cf53, sJ9_max_7cf53, tj5 228 (by rfl) rfl⟩
theorem cX4_102 : MVL RX4 102 mX4_moveToNextWord 4 := ⟨kX4_moveToNextWord, vX4_moveToNextWord, tj5 229 (by rfl) rfl⟩
theorem cX4_105 : MSL RX4 105 mX4_stepAlongFixed := ⟨kX4_stepAlongFixed, sX4_stepAlongFixed, tj6 11 (by rfl) rfl⟩
theorem fX4_109 : FLk RX4 109 6 6 := ⟨_, _, _, rfl, by decide, tj1 91 (by rfl) rfl⟩
theorem fX5_9 : FLk RX5 9 5 0 := ⟨_, _, _, rfl, by decide, tj1 120 (by rfl) rfl⟩
theorem cX5_18 : MSL RX5 18 mJ7_fill_53178 := ⟨kJ7_fill_53178, sJ7_fill_53178, tj3 40 (by rfl) rfl⟩
theorem fX5_15 : FLk RX5 15 5 1 := ⟨_, _, _, rfl, by decide, tj1 122 (by rfl) rfl⟩
theorem fX6_29 : FLk RX6 29 6 0 := ⟨_, _, _, rfl, by decide, tj1 55 (by rfl) rfl⟩
theorem fX6_33 : FLk RX6 33 6 1 := ⟨_, _, _, rfl, by decide, tj1 64 (by rfl) rfl⟩
theorem cX6_36 : MVL RX6 36 mX6_countOfWords 6 := ⟨kX6_countOfWords, vX6_countOfWords, tj1 50 (by rfl) rfl⟩
theorem fX6_40 : FLk RX6 40 6 2 := ⟨_, _, _, rfl, by decide, tj1 70 (by rfl) rfl⟩
theorem fX6_43 : FLk RX6 43 6 3 := ⟨_, _, _, rfl, by decide, tj1 75 (by rfl) rfl⟩
theorem fX6_9 : FLk RX6 9 6 4 := ⟨_, _, _, rfl, by decide, tj1 77 (by rfl) rfl⟩
theorem fX6_13 : FLk RX6 13 6 5 := ⟨_, _, _, rfl, by decide, tj1 84 (by rfl) rfl⟩
theorem fX6_16 : FLk RX6 16 6 6 := ⟨_, _, _, rfl, by decide, tj1 90 (by rfl) rfl⟩
theorem cX6_25 : MVL RX6 25 mX6_resize 6 := ⟨kX6_resize, vX6_resize, tj1 46 (by rfl) rfl⟩
theorem cX6_56 : MVL RX6 56 mX6_withoutLastCell 6 := ⟨kX6_withoutLastCell, vX6_withoutLastCell, tj2 107 (by rfl) rfl⟩
theorem cX6_59 : MVL RX6 59 mX6_lastCell 6 := ⟨kX6_lastCell, vX6_lastCell, tj2 103 (by rfl) rfl⟩
theorem fX6_19 : FLk RX6 19 6 7 := ⟨_, _, _, rfl, by decide, tj1 92 (by rfl) rfl⟩
theorem cX6_62 : MVL RX6 62 mX6_spreadWord 6 := ⟨kX6_spreadWord, vX6_spreadWord, tj2 99 (by rfl) rfl⟩
theorem cX6_66 : MVL RX6 66 mX6_areDifferent 6 := ⟨kX6_areDifferent, vX6_areDifferent, tj6 72 (by rfl) rfl⟩
theorem fX6_22 : FLk RX6 22 6 8 := ⟨_, _, _, rfl, by decide, tj1 93 (by rfl) rfl⟩
theorem cX6_70 : MSL RX6 70 mJ7_fill_53178 := ⟨kJ7_fill_53178, sJ7_fill_53178, tj6 84 (by rfl) rfl⟩
theorem cX7_40 : MVL RX7 40 mX7_readSingle 7 := ⟨kX7_readSingle, vX7_readSingle, tj2 138 (by rfl) rfl⟩
theorem fX7_17 : FLk RX7 17 7 2 := ⟨_, _, _, rfl, by decide, tj1 225 (by rfl) rfl⟩
theorem cX7_44 : MSL RX7 44 mJ7_fill_53178 := ⟨kJ7_fill_53178, sJ7_fill_53178, tj2 142 (by rfl) rfl⟩
theorem fX7_7 : FLk RX7 7 7 0 := ⟨_, _, _, rfl, by decide, tj1 222 (by rfl) rfl⟩
theorem fX7_50 : FLk RX7 50 6 2 := ⟨_, _, _, rfl, by decide, tj1 69 (by rfl) rfl⟩
theorem cX7_53 : MVL RX7 53 mX7_placeOf 7 := ⟨kX7_placeOf, vX7_placeOf, tj2 145 (by rfl) rfl⟩
theorem fX7_57 : FLk RX7 57 6 0 := ⟨_, _, _, rfl, by decide, tj1 54 (by rfl) rfl⟩
theorem fX7_13 : FLk RX7 13 7 1 := ⟨_, _, _, rfl, by decide, tj1 224 (by rfl) rfl⟩
theorem cX7_60 : MVL RX7 60 mX7_successors 7 := ⟨kX7_successors, vX7_successors, tj2 149 (by rfl) rfl⟩
theorem fX7_28 : FLk RX7 28 7 5 := ⟨_, _, _, rfl, by decide, tj1 228 (by rfl) rfl⟩
theorem fX7_20 : FLk RX7 20 7 3 := ⟨_, _, _, rfl, by decide, tj1 226 (by rfl) rfl⟩
theorem fX7_23 : FLk RX7 23 7 4 := ⟨_, _, _, rfl, by decide, tj1 227 (by rfl) rfl⟩
theorem fX7_31 : FLk RX7 31 7 6 := ⟨_, _, _, rfl, by decide, tj1 229 (by rfl) rfl⟩
theorem fX7_64 : FLk RX7 64 6 4 := ⟨_, _, _, rfl, by decide, tj1 79 (by rfl) rfl⟩
theorem fX7_67 : FLk RX7 67 6 5 := ⟨_, _, _, rfl, by decide, tj1 85 (by rfl) rfl⟩
theorem cX7_70 : MVL RX7 70 mX7_isWithoutOrphans 7 := ⟨kX7_isWithoutOrphans, vX7_isWithoutOrphans, tj6 33 (by rfl) rfl⟩
theorem fX7_34 : FLk RX7 34 7 7 := ⟨_, _, _, rfl, by decide, tj1 230 (by rfl) rfl⟩
theorem cX7_74 : MVL RX7 74 mX7_countNext 7 := ⟨kX7_countNext, vX7_countNext, tj6 37 (by rfl) rfl⟩
theorem fX7_37 : FLk RX7 37 7 8 := ⟨_, _, _, rfl, by decide, tj1 231 (by rfl) rfl⟩
theorem cX7_77 : MSL RX7 77 mJ7_fill_fda19 := ⟨kJ7_fill_fda19, sJ7_fill_fda19, tj6 41 (by rfl) rfl⟩
theorem cX8_82 : MSL RX8 82 mX6_exists := ⟨kX6_exists, sX6_exists, tj2 201 (by rfl) rfl⟩
theorem fX8_10 : FLk RX8 10 8 0 := ⟨_, _, _, rfl, by decide, tj2 43 (by rfl) rfl⟩
theorem cX8_93 : MVL RX8 93 mX6_resize 6 := ⟨kX6_resize, vX6_resize, tj3 35 (by rfl) rfl⟩
theorem fX8_22 : FLk RX8 22 8 2 := ⟨_, _, _, rfl, by decide, tj2 45 (by rfl) rfl⟩
theorem cX8_97 : MVL RX8 97 mX5_empty 5 := ⟨kX5_empty, vX5_empty, tj3 36 (by rfl) rfl⟩
theorem fX8_100 : FLk RX8 100 6 3 := ⟨_, _, _, rfl, by decide, tj1 73 (by rfl) rfl⟩
theorem fX8_104 : FLk RX8 104 6 0 := ⟨_, _, _, rfl, by decide, tj1 57 (by rfl) rfl⟩
theorem fX8_107 : FLk RX8 107 6 1 := ⟨_, _, _, rfl, by decide, tj1 65 (by rfl) rfl⟩
theorem fX8_110 : FLk RX8 110 6 2 := ⟨_, _, _, rfl, by decide, tj1 71 (by rfl) rfl⟩
theorem cX8_118 : MVL RX8 118 mX8_needNeighborhood 8 := ⟨kX8_needNeighborhood, vX8_needNeighborhood, tj3 92 (by rfl) rfl⟩
theorem fX8_124 : FLk RX8 124 6 4 := ⟨_, _, _, rfl, by decide, tj1 80 (by rfl) rfl⟩
theorem cX8_127 : MVL RX8 127 mX6_countOfRules 6 := ⟨kX6_countOfRules, vX6_countOfRules, tj3 112 (by rfl) rfl⟩
theorem fX8_75 : FLk RX8 75 8 11 := ⟨_, _, _, rfl, by decide, tj2 54 (by rfl) rfl⟩
theorem cX8_133 : MVL RX8 133 mX6_spreadNumber 6 := ⟨kX6_spreadNumber, vX6_spreadNumber, tj3 117 (by rfl) rfl⟩
theorem cX8_137 : MVL RX8 137 mX6_takeTable 6 := ⟨kX6_takeTable, vX6_takeTable, tj2 111 (by rfl) rfl⟩
theorem cX8_141 : MVL RX8 141 mX6_numberOf 6 := ⟨kX6_numberOf, vX6_numberOf, tj2 87 (by rfl) rfl⟩
theorem cX8_145 : MSL RX8 145 mX8_byteAt := ⟨kX8_byteAt, sX8_byteAt, tj3 131 (by rfl) rfl⟩
theorem fX8_36 : FLk RX8 36 8 5 := ⟨_, _, _, rfl, by decide, tj2 48 (by rfl) rfl⟩
theorem fX8_151 : FLk RX8 151 0 0 := ⟨_, _, _, rfl, by decide, tj1 136 (by rfl) rfl⟩
theorem cX8_159 : MVL RX8 159 mX0_add 0 := ⟨kX0_add, vX0_add, tj3 151 (by rfl) rfl⟩
theorem cX8_162 : MVL RX8 162 mX0_read 0 := ⟨kX0_read, vX0_read, tj3 176 (by rfl) rfl⟩
theorem fX8_165 : FLk RX8 165 0 1 := ⟨_, _, _, rfl, by decide, tj1 138 (by rfl) rfl⟩
theorem cX8_168 : MVL RX8 168 mX0_evaluate 0 := ⟨kX0_evaluate, vX0_evaluate, tj3 220 (by rfl) rfl⟩
theorem cX8_179 : MSL RX8 179 mX8_needBit := ⟨kX8_needBit, sX8_needBit, tj4 8 (by rfl) rfl⟩
theorem fX8_182 : FLk RX8 182 0 2 := ⟨_, _, _, rfl, by decide, tj1 140 (by rfl) rfl⟩
theorem cX8_185 : MVL RX8 185 mX6_mirrorTable 6 := ⟨kX6_mirrorTable, vX6_mirrorTable, tj2 95 (by rfl) rfl⟩
theorem cX8_189 : MVL RX8 189 mX6_complementTable 6 := ⟨kX6_complementTable, vX6_complementTable, tj2 119 (by rfl) rfl⟩
theorem cX8_192 : MSL RX8 192 mJ9_min_f86c9 := ⟨kJ9_min_f86c9, sJ9_min_f86c9, tj2 127 (by rfl) rfl⟩
theorem fX8_79 : FLk RX8 79 8 12 := ⟨_, _, _, rfl, by decide, tj2 55 (by rfl) rfl⟩
theorem fX8_29 : FLk RX8 29 8 4 := ⟨_, _, _, rfl, by decide, tj2 47 (by rfl) rfl⟩
theorem fX8_16 : FLk RX8 16 8 1 := ⟨_, _, _, rfl, by decide, tj2 44 (by rfl) rfl⟩
theorem cX8_202 : MVL RX8 202 mX6_countOfWords 6 := ⟨kX6_countOfWords, vX6_countOfWords, tj4 21 (by rfl) rfl⟩
theorem fX8_43 : FLk RX8 43 8 6 := ⟨_, _, _, rfl, by decide, tj2 49 (by rfl) rfl⟩
theorem cX8_206 : MVL RX8 206 mX1_imageOf 1 := ⟨kX1_imageOf, vX1_imageOf, tj4 22 (by rfl) rfl⟩
theorem cX8_210 : MSL RX8 210 mX8_needRegister := ⟨kX8_needRegister, sX8_needRegister, tj4 38 (by rfl) rfl⟩
theorem fX8_217 : FLk RX8 217 5 0 := ⟨_, _, _, rfl, by decide, tj1 121 (by rfl) rfl⟩
theorem cX8_220 : MVL RX8 220 mX5_put 5 := ⟨kX5_put, vX5_put, tj4 44 (by rfl) rfl⟩
theorem fX8_224 : FLk RX8 224 5 1 := ⟨_, _, _, rfl, by decide, tj1 123 (by rfl) rfl⟩
theorem cX8_229 : MVL RX8 229 mX6_cellOf 6 := ⟨kX6_cellOf, vX6_cellOf, tj4 70 (by rfl) rfl⟩
theorem cX8_235 : MVL RX8 235 mX1_cyclicImageOf 1 := ⟨kX1_cyclicImageOf, vX1_cyclicImageOf, tj4 82 (by rfl) rfl⟩
theorem cX8_240 : MVL RX8 240 mX1_follow 1 := ⟨kX1_follow, vX1_follow, tj4 94 (by rfl) rfl⟩
theorem fX8_244 : FLk RX8 244 1 0 := ⟨_, _, _, rfl, by decide, tj1 176 (by rfl) rfl⟩
theorem fX8_247 : FLk RX8 247 1 1 := ⟨_, _, _, rfl, by decide, tj1 178 (by rfl) rfl⟩
theorem cX8_250 : MVL RX8 250 mX8_takeLabels 8 := ⟨kX8_takeLabels, vX8_takeLabels, tj5 114 (by rfl) rfl⟩
theorem fX8_50 : FLk RX8 50 8 7 := ⟨_, _, _, rfl, by decide, tj2 50 (by rfl) rfl⟩
theorem cX8_253 : MVL RX8 253 mX4_countClosed 4 := ⟨kX4_countClosed, vX4_countClosed, tj5 123 (by rfl) rfl⟩
theorem cX8_257 : MVL RX8 257 mX4_countAll 4 := ⟨kX4_countAll, vX4_countAll, tj5 144 (by rfl) rfl⟩
theorem cX8_262 : MVL RX8 262 mX4_closedWord 4 := ⟨kX4_closedWord, vX4_closedWord, tj5 164 (by rfl) rfl⟩
theorem cX8_266 : MVL RX8 266 mX4_openWord 4 := ⟨kX4_openWord, vX4_openWord, tj5 176 (by rfl) rfl⟩
theorem cX8_274 : MVL RX8 274 mX8_needNode 8 := ⟨kX8_needNode, vX8_needNode, tj5 203 (by rfl) rfl⟩
theorem cX8_277 : MVL RX8 277 mX4_countBetween 4 := ⟨kX4_countBetween, vX4_countBetween, tj5 208 (by rfl) rfl⟩
theorem cX8_280 : MSL RX8 280 mX8_needLength := ⟨kX8_needLength, sX8_needLength, tj5 216 (by rfl) rfl⟩
theorem cX8_283 : MVL RX8 283 mX4_surveyWords 4 := ⟨kX4_surveyWords, vX4_surveyWords, tj5 219 (by rfl) rfl⟩
theorem fX8_286 : FLk RX8 286 4 0 := ⟨_, _, _, rfl, by decide, tj1 199 (by rfl) rfl⟩
theorem fX8_289 : FLk RX8 289 4 1 := ⟨_, _, _, rfl, by decide, tj1 201 (by rfl) rfl⟩
theorem cX8_292 : MVL RX8 292 mX4_countFixed 4 := ⟨kX4_countFixed, vX4_countFixed, tj6 7 (by rfl) rfl⟩
theorem fX8_297 : FLk RX8 297 6 5 := ⟨_, _, _, rfl, by decide, tj1 89 (by rfl) rfl⟩
theorem fX8_57 : FLk RX8 57 8 8 := ⟨_, _, _, rfl, by decide, tj2 51 (by rfl) rfl⟩
theorem cX8_300 : MVL RX8 300 mX7_explore 7 := ⟨kX7_explore, vX7_explore, tj2 134 (by rfl) rfl⟩
theorem fX8_304 : FLk RX8 304 7 0 := ⟨_, _, _, rfl, by decide, tj1 223 (by rfl) rfl⟩
theorem cX8_307 : MVL RX8 307 mX7_countOrphans 7 := ⟨kX7_countOrphans, vX7_countOrphans, tj6 29 (by rfl) rfl⟩
theorem cX8_310 : MVL RX8 310 mX7_isWithoutOrphans 7 := ⟨kX7_isWithoutOrphans, vX7_isWithoutOrphans, tj6 50 (by rfl) rfl⟩
theorem cX8_316 : MVL RX8 316 mX7_orphanLength 7 := ⟨kX7_orphanLength, vX7_orphanLength, tj6 52 (by rfl) rfl⟩
theorem cX8_322 : MVL RX8 322 mX7_orphanIndex 7 := ⟨kX7_orphanIndex, vX7_orphanIndex, tj6 57 (by rfl) rfl⟩
theorem fX8_64 : FLk RX8 64 8 9 := ⟨_, _, _, rfl, by decide, tj2 52 (by rfl) rfl⟩
theorem cX8_325 : MVL RX8 325 mX3_countOnCycles 3 := ⟨kX3_countOnCycles, vX3_countOnCycles, tj2 157 (by rfl) rfl⟩
theorem cX8_328 : MVL RX8 328 mX6_isLeftPermutive 6 := ⟨kX6_isLeftPermutive, vX6_isLeftPermutive, tj6 68 (by rfl) rfl⟩
theorem cX8_331 : MVL RX8 331 mX6_isRightPermutive 6 := ⟨kX6_isRightPermutive, vX6_isRightPermutive, tj6 76 (by rfl) rfl⟩
theorem cX8_334 : MVL RX8 334 mX6_isBalanced 6 := ⟨kX6_isBalanced, vX6_isBalanced, tj6 80 (by rfl) rfl⟩
theorem cX8_339 : MVL RX8 339 mX8_needInverse 8 := ⟨kX8_needInverse, vX8_needInverse, tj6 93 (by rfl) rfl⟩
theorem fX8_71 : FLk RX8 71 8 10 := ⟨_, _, _, rfl, by decide, tj2 53 (by rfl) rfl⟩
theorem fX8_342 : FLk RX8 342 2 0 := ⟨_, _, _, rfl, by decide, tj2 29 (by rfl) rfl⟩
theorem fX8_343 : FLk RX8 343 2 1 := ⟨_, _, _, rfl, by decide, tj2 31 (by rfl) rfl⟩
theorem cX8_348 : MVL RX8 348 mX2_stateFor 2 := ⟨kX2_stateFor, vX2_stateFor, tj6 130 (by rfl) rfl⟩
theorem cX8_351 : MVL RX8 351 mX6_copyFrom 6 := ⟨kX6_copyFrom, vX6_copyFrom, tj2 181 (by rfl) rfl⟩
theorem fX8_26 : FLk RX8 26 8 3 := ⟨_, _, _, rfl, by decide, tj2 46 (by rfl) rfl⟩
theorem cX8_354 : MVL RX8 354 mX5_copyFrom 5 := ⟨kX5_copyFrom, vX5_copyFrom, tj2 188 (by rfl) rfl⟩
theorem cX8_367 : MVL RX8 367 mX2_run 2 := ⟨kX2_run, vX2_run, tj6 97 (by rfl) rfl⟩
theorem cX8_372 : MVL RX8 372 mX4_takeLabels 4 := ⟨kX4_takeLabels, vX4_takeLabels, tj5 118 (by rfl) rfl⟩
theorem fX9_96 : FLk RX9 96 9 0 := ⟨_, _, _, rfl, by decide, tj6 149 (by rfl) rfl⟩
theorem fX9_7 : FLk RX9 7 9 1 := ⟨_, _, _, rfl, by decide, tj6 150 (by rfl) rfl⟩
theorem fX9_13 : FLk RX9 13 9 2 := ⟨_, _, _, rfl, by decide, tj6 151 (by rfl) rfl⟩
theorem cX9_99 : MVL RX9 99 mX9_power 9 := ⟨kX9_power, vX9_power, tj7 59 (by rfl) rfl⟩
theorem cX9_103 : MSL RX9 103 mX9_isIn := ⟨kX9_isIn, sX9_isIn, tj7 48 (by rfl) rfl⟩
theorem cX9_107 : MSL RX9 107 mX9_isSize := ⟨kX9_isSize, sX9_isSize, tj7 45 (by rfl) rfl⟩
theorem cX9_111 : MVL RX9 111 mX9_no 9 := ⟨kX9_no, vX9_no, tj7 51 (by rfl) rfl⟩
theorem fX9_16 : FLk RX9 16 9 3 := ⟨_, _, _, rfl, by decide, tj6 152 (by rfl) rfl⟩
theorem fX9_20 : FLk RX9 20 9 4 := ⟨_, _, _, rfl, by decide, tj6 153 (by rfl) rfl⟩
theorem fX9_23 : FLk RX9 23 9 5 := ⟨_, _, _, rfl, by decide, tj6 154 (by rfl) rfl⟩
theorem cX9_114 : MVL RX9 114 mX9_all 9 := ⟨kX9_all, vX9_all, tj7 55 (by rfl) rfl⟩
theorem cX9_118 : MVL RX9 118 mX9_nodes 9 := ⟨kX9_nodes, vX9_nodes, tj7 67 (by rfl) rfl⟩
theorem fX9_41 : FLk RX9 41 9 15 := ⟨_, _, _, rfl, by decide, tj6 164 (by rfl) rfl⟩
theorem cX9_121 : MVL RX9 121 mX9_becomes 9 := ⟨kX9_becomes, vX9_becomes, tj7 83 (by rfl) rfl⟩
theorem cX9_124 : MVL RX9 124 mX9_numberOf 9 := ⟨kX9_numberOf, vX9_numberOf, tj7 91 (by rfl) rfl⟩
theorem cX9_128 : MVL RX9 128 mX9_turned 9 := ⟨kX9_turned, vX9_turned, tj7 103 (by rfl) rfl⟩
theorem cX9_132 : MVL RX9 132 mX9_mirrors 9 := ⟨kX9_mirrors, vX9_mirrors, tj7 99 (by rfl) rfl⟩
theorem cX9_136 : MVL RX9 136 mX9_complements 9 := ⟨kX9_complements, vX9_complements, tj7 111 (by rfl) rfl⟩
theorem fX9_44 : FLk RX9 44 9 16 := ⟨_, _, _, rfl, by decide, tj6 165 (by rfl) rfl⟩
theorem fX9_139 : FLk RX9 139 9 7 := ⟨_, _, _, rfl, by decide, tj6 156 (by rfl) rfl⟩
theorem fX9_142 : FLk RX9 142 9 6 := ⟨_, _, _, rfl, by decide, tj6 155 (by rfl) rfl⟩
theorem fX9_26 : FLk RX9 26 9 8 := ⟨_, _, _, rfl, by decide, tj6 157 (by rfl) rfl⟩
theorem cX9_145 : MVL RX9 145 mX9_imageOf 9 := ⟨kX9_imageOf, vX9_imageOf, tj7 123 (by rfl) rfl⟩
theorem fX9_149 : FLk RX9 149 9 12 := ⟨_, _, _, rfl, by decide, tj6 161 (by rfl) rfl⟩
theorem fX9_35 : FLk RX9 35 9 11 := ⟨_, _, _, rfl, by decide, tj6 160 (by rfl) rfl⟩
theorem fX9_152 : FLk RX9 152 9 21 := ⟨_, _, _, rfl, by decide, tj6 170 (by rfl) rfl⟩
theorem fX9_47 : FLk RX9 47 9 17 := ⟨_, _, _, rfl, by decide, tj6 166 (by rfl) rfl⟩
theorem fX9_155 : FLk RX9 155 9 19 := ⟨_, _, _, rfl, by decide, tj6 168 (by rfl) rfl⟩
theorem fX9_158 : FLk RX9 158 9 20 := ⟨_, _, _, rfl, by decide, tj6 169 (by rfl) rfl⟩
theorem fX9_50 : FLk RX9 50 9 18 := ⟨_, _, _, rfl, by decide, tj6 167 (by rfl) rfl⟩
theorem cX9_161 : MVL RX9 161 mX9_top 9 := ⟨kX9_top, vX9_top, tj7 143 (by rfl) rfl⟩
theorem cX9_164 : MSL RX9 164 mX9_rank := ⟨kX9_rank, sX9_rank, tj7 147 (by rfl) rfl⟩
theorem cX9_167 : MVL RX9 167 mX9_emits 9 := ⟨kX9_emits, vX9_emits, tj7 150 (by rfl) rfl⟩
theorem fX9_171 : FLk RX9 171 9 13 := ⟨_, _, _, rfl, by decide, tj6 162 (by rfl) rfl⟩
theorem fX9_38 : FLk RX9 38 9 14 := ⟨_, _, _, rfl, by decide, tj6 163 (by rfl) rfl⟩
theorem cX9_174 : MVL RX9 174 mX9_fails 9 := ⟨kX9_fails, vX9_fails, tj7 154 (by rfl) rfl⟩
theorem cX9_178 : MVL RX9 178 mX9_here 9 := ⟨kX9_here, vX9_here, tj7 162 (by rfl) rfl⟩
theorem fX9_181 : FLk RX9 181 9 22 := ⟨_, _, _, rfl, by decide, tj6 171 (by rfl) rfl⟩
theorem cX9_185 : MVL RX9 185 mX9_lets 9 := ⟨kX9_lets, vX9_lets, tj7 139 (by rfl) rfl⟩
theorem cX9_188 : MVL RX9 188 mX9_waitsFor 9 := ⟨kX9_waitsFor, vX9_waitsFor, tj7 166 (by rfl) rfl⟩
theorem cX9_191 : MVL RX9 191 mX9_isWrong 9 := ⟨kX9_isWrong, vX9_isWrong, tj7 170 (by rfl) rfl⟩
theorem cX9_195 : MVL RX9 195 mX9_isBegun 9 := ⟨kX9_isBegun, vX9_isBegun, tj7 158 (by rfl) rfl⟩
theorem cX9_198 : MVL RX9 198 mX9_isGone 9 := ⟨kX9_isGone, vX9_isGone, tj7 174 (by rfl) rfl⟩
theorem fX9_201 : FLk RX9 201 9 24 := ⟨_, _, _, rfl, by decide, tj6 173 (by rfl) rfl⟩
theorem fX9_53 : FLk RX9 53 9 23 := ⟨_, _, _, rfl, by decide, tj6 172 (by rfl) rfl⟩
theorem cX9_204 : MVL RX9 204 mX9_isFormula 9 := ⟨kX9_isFormula, vX9_isFormula, tj7 135 (by rfl) rfl⟩
theorem cX9_207 : MVL RX9 207 mX9_value 9 := ⟨kX9_value, vX9_value, tj7 178 (by rfl) rfl⟩
theorem cX9_210 : MSL RX9 210 mX9_isRegister := ⟨kX9_isRegister, sX9_isRegister, tj7 194 (by rfl) rfl⟩
theorem cX9_213 : MVL RX9 213 mX9_isOne 9 := ⟨kX9_isOne, vX9_isOne, tj7 190 (by rfl) rfl⟩
theorem cX9_216 : MVL RX9 216 mX9_cellOf 9 := ⟨kX9_cellOf, vX9_cellOf, tj7 209 (by rfl) rfl⟩
theorem cX9_219 : MVL RX9 219 mX9_cyclicImage 9 := ⟨kX9_cyclicImage, vX9_cyclicImage, tj7 217 (by rfl) rfl⟩
theorem fX9_56 : FLk RX9 56 9 25 := ⟨_, _, _, rfl, by decide, tj6 174 (by rfl) rfl⟩
theorem fX9_59 : FLk RX9 59 9 26 := ⟨_, _, _, rfl, by decide, tj6 175 (by rfl) rfl⟩
theorem cX9_222 : MVL RX9 222 mX9_label 9 := ⟨kX9_label, vX9_label, tj7 237 (by rfl) rfl⟩
theorem cX9_225 : MVL RX9 225 mX9_goal 9 := ⟨kX9_goal, vX9_goal, tj8 1 (by rfl) rfl⟩
theorem cX9_228 : MVL RX9 228 mX9_findsWays 9 := ⟨kX9_findsWays, vX9_findsWays, tj7 233 (by rfl) rfl⟩
theorem cX9_232 : MVL RX9 232 mX9_count 9 := ⟨kX9_count, vX9_count, tj7 229 (by rfl) rfl⟩
theorem cX9_236 : MVL RX9 236 mX9_shortOne 9 := ⟨kX9_shortOne, vX9_shortOne, tj8 9 (by rfl) rfl⟩
theorem cX9_239 : MVL RX9 239 mX9_longOne 9 := ⟨kX9_longOne, vX9_longOne, tj8 13 (by rfl) rfl⟩
theorem fX9_62 : FLk RX9 62 9 27 := ⟨_, _, _, rfl, by decide, tj6 176 (by rfl) rfl⟩
theorem fX9_65 : FLk RX9 65 9 28 := ⟨_, _, _, rfl, by decide, tj6 177 (by rfl) rfl⟩
theorem cX9_243 : MVL RX9 243 mX9_preimages 9 := ⟨kX9_preimages, vX9_preimages, tj8 25 (by rfl) rfl⟩
theorem fX9_80 : FLk RX9 80 9 33 := ⟨_, _, _, rfl, by decide, tj6 182 (by rfl) rfl⟩
theorem fX9_68 : FLk RX9 68 9 29 := ⟨_, _, _, rfl, by decide, tj6 178 (by rfl) rfl⟩
theorem fX9_246 : FLk RX9 246 9 34 := ⟨_, _, _, rfl, by decide, tj6 183 (by rfl) rfl⟩
theorem fX9_71 : FLk RX9 71 9 30 := ⟨_, _, _, rfl, by decide, tj6 179 (by rfl) rfl⟩
theorem fX9_74 : FLk RX9 74 9 31 := ⟨_, _, _, rfl, by decide, tj6 180 (by rfl) rfl⟩
theorem fX9_77 : FLk RX9 77 9 32 := ⟨_, _, _, rfl, by decide, tj6 181 (by rfl) rfl⟩
theorem fX9_249 : FLk RX9 249 9 35 := ⟨_, _, _, rfl, by decide, tj6 184 (by rfl) rfl⟩
theorem cX9_252 : MVL RX9 252 mX9_reaches 9 := ⟨kX9_reaches, vX9_reaches, tj8 49 (by rfl) rfl⟩
theorem cX9_256 : MVL RX9 256 mX9_successors 9 := ⟨kX9_successors, vX9_successors, tj8 53 (by rfl) rfl⟩
theorem cX9_259 : MVL RX9 259 mX9_findsSets 9 := ⟨kX9_findsSets, vX9_findsSets, tj8 45 (by rfl) rfl⟩
theorem fX9_84 : FLk RX9 84 9 36 := ⟨_, _, _, rfl, by decide, tj6 185 (by rfl) rfl⟩
theorem fX9_87 : FLk RX9 87 9 37 := ⟨_, _, _, rfl, by decide, tj6 186 (by rfl) rfl⟩
theorem fX9_90 : FLk RX9 90 9 38 := ⟨_, _, _, rfl, by decide, tj6 187 (by rfl) rfl⟩
theorem cX9_262 : MVL RX9 262 mX9_pairs 9 := ⟨kX9_pairs, vX9_pairs, tj8 69 (by rfl) rfl⟩
theorem cX9_265 : MVL RX9 265 mX9_isPermutive 9 := ⟨kX9_isPermutive, vX9_isPermutive, tj8 77 (by rfl) rfl⟩
theorem cX9_268 : MVL RX9 268 mX9_isBalanced 9 := ⟨kX9_isBalanced, vX9_isBalanced, tj8 81 (by rfl) rfl⟩
theorem cX9_271 : MVL RX9 271 mX9_isMade 9 := ⟨kX9_isMade, vX9_isMade, tj8 85 (by rfl) rfl⟩
theorem fX9_93 : FLk RX9 93 9 39 := ⟨_, _, _, rfl, by decide, tj6 188 (by rfl) rfl⟩
theorem cX9_274 : MVL RX9 274 mX9_isInverse 9 := ⟨kX9_isInverse, vX9_isInverse, tj8 97 (by rfl) rfl⟩
theorem fX9_277 : FLk RX9 277 9 40 := ⟨_, _, _, rfl, by decide, tj6 189 (by rfl) rfl⟩
theorem fX9_280 : FLk RX9 280 9 41 := ⟨_, _, _, rfl, by decide, tj6 190 (by rfl) rfl⟩
theorem cX9_283 : MVL RX9 283 mX9_hasInverse 9 := ⟨kX9_hasInverse, vX9_hasInverse, tj8 93 (by rfl) rfl⟩
theorem cX9_286 : MSL RX9 286 mX9_copies := ⟨kX9_copies, sX9_copies, tj8 109 (by rfl) rfl⟩
theorem fX9_29 : FLk RX9 29 9 9 := ⟨_, _, _, rfl, by decide, tj6 158 (by rfl) rfl⟩
theorem fX9_32 : FLk RX9 32 9 10 := ⟨_, _, _, rfl, by decide, tj6 159 (by rfl) rfl⟩
end
section
/-! ===== Rule: words ===== -/
abbrev RO (r k wd n m : Nat) : PE := ob 6 [.int (nI k), .int (nI wd), .int (nI n), .int (nI m), .ref (r + 1), .ref (r + 2), .ref (r + 3), .ref (r + 4), .ref (r + 5)]
theorem k_countOfWords {w : Wt} {h : Hp} {r k wd n m len : Nat} (hr : h r = RO r k wd n m) (hl : len < 2 ^ 31) : ConN mX6_countOfWords 0 (0, 0) w [.ref r, .int (nI len)] h (.inl (some (.int (nI (k ^ len))))) (fun h' => h' = h) := by
  refine conI (by decide +kernel) ⟨fun _ => rfl, rfl, by simp⟩ (fun X C => ?_)
  change V X (0, 0) w h 0 [some (.ref r), some (.int (nI len)), none, none] []
  refine v_iconst C (oX6_countOfWords.at 0 rfl) (v := nI 1) rfl ?_
  refine v_istore_n C (oX6_countOfWords.at 1 rfl) rfl ?_
  refine v_iconst C (oX6_countOfWords.at 2 rfl) (v := nI 0) rfl ?_
  refine v_istore_n C (oX6_countOfWords.at 3 rfl) rfl ?_
  dsimp only [sto1, sto2, killL]
  suffices H : ∀ j i, i + j = len → V X (0, 0) w h 4 [some (.ref r), some (.int (nI len)), some (.int (nI (k ^ i))), some (.int (nI i))] [] from H len 0 (by omega)
  intro j
  induction j with
  | zero =>
    intro i hi
    refine v_iload_n C (oX6_countOfWords.at 4 rfl) rfl ?_
    refine v_iload_n C (oX6_countOfWords.at 5 rfl) rfl ?_
    refine v_icmp_geN C (oX6_countOfWords.at 6 rfl) (tgt := 22) (by decide) (by omega) (by omega) (fun hc => ?_) (fun hc => ?_)
    · have e : i = len := by omega
      subst e
      refine v_iload_n C (oX6_countOfWords.at 14 rfl) rfl ?_
      exact v_iret C (oX6_countOfWords.at 15 rfl) rfl rfl ⟨Nat.le_refl _, Nat.le_refl _⟩ ⟨rfl, rfl⟩
    · exact absurd hc (by omega)
  | succ j ih =>
    intro i hi
    refine v_iload_n C (oX6_countOfWords.at 4 rfl) rfl ?_
    refine v_iload_n C (oX6_countOfWords.at 5 rfl) rfl ?_
    refine v_icmp_geN C (oX6_countOfWords.at 6 rfl) (tgt := 22) (by decide) (by omega) (by omega) (fun hc => ?_) (fun hc => ?_)
    · exact absurd hc (by omega)
    · refine v_iload_n C (oX6_countOfWords.at 7 rfl) rfl ?_
      refine v_aload_n C (oX6_countOfWords.at 8 rfl) rfl ?_
      refine v_getf C (oX6_countOfWords.at 9 rfl) fX6_29 hr rfl ?_
      refine v_imulN C (oX6_countOfWords.at 10 rfl) ?_
      refine v_istore_n C (oX6_countOfWords.at 11 rfl) rfl ?_
      refine v_iincN C (oX6_countOfWords.at 12 rfl) rfl ?_
      refine v_goto C (oX6_countOfWords.at 13 rfl) (tgt := 4) (by decide) ?_
      dsimp only [sto1, sto2, killL]
      rw [← Nat.pow_succ]
      exact ih (i + 1) (by omega)
theorem k_lastCell {w : Wt} {h : Hp} {r k wd n m x : Nat} (hr : h r = RO r k wd n m) (hk : k = 2 ∨ k = 3) (hx : x < 2 ^ 31) : ConN mX6_lastCell 0 (0, 0) w [.ref r, .int (nI x)] h (.inl (some (.int (nI (x % k))))) (fun h' => h' = h) := by
  refine conI (by decide +kernel) ⟨fun _ => rfl, rfl, by simp⟩ (fun X C => ?_)
  change V X (0, 0) w h 0 [some (.ref r), some (.int (nI x))] []
  refine v_aload_n C (oX6_lastCell.at 0 rfl) rfl ?_
  refine v_getf C (oX6_lastCell.at 1 rfl) fX6_29 hr rfl ?_
  refine v_iconst C (oX6_lastCell.at 2 rfl) (v := nI 2) rfl ?_
  refine v_icmp_neN C (oX6_lastCell.at 3 rfl) (tgt := 14) (by decide) (by omega) (by omega) (fun hc => ?_) (fun hc => ?_)
  · have e : k = 3 := by omega
    subst e
    refine v_iload_n C (oX6_lastCell.at 8 rfl) rfl ?_
    refine v_iconst C (oX6_lastCell.at 9 rfl) (v := nI 3) rfl ?_
    refine v_iremN C (oX6_lastCell.at 10 rfl) (by omega) (by omega) (by omega) ?_
    exact v_iret C (oX6_lastCell.at 11 rfl) rfl rfl ⟨Nat.le_refl _, Nat.le_refl _⟩ ⟨rfl, rfl⟩
  · subst hc
    refine v_iload_n C (oX6_lastCell.at 4 rfl) rfl ?_
    refine v_iconst C (oX6_lastCell.at 5 rfl) (v := nI 2) rfl ?_
    refine v_iremN C (oX6_lastCell.at 6 rfl) (by omega) (by omega) (by omega) ?_
    refine v_goto C (oX6_lastCell.at 7 rfl) (tgt := 17) (by decide) ?_
    exact v_iret C (oX6_lastCell.at 11 rfl) rfl rfl ⟨Nat.le_refl _, Nat.le_refl _⟩ ⟨rfl, rfl⟩
theorem k_withoutLastCell {w : Wt} {h : Hp} {r k wd n m x : Nat} (hr : h r = RO r k wd n m) (hk : k = 2 ∨ k = 3) (hx : x < 2 ^ 31) : ConN mX6_withoutLastCell 0 (0, 0) w [.ref r, .int (nI x)] h (.inl (some (.int (nI (x / k))))) (fun h' => h' = h) := by
  refine conI (by decide +kernel) ⟨fun _ => rfl, rfl, by simp⟩ (fun X C => ?_)
  change V X (0, 0) w h 0 [some (.ref r), some (.int (nI x))] []
  refine v_aload_n C (oX6_withoutLastCell.at 0 rfl) rfl ?_
  refine v_getf C (oX6_withoutLastCell.at 1 rfl) fX6_29 hr rfl ?_
  refine v_iconst C (oX6_withoutLastCell.at 2 rfl) (v := nI 2) rfl ?_
  refine v_icmp_neN C (oX6_withoutLastCell.at 3 rfl) (tgt := 14) (by decide) (by omega) (by omega) (fun hc => ?_) (fun hc => ?_)
  · have e : k = 3 := by omega
    subst e
    refine v_iload_n C (oX6_withoutLastCell.at 8 rfl) rfl ?_
    refine v_iconst C (oX6_withoutLastCell.at 9 rfl) (v := nI 3) rfl ?_
    refine v_idivN C (oX6_withoutLastCell.at 10 rfl) (by omega) (by omega) (by omega) ?_
    exact v_iret C (oX6_withoutLastCell.at 11 rfl) rfl rfl ⟨Nat.le_refl _, Nat.le_refl _⟩ ⟨rfl, rfl⟩
  · subst hc
    refine v_iload_n C (oX6_withoutLastCell.at 4 rfl) rfl ?_
    refine v_iconst C (oX6_withoutLastCell.at 5 rfl) (v := nI 2) rfl ?_
    refine v_idivN C (oX6_withoutLastCell.at 6 rfl) (by omega) (by omega) (by omega) ?_
    refine v_goto C (oX6_withoutLastCell.at 7 rfl) (tgt := 17) (by decide) ?_
    exact v_iret C (oX6_withoutLastCell.at 11 rfl) rfl rfl ⟨Nat.le_refl _, Nat.le_refl _⟩ ⟨rfl, rfl⟩
theorem ndiv_lt {x y b : Nat} (h : x < b) : x / y < b := Nat.lt_of_le_of_lt (Nat.div_le_self _ _) h
theorem ndiv_s (x k j : Nat) : x / k ^ j / k = x / k ^ (j + 1) := by rw [Nat.div_div_eq_div_mul, Nat.pow_succ]
theorem k_cellOf {w : Wt} {h : Hp} {r k wd n m x len c : Nat} (hr : h r = RO r k wd n m) (hk : k = 2 ∨ k = 3) (hx : x < 2 ^ 31) (hl : len < 2 ^ 31) (hcl : c < len) : ConN mX6_cellOf 1 (0, 0) w [.ref r, .int (nI x), .int (nI len), .int (nI c)] h (.inl (some (.int (nI (x / k ^ (len - 1 - c) % k))))) (fun h' => h' = h) := by
  refine conI (by decide +kernel) ⟨fun _ => rfl, rfl, by simp⟩ (fun X C => ?_)
  change V X (0, 0) w h 0 [some (.ref r), some (.int (nI x)), some (.int (nI len)), some (.int (nI c)), none, none] []
  refine v_iload_n C (oX6_cellOf.at 0 rfl) rfl ?_
  refine v_istore C (oX6_cellOf.at 1 rfl) rfl ?_
  refine v_iload_n C (oX6_cellOf.at 2 rfl) rfl ?_
  refine v_iconst C (oX6_cellOf.at 3 rfl) (v := nI 1) rfl ?_
  refine v_isubN C (oX6_cellOf.at 4 rfl) (by omega) ?_
  refine v_istore C (oX6_cellOf.at 5 rfl) rfl ?_
  dsimp only [sto1, sto2, killL]
  suffices H : ∀ i j, j + i = len - 1 → c ≤ i → V X (0, 0) w h 8 [some (.ref r), some (.int (nI x)), some (.int (nI len)), some (.int (nI c)), some (.int (nI (x / k ^ j))), some (.int (nI i))] [] by
    have := H (len - 1) 0 (by omega) (by omega)
    simpa using this
  intro i
  induction i with
  | zero =>
    intro j hj hci
    refine v_iload C (oX6_cellOf.at 6 rfl) rfl ?_
    refine v_iload_n C (oX6_cellOf.at 7 rfl) rfl ?_
    refine v_icmp_leN C (oX6_cellOf.at 8 rfl) (tgt := 28) (by decide) (by omega) (by omega) (fun hc => ?_) (fun hc => ?_)
    · have e : j = len - 1 - c := by omega
      subst e
      refine v_aload_n C (oX6_cellOf.at 15 rfl) rfl ?_
      refine v_iload C (oX6_cellOf.at 16 rfl) rfl ?_
      refine v_callV C (oX6_cellOf.at 17 rfl) cX6_59 hr (k_lastCell hr hk (ndiv_lt hx)) rfl rfl rfl ⟨rfl, rfl⟩ rfl rfl (fun _ => rfl) (fun h' hp => ?_)
      rw [show h' = _ from hp]
      dsimp only [Option.toList, List.cons_append, List.nil_append]
      exact v_iret C (oX6_cellOf.at 18 rfl) rfl rfl ⟨Nat.le_refl _, Nat.le_refl _⟩ ⟨rfl, rfl⟩
    · exact absurd hc (by omega)
  | succ i ih =>
    intro j hj hci
    refine v_iload C (oX6_cellOf.at 6 rfl) rfl ?_
    refine v_iload_n C (oX6_cellOf.at 7 rfl) rfl ?_
    refine v_icmp_leN C (oX6_cellOf.at 8 rfl) (tgt := 28) (by decide) (by omega) (by omega) (fun hc => ?_) (fun hc => ?_)
    · have e : j = len - 1 - c := by omega
      subst e
      refine v_aload_n C (oX6_cellOf.at 15 rfl) rfl ?_
      refine v_iload C (oX6_cellOf.at 16 rfl) rfl ?_
      refine v_callV C (oX6_cellOf.at 17 rfl) cX6_59 hr (k_lastCell hr hk (ndiv_lt hx)) rfl rfl rfl ⟨rfl, rfl⟩ rfl rfl (fun _ => rfl) (fun h' hp => ?_)
      rw [show h' = _ from hp]
      dsimp only [Option.toList, List.cons_append, List.nil_append]
      exact v_iret C (oX6_cellOf.at 18 rfl) rfl rfl ⟨Nat.le_refl _, Nat.le_refl _⟩ ⟨rfl, rfl⟩
    · refine v_aload_n C (oX6_cellOf.at 9 rfl) rfl ?_
      refine v_iload C (oX6_cellOf.at 10 rfl) rfl ?_
      refine v_callV C (oX6_cellOf.at 11 rfl) cX6_56 hr (k_withoutLastCell hr hk (ndiv_lt hx)) rfl rfl rfl ⟨rfl, rfl⟩ rfl rfl (fun _ => rfl) (fun h' hp => ?_)
      rw [show h' = _ from hp]
      dsimp only [Option.toList, List.cons_append, List.nil_append]
      refine v_istore C (oX6_cellOf.at 12 rfl) rfl ?_
      refine v_idecN C (oX6_cellOf.at 13 rfl) rfl ?_
      refine v_goto C (oX6_cellOf.at 14 rfl) (tgt := 8) (by decide) ?_
      dsimp only [sto1, sto2, killL]
      rw [ndiv_s]
      exact ih (j + 1) (by omega) (by omega)
/-- the cells of the word x of length len -/
def cel (k len x : Nat) (i : Nat) : Nat := x / k ^ (len - 1 - i) % k
def spw (k len x : Nat) (f : Nat → Int32) (a : Nat) : Nat → Int32 := fun i => if a ≤ i ∧ i < len then nI (cel k len x i) else f i
theorem spw_s {k len x : Nat} {f : Nat → Int32} {a : Nat} (ha : a < len) : upd (spw k len x f (a + 1)) a (nI (cel k len x a)) = spw k len x f a := by
  funext i; unfold upd spw
  by_cases e : i = a
  · subst e; simp [ha]
  · have : (a + 1 ≤ i ∧ i < len) ↔ (a ≤ i ∧ i < len) := by omega
    simp [e, this]
theorem spw_0 (k len x : Nat) (f : Nat → Int32) : spw k len x f len = f := by
  funext i; unfold spw; rw [if_neg (by omega)]
theorem k_spreadWord {w : Wt} {h : Hp} {r k wd n m x len q nq : Nat} {f : Nat → Int32} (hr : h r = RO r k wd n m) (hk : k = 2 ∨ k = 3) (hx : x < 2 ^ 31) (hl : len ≤ nq) (hnq : nq < 2 ^ 31) (hq : h q = io nq f) (hqr : q ≠ r) : ConN mX6_spreadWord 1 (0, 0) w [.ref r, .int (nI x), .int (nI len), .ref q] h (.inl none) (fun h' => h' = hu h q (io nq (spw k len x f 0))) := by
  refine conI (by decide +kernel) ⟨fun _ => rfl, rfl, by simp⟩ (fun X C => ?_)
  change V X (0, 0) w h 0 [some (.ref r), some (.int (nI x)), some (.int (nI len)), some (.ref q), none, none] []
  refine v_iload_n C (oX6_spreadWord.at 0 rfl) rfl ?_
  refine v_istore C (oX6_spreadWord.at 1 rfl) rfl ?_
  refine v_iload_n C (oX6_spreadWord.at 2 rfl) rfl ?_
  refine v_iconst C (oX6_spreadWord.at 3 rfl) (v := nI 1) rfl ?_
  refine v_isubP C (oX6_spreadWord.at 4 rfl) ?_
  refine v_istore C (oX6_spreadWord.at 5 rfl) rfl ?_
  dsimp only [sto1, sto2, killL]
  suffices H : ∀ a j, j + a = len → V X (0, 0) w (hu h q (io nq (spw k len x f a))) 8 [some (.ref r), some (.int (nI x)), some (.int (nI len)), some (.ref q), some (.int (nI (x / k ^ j))), some (.int (pI a))] [] by
    have := H len 0 (by omega)
    rw [spw_0, hu_id h hq] at this
    simpa using this
  intro a
  induction a with
  | zero =>
    intro j hj
    refine v_iload C (oX6_spreadWord.at 6 rfl) rfl ?_
    refine v_if_ltP C (oX6_spreadWord.at 7 rfl) (tgt := 37) (by decide) (by omega) (fun hc => ?_) (fun b hc => ?_)
    · exact v_vret C (oX6_spreadWord.at 20 rfl) rfl rfl ⟨Nat.le_refl _, Nat.le_refl _⟩ ⟨rfl, rfl⟩
    · cases hc
  | succ a ih =>
    intro j hj
    refine v_iload C (oX6_spreadWord.at 6 rfl) rfl ?_
    refine v_if_ltP C (oX6_spreadWord.at 7 rfl) (tgt := 37) (by decide) (by omega) (fun hc => ?_) (fun b hc => ?_)
    · cases hc
    · cases hc
      rw [pI_succ]
      have e : x / k ^ j % k = cel k len x a := by unfold cel; congr 3; omega
      refine v_aload_n C (oX6_spreadWord.at 8 rfl) rfl ?_
      refine v_iload C (oX6_spreadWord.at 9 rfl) rfl ?_
      refine v_aload_n C (oX6_spreadWord.at 10 rfl) rfl ?_
      refine v_iload C (oX6_spreadWord.at 11 rfl) rfl ?_
      refine v_callV C (oX6_spreadWord.at 12 rfl) cX6_59 ((hu_n _ _ (Ne.symm hqr)).trans hr) (k_lastCell ((hu_n _ _ (Ne.symm hqr)).trans hr) hk (ndiv_lt hx)) rfl rfl rfl ⟨rfl, rfl⟩ rfl rfl (fun _ => rfl) (fun h' hp => ?_)
      rw [show h' = _ from hp]
      dsimp only [Option.toList, List.cons_append, List.nil_append]
      refine v_iast C (oX6_spreadWord.at 13 rfl) (hu_s _ _ _) hnq rfl (by omega) ?_
      rw [e, hu_hu, spw_s (by omega)]
      refine v_aload_n C (oX6_spreadWord.at 14 rfl) rfl ?_
      refine v_iload C (oX6_spreadWord.at 15 rfl) rfl ?_
      refine v_callV C (oX6_spreadWord.at 16 rfl) cX6_56 ((hu_n _ _ (Ne.symm hqr)).trans hr) (k_withoutLastCell ((hu_n _ _ (Ne.symm hqr)).trans hr) hk (ndiv_lt hx)) rfl rfl rfl ⟨rfl, rfl⟩ rfl rfl (fun _ => rfl) (fun h' hp => ?_)
      rw [show h' = _ from hp]
      dsimp only [Option.toList, List.cons_append, List.nil_append]
      refine v_istore C (oX6_spreadWord.at 17 rfl) rfl ?_
      refine v_idecP C (oX6_spreadWord.at 18 rfl) rfl ?_
      refine v_goto C (oX6_spreadWord.at 19 rfl) (tgt := 8) (by decide) ?_
      dsimp only [sto1, sto2, killL]
      rw [ndiv_s]
      exact ih (j + 1) (by omega)
end
section
/-! ===== more rules: longs as naturals, arraycopy; Arrays.fill, Math ===== -/
section VX3
variable {X : CT} {μ : Mi} {tab : List ExceptionTableEntry} {d : Nat} {zR : Nat × Nat} {o : Oc} {P : Wt → Hp → Prop} {z : Nat × Nat} {w : Wt} {h : Hp} {pc : Nat} {L : List (Option Value)} {st : List Value}
theorem v_lmulN (C : Cx X μ tab d zR o P) {a b : Nat} (hd : decode μ.2.1 pc = .ok (.lmul, 1)) (k : V X z w h (pc + 1) L (.long (lN (a * b)) :: st)) : V X z w h pc L (.long (lN b) :: .long (lN a) :: st) := v_lmul C hd (by rw [lN_mul]; exact k)
theorem v_laddN (C : Cx X μ tab d zR o P) {a b : Nat} (hd : decode μ.2.1 pc = .ok (.ladd, 1)) (k : V X z w h (pc + 1) L (.long (lN (a + b)) :: st)) : V X z w h pc L (.long (lN b) :: .long (lN a) :: st) := v_ladd C hd (by rw [lN_add]; exact k)
theorem lN_ne0 {b : Nat} (h0 : 0 < b) (hb : b < 2 ^ 63) : ¬ lN b = 0 := fun e => by
  have := (pk_lEQ (a := b) (b := 0) hb (by decide)).mp e
  omega
theorem v_ldivN (C : Cx X μ tab d zR o P) {a b : Nat} (hd : decode μ.2.1 pc = .ok (.ldiv, 1)) (ha : a < 2 ^ 63) (h0 : 0 < b) (hb : b < 2 ^ 63) (k : V X z w h (pc + 1) L (.long (lN (a / b)) :: st)) : V X z w h pc L (.long (lN b) :: .long (lN a) :: st) := v_ldiv C hd (lN_ne0 h0 hb) (by rw [pk_lDiv ha h0 hb]; exact k)
theorem v_lremN (C : Cx X μ tab d zR o P) {a b : Nat} (hd : decode μ.2.1 pc = .ok (.lrem, 1)) (ha : a < 2 ^ 63) (h0 : 0 < b) (hb : b < 2 ^ 63) (k : V X z w h (pc + 1) L (.long (lN (a % b)) :: st)) : V X z w h pc L (.long (lN b) :: .long (lN a) :: st) := v_lrem C hd (lN_ne0 h0 hb) (by rw [pk_lRem ha h0 hb]; exact k)
theorem v_i2lN (C : Cx X μ tab d zR o P) {a : Nat} (hd : decode μ.2.1 pc = .ok (.i2l, 1)) (ha : a < 2 ^ 31) (k : V X z w h (pc + 1) L (.long (lN a) :: st)) : V X z w h pc L (.int (nI a) :: st) := v_i2l C hd (by rw [nI_l ha]; exact k)
theorem v_l2iN (C : Cx X μ tab d zR o P) {a : Nat} (hd : decode μ.2.1 pc = .ok (.l2i, 1)) (k : V X z w h (pc + 1) L (.int (nI a) :: st)) : V X z w h pc L (.long (lN a) :: st) := v_l2i C hd (by rw [lN_i]; exact k)
theorem v_acopy (C : Cx X μ tab d zR o P) {ix q0 q1 n0 n1 n : Nat} {f g : Nat → Int32} (hd : decode μ.2.1 pc = .ok (.invokestatic ix, 3)) (hml : Cond.methodLink μ.1.cls ix arraycopyName ∈ TSg) (h0 : h q0 = io n0 f) (h1 : h q1 = io n1 g) (hn0 : n ≤ n0) (hn1 : n ≤ n1) (hn : n < 2 ^ 31) (hcat : Nat.ble (st.map fun v => v.category).sum 8 = true) (hLn : L.length = μ.2.2.1) (k : V X z w (hu h q1 (io n1 (va_cpy f g 0 0 n))) (pc + 3) L st) : V X z w h pc L (.int (nI n) :: .int (nI 0) :: .ref q1 :: .int (nI 0) :: .ref q0 :: st) := by
  rcases X with ⟨p, l, e, R, s, m, args, below, meth, c, G, B, Q⟩
  intro H locs ls hW hS hl
  have hq0 : q0 < w.2 := hW.lt (by rw [h0]; exact ar_nj)
  have hq1 : q1 < w.2 := hW.lt (by rw [h1]; exact ar_nj)
  have he0 : (wl G w h)[q0]? = some (w.1 q0, .inl (G.2 0, n0, .inl f)) := by rw [wl_get G w h hq0, h0]; rfl
  have he1 : (wl G w h)[q1]? = some (w.1 q1, .inl (G.2 0, n1, .inl g)) := by rw [wl_get G w h hq1, h1]; rfl
  have hts := C.2.2.2.2.1
  obtain ⟨r1, r2, r3, r4⟩ := C.2.2.2.2.2.2.2.2.2.2.2.1
  have hcat := Nat.le_of_ble_eq_true hcat
  refine va_copyi C.1 C.2.1 (C.2.2.1.trans (hLn.symm.trans hl.1.symm)) C.2.2.2.1 (hts _ hml) (hts _ (tj2 187 (by rfl) rfl)) (hts _ (tj2 186 (by rfl) rfl)) (hts _ (tj1 26 (by rfl) rfl)) C.2.2.2.2.2.2.2.1 hW.1 hW.2.1 hS q0 q1 0 0 he0 he1 rfl rfl rfl (nI_pos (by decide)) (nI_pos (by decide)) (nI_pos hn) (by rw [nI_clamp hn, nI_clamp (by decide)]; omega) (by rw [nI_clamp hn, nI_clamp (by decide)]; omega) (fun _ _ => rfl) (by omega) ?_ hd (fun H1 locs1 hP1 hD1 hS1 => ?_)
  · rw [cv_sum]
    have : nativeFrameWords "java/lang/System" "arraycopy" 5 + 11 ≤ 190 := by decide +kernel
    omega
  · rw [nI_clamp hn, nI_clamp (by decide)] at hP1 hD1
    exact k H1 locs1 ls (hW.set hq1 (c := io n1 (va_cpy f g 0 0 n)) rfl trivial hP1 hD1) hS1 hl
end VX3
theorem vx_ofWF {l : Launch} {y : MethodName} {ws ws' : List Cond} {rm : Room} {Pc : Array Value → State → Prop} {Qc : Array Value → State → Outcome → State → Prop} {XC : String → State → State → Prop} {mc ms : Nat} {free : Addr → Prop} {cc : ByteArray} {maxL : Nat} {ret : Option FieldType}
    (hy : plainFor y = true) (hw : ws = Cond.code y cc maxL ret :: ws')
    (body : ∀ p e s m args below meth c s₁, BodyLoose p l y (headSpec ws rm) cc maxL ret e s m args below meth c s₁ → c.maxLocals = maxL → (∀ x ∈ c.exceptionTable.toList, False) → Pc args s →
      W p l e (headSpec ws rm).room s m args below meth c s.heap [] 0 0 (vx_MQ below Qc XC args s mc ms free) (entryFrame m args maxL)) : vx_Met l y ws rm Pc Qc XC mc ms free := by
  refine MetFree.of_bodySF (code := cc) (maxLocals := maxL) (ret := ret) hy ?_ ?_
  · intro args s m h hn
    obtain ⟨meth, c, h1, h2, h3, h4, h5, h6, -, -⟩ := Cond.code_spec hn (atoms_spec (ws := ws) h _ (by rw [hw]; exact List.mem_cons_self))
    exact ⟨meth, c, h1, h2, h3, h4, h5, h6⟩
  · intro p e s m args below meth c s₁ B hml hP _
    have hh0 : s₁.heap = s.heap := by rw [B.state]; rfl
    have ht : ∀ x ∈ c.exceptionTable.toList, False := by
      obtain ⟨meth9, c9, h1, h2, -, -, -, -, h7, -⟩ := Cond.code_spec B.named (atoms_spec (ws := ws) B.pre _ (by rw [hw]; exact List.mem_cons_self))
      cases Option.some.inj (h1.symm.trans B.method)
      cases Option.some.inj (h2.symm.trans (Stand.of_body B).code)
      intro x hx
      rw [Array.isEmpty_iff.mp h7] at hx
      cases hx
    obtain ⟨t, a1, o, b1, b2, b3⟩ := body p e s m args below meth c s₁ B hml ht hP s₁ hh0 (Stand.of_body B)
    exact ⟨t, o, a1, b1, b2, b3⟩
theorem conF {μ : Mi} {d : Nat} {z : Nat × Nat} {w : Wt} {as : List Value} {h : Hp} {o : Oc} {P : Wt → Hp → Prop} (hy : plainFor μ.1 = true) (he : ent_ok μ.2.2.1 as) (body : ∀ X, Cx X μ [] d z o P → V X (0, 0) w h 0 (entL μ.2.2.1 as) []) : Con μ d z w as h o P := by
  intro l G B hl0
  refine vx_ofWF hy rfl ?_
  intro p e s m args below meth c s₁ B' hml htab hv
  obtain ⟨rfl, hWd, hK, hB, hSt, hEx⟩ := hv
  have hts := atoms_spec (ws := .code μ.1 μ.2.1 μ.2.2.1 μ.2.2.2.1 :: TSg) B'.pre
  have ht : c.exceptionTable.toList = [] := by
    cases hc : c.exceptionTable.toList with
    | nil => rfl
    | cons a b => exact absurd (htab a (by rw [hc]; exact List.mem_cons_self)) id
  have hC : Cx (p, l, e, (headSpec (.code μ.1 μ.2.1 μ.2.2.1 μ.2.2.2.1 :: TSg) (rmD d z)).room, s, m, (as.map (cv w.1)).toArray, below, meth, c, G, B, vx_MQ below (QcD G B o P) (XcD G B o P) (as.map (cv w.1)).toArray s z.1 z.2 (AB B)) μ [] d z o P :=
    ⟨B'.exec, B'.bytes, hml, findClass_of_methodNamed B'.named, fun w hw => hts w (List.mem_cons_of_mem _ hw), B'.notSynchronized, hl0, hK, hB, hSt, hEx, ⟨Nat.le_refl _, Nat.le_refl _, Nat.le_refl _, Nat.le_refl _⟩, ht, B'.returns, (name_of_methodNamed B'.named B'.method).1, rfl⟩
  have hV := body _ hC
  have hl := lv_entry (as.map (cv w.1)) (n := μ.2.2.1) (Nat.le_of_ble_eq_true (he.1 _))
  rw [lg_entry_eq]
  refine hV s.heap [] _ hWd va_S.rf ⟨hl.1.trans he.2.1.symm, hl.2.1, fun i v hi => ?_⟩
  have := hl.2.2 (0 + i, cv w.1 v) (entL_mem w.1 μ.2.2.1 as 0 i v hi he.2.2)
  simpa using this
theorem k_fill {w : Wt} {h : Hp} {q n : Nat} {f : Nat → Int32} {x : Int32} (hq : h q = io n f) (hn : n < 2 ^ 31) : ConN mJ7_fill_53178 0 (0, 0) w [.ref q, .int x] h (.inl none) (fun h' => h' = hu h q (io n (mix f (fun _ => x) n))) := by
  refine conI (by decide +kernel) ⟨fun _ => rfl, rfl, by simp⟩ (fun X C => ?_)
  change V X (0, 0) w h 0 [some (.ref q), some (.int x), none, none] []
  refine v_iconst C (oJ7_fill_53178.at 0 rfl) (v := nI 0) rfl ?_
  refine v_istore_n C (oJ7_fill_53178.at 1 rfl) rfl ?_
  refine v_aload_n C (oJ7_fill_53178.at 2 rfl) rfl ?_
  refine v_alen C (oJ7_fill_53178.at 3 rfl) hq rfl ?_
  dsimp only
  refine v_istore_n C (oJ7_fill_53178.at 4 rfl) rfl ?_
  dsimp only [sto1, sto2, killL]
  suffices H : ∀ j i, i + j = n → V X (0, 0) w (hu h q (io n (mix f (fun _ => x) i))) 5 [some (.ref q), some (.int x), some (.int (nI i)), some (.int (nI n))] [] by
    have := H n 0 (by omega)
    rw [mix_0, hu_id h hq] at this
    exact this
  intro j
  induction j with
  | zero =>
    intro i hi
    refine v_iload_n C (oJ7_fill_53178.at 5 rfl) rfl ?_
    refine v_iload_n C (oJ7_fill_53178.at 6 rfl) rfl ?_
    refine v_icmp_geN C (oJ7_fill_53178.at 7 rfl) (tgt := 20) (by decide) (by omega) (by omega) (fun hc => ?_) (fun hc => ?_)
    · have e : i = n := by omega
      subst e
      exact v_vret C (oJ7_fill_53178.at 14 rfl) rfl rfl ⟨Nat.le_refl _, Nat.le_refl _⟩ ⟨rfl, rfl⟩
    · exact absurd hc (by omega)
  | succ j ih =>
    intro i hi
    refine v_iload_n C (oJ7_fill_53178.at 5 rfl) rfl ?_
    refine v_iload_n C (oJ7_fill_53178.at 6 rfl) rfl ?_
    refine v_icmp_geN C (oJ7_fill_53178.at 7 rfl) (tgt := 20) (by decide) (by omega) (by omega) (fun hc => ?_) (fun hc => ?_)
    · exact absurd hc (by omega)
    · refine v_aload_n C (oJ7_fill_53178.at 8 rfl) rfl ?_
      refine v_iload_n C (oJ7_fill_53178.at 9 rfl) rfl ?_
      refine v_iload_n C (oJ7_fill_53178.at 10 rfl) rfl ?_
      refine v_iast C (oJ7_fill_53178.at 11 rfl) (hu_s _ _ _) hn rfl (by omega) ?_
      rw [hu_hu, mix_s _ _ _ _ rfl]
      refine v_iincN C (oJ7_fill_53178.at 12 rfl) rfl ?_
      refine v_goto C (oJ7_fill_53178.at 13 rfl) (tgt := 5) (by decide) ?_
      dsimp only [sto1, sto2, killL]
      exact ih (i + 1) (by omega)
theorem k_rangeCheck {w : Wt} {h : Hp} {n a b : Nat} (hn : n < 2 ^ 31) (hab : a ≤ b) (hb : b ≤ n) : ConN mJ7_rangeCheck_23922 0 (0, 0) w [.int (nI n), .int (nI a), .int (nI b)] h (.inl none) (fun h' => h' = h) := by
  refine conI (by decide +kernel) ⟨fun _ => rfl, rfl, by simp⟩ (fun X C => ?_)
  change V X (0, 0) w h 0 [some (.int (nI n)), some (.int (nI a)), some (.int (nI b))] []
  refine v_iload_n C (oJ7_rangeCheck_23922.at 0 rfl) rfl ?_
  refine v_iload_n C (oJ7_rangeCheck_23922.at 1 rfl) rfl ?_
  refine v_icmp_leN C (oJ7_rangeCheck_23922.at 2 rfl) (tgt := 46) (by decide) (by omega) (by omega) (fun hc => ?_) (fun hc => ?_)
  · refine v_iload_n C (oJ7_rangeCheck_23922.at 21 rfl) rfl ?_
    refine v_if_geN C (oJ7_rangeCheck_23922.at 22 rfl) (tgt := 59) (by decide) (by omega) ?_
    refine v_iload_n C (oJ7_rangeCheck_23922.at 28 rfl) rfl ?_
    refine v_iload_n C (oJ7_rangeCheck_23922.at 29 rfl) rfl ?_
    refine v_icmp_leN C (oJ7_rangeCheck_23922.at 30 rfl) (tgt := 73) (by decide) (by omega) (by omega) (fun hc => ?_) (fun hc => ?_)
    · exact v_vret C (oJ7_rangeCheck_23922.at 36 rfl) rfl rfl ⟨Nat.le_refl _, Nat.le_refl _⟩ ⟨rfl, rfl⟩
    · exact absurd hc (by omega)
  · exact absurd hc (by omega)
def fil (f : Nat → Int32) (a b : Nat) (x : Int32) : Nat → Int32 := fun j => if a ≤ j ∧ j < b then x else f j
theorem fil_s {f : Nat → Int32} {a i : Nat} {x : Int32} (h : a ≤ i) : upd (fil f a i x) i x = fil f a (i + 1) x := by
  funext j; unfold upd fil
  by_cases e : j = i
  · subst e; simp [h]
  · have : (a ≤ j ∧ j < i + 1) ↔ (a ≤ j ∧ j < i) := by omega
    simp [e, this]
theorem fil_0 (f : Nat → Int32) (a : Nat) (x : Int32) : fil f a a x = f := by
  funext j; unfold fil; rw [if_neg (by omega)]
theorem k_fill4 {w : Wt} {h : Hp} {q n a b : Nat} {f : Nat → Int32} {x : Int32} (hq : h q = io n f) (hn : n < 2 ^ 31) (hab : a ≤ b) (hb : b ≤ n) : ConN mJ7_fill_fda19 1 (0, 0) w [.ref q, .int (nI a), .int (nI b), .int x] h (.inl none) (fun h' => h' = hu h q (io n (fil f a b x))) := by
  refine conI (by decide +kernel) ⟨fun _ => rfl, rfl, by simp⟩ (fun X C => ?_)
  change V X (0, 0) w h 0 [some (.ref q), some (.int (nI a)), some (.int (nI b)), some (.int x), none] []
  refine v_aload_n C (oJ7_fill_fda19.at 0 rfl) rfl ?_
  refine v_alen C (oJ7_fill_fda19.at 1 rfl) hq rfl ?_
  dsimp only
  refine v_iload_n C (oJ7_fill_fda19.at 2 rfl) rfl ?_
  refine v_iload_n C (oJ7_fill_fda19.at 3 rfl) rfl ?_
  refine v_callS C (oJ7_fill_fda19.at 4 rfl) cJ7_13 (k_rangeCheck hn hab hb) rfl rfl rfl ⟨rfl, rfl⟩ rfl rfl (fun _ => rfl) (fun h' hp => ?_)
  rw [show h' = _ from hp]
  dsimp only [Option.toList, List.cons_append, List.nil_append]
  refine v_iload_n C (oJ7_fill_fda19.at 5 rfl) rfl ?_
  refine v_istore C (oJ7_fill_fda19.at 6 rfl) rfl ?_
  dsimp only [sto1, sto2, killL]
  suffices H : ∀ j i, i + j = b → a ≤ i → V X (0, 0) w (hu h q (io n (fil f a i x))) 10 [some (.ref q), some (.int (nI a)), some (.int (nI b)), some (.int x), some (.int (nI i))] [] by
    have := H (b - a) a (by omega) (by omega)
    rw [fil_0, hu_id h hq] at this
    exact this
  intro j
  induction j with
  | zero =>
    intro i hi hai
    refine v_iload C (oJ7_fill_fda19.at 7 rfl) rfl ?_
    refine v_iload_n C (oJ7_fill_fda19.at 8 rfl) rfl ?_
    refine v_icmp_geN C (oJ7_fill_fda19.at 9 rfl) (tgt := 27) (by decide) (by omega) (by omega) (fun hc => ?_) (fun hc => ?_)
    · have e : i = b := by omega
      subst e
      exact v_vret C (oJ7_fill_fda19.at 16 rfl) rfl rfl ⟨Nat.le_refl _, Nat.le_refl _⟩ ⟨rfl, rfl⟩
    · exact absurd hc (by omega)
  | succ j ih =>
    intro i hi hai
    refine v_iload C (oJ7_fill_fda19.at 7 rfl) rfl ?_
    refine v_iload_n C (oJ7_fill_fda19.at 8 rfl) rfl ?_
    refine v_icmp_geN C (oJ7_fill_fda19.at 9 rfl) (tgt := 27) (by decide) (by omega) (by omega) (fun hc => ?_) (fun hc => ?_)
    · exact absurd hc (by omega)
    · refine v_aload_n C (oJ7_fill_fda19.at 10 rfl) rfl ?_
      refine v_iload C (oJ7_fill_fda19.at 11 rfl) rfl ?_
      refine v_iload_n C (oJ7_fill_fda19.at 12 rfl) rfl ?_
      refine v_iast C (oJ7_fill_fda19.at 13 rfl) (hu_s _ _ _) hn rfl (by omega) ?_
      rw [hu_hu, fil_s (by omega)]
      refine v_iincN C (oJ7_fill_fda19.at 14 rfl) rfl ?_
      refine v_goto C (oJ7_fill_fda19.at 15 rfl) (tgt := 10) (by decide) ?_
      dsimp only [sto1, sto2, killL]
      exact ih (i + 1) (by omega) (by omega)
theorem k_maxR {w : Wt} {h : Hp} {x y : Int32} : ConN mJ9_max_7cf53 0 (0, 0) w [.int x, .int y] h (.inl (some (.int (if x < y then y else x)))) (fun h' => h' = h) := by
  refine conF (by decide +kernel) ⟨fun _ => rfl, rfl, by simp⟩ (fun X C => ?_)
  change V X (0, 0) w h 0 [some (.int x), some (.int y)] []
  refine v_iload_n C (oJ9_max_7cf53.at 0 rfl) rfl ?_
  refine v_iload_n C (oJ9_max_7cf53.at 1 rfl) rfl ?_
  refine v_icmp_lt C (oJ9_max_7cf53.at 2 rfl) (tgt := 9) (by decide) (fun hc => ?_) (fun hc => ?_)
  · rw [if_pos hc] at C
    refine v_iload_n C (oJ9_max_7cf53.at 5 rfl) rfl ?_
    exact v_iret C (oJ9_max_7cf53.at 6 rfl) rfl rfl ⟨Nat.le_refl _, Nat.le_refl _⟩ ⟨rfl, rfl⟩
  · rw [if_neg hc] at C
    refine v_iload_n C (oJ9_max_7cf53.at 3 rfl) rfl ?_
    refine v_goto C (oJ9_max_7cf53.at 4 rfl) (tgt := 10) (by decide) ?_
    exact v_iret C (oJ9_max_7cf53.at 6 rfl) rfl rfl ⟨Nat.le_refl _, Nat.le_refl _⟩ ⟨rfl, rfl⟩
theorem k_minR {w : Wt} {h : Hp} {x y : Int32} : ConN mJ9_min_7cf53 0 (0, 0) w [.int x, .int y] h (.inl (some (.int (if y < x then y else x)))) (fun h' => h' = h) := by
  refine conF (by decide +kernel) ⟨fun _ => rfl, rfl, by simp⟩ (fun X C => ?_)
  change V X (0, 0) w h 0 [some (.int x), some (.int y)] []
  refine v_iload_n C (oJ9_min_7cf53.at 0 rfl) rfl ?_
  refine v_iload_n C (oJ9_min_7cf53.at 1 rfl) rfl ?_
  refine v_icmp_gt C (oJ9_min_7cf53.at 2 rfl) (tgt := 9) (by decide) (fun hc => ?_) (fun hc => ?_)
  · rw [if_pos hc] at C
    refine v_iload_n C (oJ9_min_7cf53.at 5 rfl) rfl ?_
    exact v_iret C (oJ9_min_7cf53.at 6 rfl) rfl rfl ⟨Nat.le_refl _, Nat.le_refl _⟩ ⟨rfl, rfl⟩
  · rw [if_neg hc] at C
    refine v_iload_n C (oJ9_min_7cf53.at 3 rfl) rfl ?_
    refine v_goto C (oJ9_min_7cf53.at 4 rfl) (tgt := 10) (by decide) ?_
    exact v_iret C (oJ9_min_7cf53.at 6 rfl) rfl rfl ⟨Nat.le_refl _, Nat.le_refl _⟩ ⟨rfl, rfl⟩
theorem k_max {w : Wt} {h : Hp} {a b : Nat} (ha : a < 2 ^ 31) (hb : b < 2 ^ 31) : ConN mJ9_max_7cf53 0 (0, 0) w [.int (nI a), .int (nI b)] h (.inl (some (.int (nI (max a b))))) (fun h' => h' = h) := by
  have := k_maxR (w := w) (h := h) (x := nI a) (y := nI b)
  rwa [show (if nI a < nI b then nI b else nI a) = nI (max a b) by
    by_cases hc : a < b
    · rw [if_pos ((nI_ltI ha hb).mpr hc), Nat.max_eq_right (by omega)]
    · rw [if_neg (fun e => hc ((nI_ltI ha hb).mp e)), Nat.max_eq_left (by omega)]] at this
theorem k_min {w : Wt} {h : Hp} {a b : Nat} (ha : a < 2 ^ 31) (hb : b < 2 ^ 31) : ConN mJ9_min_7cf53 0 (0, 0) w [.int (nI a), .int (nI b)] h (.inl (some (.int (nI (min a b))))) (fun h' => h' = h) := by
  have := k_minR (w := w) (h := h) (x := nI a) (y := nI b)
  rwa [show (if nI b < nI a then nI b else nI a) = nI (min a b) by
    by_cases hc : b < a
    · rw [if_pos ((nI_ltI hb ha).mpr hc), Nat.min_eq_right (by omega)]
    · rw [if_neg (fun e => hc ((nI_ltI hb ha).mp e)), Nat.min_eq_left (by omega)]] at this
theorem cmp_gt {a b : Nat} (ha : a < 2 ^ 63) (hb : b < 2 ^ 63) : (0 < lg_cmp (lN a) (lN b)) ↔ b < a := by
  unfold lg_cmp
  by_cases h1 : b < a
  · rw [if_pos ((pk_lLT hb ha).mpr h1)]; exact ⟨fun _ => h1, fun _ => by decide⟩
  · rw [if_neg (fun e => h1 ((pk_lLT hb ha).mp e))]
    by_cases h2 : a = b
    · rw [if_pos (by rw [h2])]; exact ⟨fun q => absurd q (by decide), fun q => absurd q h1⟩
    · rw [if_neg (fun e => h2 ((pk_lEQ ha hb).mp e))]; exact ⟨fun q => absurd q (by decide), fun q => absurd q h1⟩
theorem k_minL {w : Wt} {h : Hp} {a b : Nat} (ha : a < 2 ^ 63) (hb : b < 2 ^ 63) : ConN mJ9_min_f86c9 0 (0, 0) w [.long (lN a), .long (lN b)] h (.inl (some (.long (lN (min a b))))) (fun h' => h' = h) := by
  refine conF (by decide +kernel) ⟨fun _ => rfl, rfl, by simp⟩ (fun X C => ?_)
  change V X (0, 0) w h 0 [some (.long (lN a)), none, some (.long (lN b)), none] []
  refine v_lload_n C (oJ9_min_f86c9.at 0 rfl) rfl ?_
  refine v_lload_n C (oJ9_min_f86c9.at 1 rfl) rfl ?_
  refine v_lcmp C (oJ9_min_f86c9.at 2 rfl) ?_
  refine v_if_gt C (oJ9_min_f86c9.at 3 rfl) (tgt := 10) (by decide) (fun hc => ?_) (fun hc => ?_)
  · rw [Nat.min_eq_right (by have := (cmp_gt ha hb).mp hc; omega)] at C
    refine v_lload_n C (oJ9_min_f86c9.at 6 rfl) rfl ?_
    exact v_lret C (oJ9_min_f86c9.at 7 rfl) rfl rfl ⟨Nat.le_refl _, Nat.le_refl _⟩ ⟨rfl, rfl⟩
  · rw [Nat.min_eq_left (Nat.not_lt.mp (fun e => hc ((cmp_gt ha hb).mpr e)))] at C
    refine v_lload_n C (oJ9_min_f86c9.at 4 rfl) rfl ?_
    refine v_goto C (oJ9_min_f86c9.at 5 rfl) (tgt := 11) (by decide) ?_
    exact v_lret C (oJ9_min_f86c9.at 7 rfl) rfl rfl ⟨Nat.le_refl _, Nat.le_refl _⟩ ⟨rfl, rfl⟩
end
section
/-! ===== Rule: tables ===== -/
theorem k_takeTable {w : Wt} {h : Hp} {r k wd n m q : Nat} {f g : Nat → Int32} (hr : h r = RO r k wd n m) (hm : m ≤ 27) (ht : h (r + 1) = io 27 f) (hq : h q = io 27 g) (hqr : q ≠ r + 1) : ConN mX6_takeTable 0 (0, 0) w [.ref r, .ref q] h (.inl (some (.int (nI (cnt (fun i => decide (f i ≠ g i)) m))))) (fun h' => h' = hu h (r + 1) (io 27 (mix f g m))) := by
  refine conI (by decide +kernel) ⟨fun _ => rfl, rfl, by simp⟩ (fun X C => ?_)
  change V X (0, 0) w h 0 [some (.ref r), some (.ref q), none, none] []
  refine v_iconst C (oX6_takeTable.at 0 rfl) (v := nI 0) rfl ?_
  refine v_istore_n C (oX6_takeTable.at 1 rfl) rfl ?_
  refine v_iconst C (oX6_takeTable.at 2 rfl) (v := nI 0) rfl ?_
  refine v_istore_n C (oX6_takeTable.at 3 rfl) rfl ?_
  dsimp only [sto1, sto2, killL]
  suffices H : ∀ j i, i + j = m → V X (0, 0) w (hu h (r + 1) (io 27 (mix f g i))) 4 [some (.ref r), some (.ref q), some (.int (nI (cnt (fun i => decide (f i ≠ g i)) i))), some (.int (nI i))] [] by
    have := H m 0 (by omega)
    rw [mix_0, hu_id h ht] at this
    exact this
  intro j
  induction j with
  | zero =>
    intro i hi
    refine v_iload_n C (oX6_takeTable.at 4 rfl) rfl ?_
    refine v_aload_n C (oX6_takeTable.at 5 rfl) rfl ?_
    refine v_getf C (oX6_takeTable.at 6 rfl) fX6_43 ((hu_n _ _ (by omega)).trans hr) rfl ?_
    refine v_icmp_geN C (oX6_takeTable.at 7 rfl) (tgt := 47) (by decide) (by omega) (by omega) (fun hc => ?_) (fun hc => ?_)
    · have e : i = m := by omega
      subst e
      refine v_iload_n C (oX6_takeTable.at 31 rfl) rfl ?_
      exact v_iret C (oX6_takeTable.at 32 rfl) rfl rfl ⟨Nat.le_refl _, Nat.le_refl _⟩ ⟨rfl, rfl⟩
    · exact absurd hc (by omega)
  | succ j ih =>
    intro i hi
    refine v_iload_n C (oX6_takeTable.at 4 rfl) rfl ?_
    refine v_aload_n C (oX6_takeTable.at 5 rfl) rfl ?_
    refine v_getf C (oX6_takeTable.at 6 rfl) fX6_43 ((hu_n _ _ (by omega)).trans hr) rfl ?_
    refine v_icmp_geN C (oX6_takeTable.at 7 rfl) (tgt := 47) (by decide) (by omega) (by omega) (fun hc => ?_) (fun hc => ?_)
    · exact absurd hc (by omega)
    · have key : ∀ c : Nat, c = (if decide (f i ≠ g i) then 1 else 0) → V X (0, 0) w (hu h (r + 1) (io 27 (mix f g i))) 30 [some (.ref r), some (.ref q), some (.int (nI (cnt (fun i => decide (f i ≠ g i)) i))), some (.int (nI i))] [.int (nI c), .int (nI (cnt (fun i => decide (f i ≠ g i)) i))] := by
        intro c hcc
        refine v_iaddN C (oX6_takeTable.at 20 rfl) ?_
        refine v_istore_n C (oX6_takeTable.at 21 rfl) rfl ?_
        refine v_aload_n C (oX6_takeTable.at 22 rfl) rfl ?_
        refine v_getf C (oX6_takeTable.at 23 rfl) fX6_9 ((hu_n _ _ (by omega)).trans hr) rfl ?_
        refine v_iload_n C (oX6_takeTable.at 24 rfl) rfl ?_
        refine v_aload_n C (oX6_takeTable.at 25 rfl) rfl ?_
        refine v_iload_n C (oX6_takeTable.at 26 rfl) rfl ?_
        refine v_iald C (oX6_takeTable.at 27 rfl) ((hu_n _ _ hqr).trans hq) (by decide) rfl (by omega) rfl ?_
        dsimp only [sto1, sto2, killL]
        refine v_iast C (oX6_takeTable.at 28 rfl) (hu_s _ _ _) (by decide) rfl (by omega) ?_
        rw [hu_hu, mix_s _ _ _ _ rfl]
        refine v_iincN C (oX6_takeTable.at 29 rfl) rfl ?_
        refine v_goto C (oX6_takeTable.at 30 rfl) (tgt := 4) (by decide) ?_
        dsimp only [sto1, sto2, killL]
        have := ih (i + 1) (by omega)
        rw [hcc]
        exact this
      refine v_iload_n C (oX6_takeTable.at 8 rfl) rfl ?_
      refine v_aload_n C (oX6_takeTable.at 9 rfl) rfl ?_
      refine v_getf C (oX6_takeTable.at 10 rfl) fX6_9 ((hu_n _ _ (by omega)).trans hr) rfl ?_
      refine v_iload_n C (oX6_takeTable.at 11 rfl) rfl ?_
      refine v_iald C (oX6_takeTable.at 12 rfl) (hu_s _ _ _) (by decide) rfl (by omega) (mix_ge (by omega)) ?_
      refine v_aload_n C (oX6_takeTable.at 13 rfl) rfl ?_
      refine v_iload_n C (oX6_takeTable.at 14 rfl) rfl ?_
      refine v_iald C (oX6_takeTable.at 15 rfl) ((hu_n _ _ hqr).trans hq) (by decide) rfl (by omega) rfl ?_
      refine v_icmp_ne C (oX6_takeTable.at 16 rfl) (tgt := 29) (by decide) (fun hc => ?_) (fun hc => ?_)
      · refine v_iconst C (oX6_takeTable.at 19 rfl) (v := nI 1) rfl ?_
        exact key 1 (by simp [hc])
      · refine v_iconst C (oX6_takeTable.at 17 rfl) (v := nI 0) rfl ?_
        refine v_goto C (oX6_takeTable.at 18 rfl) (tgt := 30) (by decide) ?_
        exact key 0 (by simp [hc])
def hor (k : Nat) (T : Nat → Nat) : Nat → Nat → Nat
  | _, 0 => 0
  | i, j + 1 => hor k T (i + 1) j * k + T i
theorem k_numberOf {w : Wt} {h : Hp} {r k wd n m q : Nat} {f : Nat → Int32} {T : Nat → Nat} (hr : h r = RO r k wd n m) (hk : k ≤ 3) (hm : m ≤ 27) (hq : h q = io 27 f) (hT : ∀ i, i < m → f i = nI (T i) ∧ T i < 3) : ConN mX6_numberOf 0 (0, 0) w [.ref r, .ref q] h (.inl (some (.long (lN (hor k T 0 m))))) (fun h' => h' = h) := by
  refine conI (by decide +kernel) ⟨fun _ => rfl, rfl, by simp⟩ (fun X C => ?_)
  change V X (0, 0) w h 0 [some (.ref r), some (.ref q), none, none, none] []
  refine v_lconst C (oX6_numberOf.at 0 rfl) (v := lN 0) rfl ?_
  refine v_lstore_n C (oX6_numberOf.at 1 rfl) rfl ?_
  refine v_aload_n C (oX6_numberOf.at 2 rfl) rfl ?_
  refine v_getf C (oX6_numberOf.at 3 rfl) fX6_43 hr rfl ?_
  refine v_iconst C (oX6_numberOf.at 4 rfl) (v := nI 1) rfl ?_
  refine v_isubP C (oX6_numberOf.at 5 rfl) ?_
  refine v_istore C (oX6_numberOf.at 6 rfl) rfl ?_
  dsimp only [sto1, sto2, killL]
  suffices H : ∀ a, a ≤ m → V X (0, 0) w h 10 [some (.ref r), some (.ref q), some (.long (lN (hor k T a (m - a)))), none, some (.int (pI a))] [] by
    have := H m (Nat.le_refl _)
    rw [Nat.sub_self] at this
    exact this
  intro a
  induction a with
  | zero =>
    intro ha
    refine v_iload C (oX6_numberOf.at 7 rfl) rfl ?_
    refine v_if_ltP C (oX6_numberOf.at 8 rfl) (tgt := 35) (by decide) (by omega) (fun hc => ?_) (fun b hc => ?_)
    · refine v_lload_n C (oX6_numberOf.at 22 rfl) rfl ?_
      exact v_lret C (oX6_numberOf.at 23 rfl) rfl rfl ⟨Nat.le_refl _, Nat.le_refl _⟩ ⟨rfl, rfl⟩
    · cases hc
  | succ a ih =>
    intro ha
    refine v_iload C (oX6_numberOf.at 7 rfl) rfl ?_
    refine v_if_ltP C (oX6_numberOf.at 8 rfl) (tgt := 35) (by decide) (by omega) (fun hc => ?_) (fun b hc => ?_)
    · cases hc
    · cases hc
      rw [pI_succ]
      have hTa := (hT a (by omega)).2
      refine v_lload_n C (oX6_numberOf.at 9 rfl) rfl ?_
      refine v_aload_n C (oX6_numberOf.at 10 rfl) rfl ?_
      refine v_getf C (oX6_numberOf.at 11 rfl) fX6_29 hr rfl ?_
      refine v_i2lN C (oX6_numberOf.at 12 rfl) (by omega) ?_
      refine v_lmulN C (oX6_numberOf.at 13 rfl) ?_
      refine v_aload_n C (oX6_numberOf.at 14 rfl) rfl ?_
      refine v_iload C (oX6_numberOf.at 15 rfl) rfl ?_
      refine v_iald C (oX6_numberOf.at 16 rfl) hq (by decide) rfl (by omega) (hT _ (by omega)).1 ?_
      refine v_i2lN C (oX6_numberOf.at 17 rfl) (by omega) ?_
      refine v_laddN C (oX6_numberOf.at 18 rfl) ?_
      refine v_lstore_n C (oX6_numberOf.at 19 rfl) rfl ?_
      refine v_idecP C (oX6_numberOf.at 20 rfl) rfl ?_
      refine v_goto C (oX6_numberOf.at 21 rfl) (tgt := 10) (by decide) ?_
      dsimp only [sto1, sto2, killL]
      have := ih (by omega)
      rw [show m - a = (m - (a + 1)) + 1 by omega] at this
      exact this
theorem k_complementTable {w : Wt} {h : Hp} {r k wd n m q p : Nat} {f g : Nat → Int32} {T : Nat → Nat} (hr : h r = RO r k wd n m) (hk1 : 0 < k) (hk : k ≤ 3) (hm : m ≤ 27) (hq : h q = io 27 f) (hp : h p = io 27 g) (hqp : q ≠ p) (hpr : p ≠ r) (hT : ∀ i, i < m → f i = nI (T i) ∧ T i < k) : ConN mX6_complementTable 0 (0, 0) w [.ref r, .ref q, .ref p] h (.inl none) (fun h' => h' = hu h p (io 27 (mix g (fun i => nI (k - 1 - T (m - 1 - i))) m))) := by
  refine conI (by decide +kernel) ⟨fun _ => rfl, rfl, by simp⟩ (fun X C => ?_)
  change V X (0, 0) w h 0 [some (.ref r), some (.ref q), some (.ref p), none] []
  refine v_iconst C (oX6_complementTable.at 0 rfl) (v := nI 0) rfl ?_
  refine v_istore_n C (oX6_complementTable.at 1 rfl) rfl ?_
  dsimp only [sto1, sto2, killL]
  suffices H : ∀ j i, i + j = m → V X (0, 0) w (hu h p (io 27 (mix g (fun i => nI (k - 1 - T (m - 1 - i))) i))) 2 [some (.ref r), some (.ref q), some (.ref p), some (.int (nI i))] [] by
    have := H m 0 (by omega)
    rw [mix_0, hu_id h hp] at this
    exact this
  intro j
  induction j with
  | zero =>
    intro i hi
    refine v_iload_n C (oX6_complementTable.at 2 rfl) rfl ?_
    refine v_aload_n C (oX6_complementTable.at 3 rfl) rfl ?_
    refine v_getf C (oX6_complementTable.at 4 rfl) fX6_43 ((hu_n _ _ (Ne.symm hpr)).trans hr) rfl ?_
    refine v_icmp_geN C (oX6_complementTable.at 5 rfl) (tgt := 36) (by decide) (by omega) (by omega) (fun hc => ?_) (fun hc => ?_)
    · have e : i = m := by omega
      subst e
      exact v_vret C (oX6_complementTable.at 24 rfl) rfl rfl ⟨Nat.le_refl _, Nat.le_refl _⟩ ⟨rfl, rfl⟩
    · exact absurd hc (by omega)
  | succ j ih =>
    intro i hi
    have hTi := (hT (m - 1 - i) (by omega)).2
    refine v_iload_n C (oX6_complementTable.at 2 rfl) rfl ?_
    refine v_aload_n C (oX6_complementTable.at 3 rfl) rfl ?_
    refine v_getf C (oX6_complementTable.at 4 rfl) fX6_43 ((hu_n _ _ (Ne.symm hpr)).trans hr) rfl ?_
    refine v_icmp_geN C (oX6_complementTable.at 5 rfl) (tgt := 36) (by decide) (by omega) (by omega) (fun hc => ?_) (fun hc => ?_)
    · exact absurd hc (by omega)
    · refine v_aload_n C (oX6_complementTable.at 6 rfl) rfl ?_
      refine v_iload_n C (oX6_complementTable.at 7 rfl) rfl ?_
      refine v_aload_n C (oX6_complementTable.at 8 rfl) rfl ?_
      refine v_getf C (oX6_complementTable.at 9 rfl) fX6_29 ((hu_n _ _ (Ne.symm hpr)).trans hr) rfl ?_
      refine v_iconst C (oX6_complementTable.at 10 rfl) (v := nI 1) rfl ?_
      refine v_isubN C (oX6_complementTable.at 11 rfl) (by omega) ?_
      refine v_aload_n C (oX6_complementTable.at 12 rfl) rfl ?_
      refine v_aload_n C (oX6_complementTable.at 13 rfl) rfl ?_
      refine v_getf C (oX6_complementTable.at 14 rfl) fX6_43 ((hu_n _ _ (Ne.symm hpr)).trans hr) rfl ?_
      refine v_iconst C (oX6_complementTable.at 15 rfl) (v := nI 1) rfl ?_
      refine v_isubN C (oX6_complementTable.at 16 rfl) (by omega) ?_
      refine v_iload_n C (oX6_complementTable.at 17 rfl) rfl ?_
      refine v_isubN C (oX6_complementTable.at 18 rfl) (by omega) ?_
      refine v_iald C (oX6_complementTable.at 19 rfl) ((hu_n _ _ hqp).trans hq) (by decide) rfl (by omega) (hT _ (by omega)).1 ?_
      refine v_isubN C (oX6_complementTable.at 20 rfl) (by omega) ?_
      refine v_iast C (oX6_complementTable.at 21 rfl) (hu_s _ _ _) (by decide) rfl (by omega) ?_
      rw [hu_hu, mix_s _ _ _ _ rfl]
      refine v_iincN C (oX6_complementTable.at 22 rfl) rfl ?_
      refine v_goto C (oX6_complementTable.at 23 rfl) (tgt := 2) (by decide) ?_
      dsimp only [sto1, sto2, killL]
      exact ih (i + 1) (by omega)
/-- the number of the word turned round -/
def rvw (k x : Nat) : Nat → Nat
  | 0 => 0
  | t + 1 => rvw k x t * k + x / k ^ t % k
theorem rvw_lt {k : Nat} (hk : 0 < k) (x : Nat) : ∀ t, rvw k x t < k ^ t
  | 0 => by simp [rvw]
  | t + 1 => by
    have h1 := rvw_lt hk x t
    have h2 := Nat.mod_lt (x / k ^ t) hk
    have h3 : (rvw k x t + 1) * k ≤ k ^ t * k := Nat.mul_le_mul_right k h1
    rw [Nat.pow_succ, rvw]
    rw [Nat.add_mul, Nat.one_mul] at h3
    omega
theorem k_mirrorTable {w : Wt} {h : Hp} {r k wd n m q p : Nat} {f g e : Nat → Int32} (hr : h r = RO r k wd n m) (hk : k = 2 ∨ k = 3) (hw : wd ≤ 4) (hm : m = k ^ wd) (hm27 : m ≤ 27) (hq : h q = io 27 f) (hp : h p = io 27 g) (he : h (r + 4) = io 4 e) (hqp : q ≠ p) (hpr : p ≠ r) (hpe : p ≠ r + 4) (hqe : q ≠ r + 4) : ConN mX6_mirrorTable 2 (0, 0) w [.ref r, .ref q, .ref p] h (.inl none) (fun h' => ∃ e', h' = hu (hu h (r + 4) (io 4 e')) p (io 27 (mix g (fun i => f (rvw k i wd)) m))) := by
  refine conI (by decide +kernel) ⟨fun _ => rfl, rfl, by simp⟩ (fun X C => ?_)
  change V X (0, 0) w h 0 [some (.ref r), some (.ref q), some (.ref p), none, none, none] []
  refine v_iconst C (oX6_mirrorTable.at 0 rfl) (v := nI 0) rfl ?_
  refine v_istore_n C (oX6_mirrorTable.at 1 rfl) rfl ?_
  dsimp only [sto1, sto2, killL]
  suffices H : ∀ j i e' l4 l5, i + j = m → V X (0, 0) w (hu (hu h (r + 4) (io 4 e')) p (io 27 (mix g (fun i => f (rvw k i wd)) i))) 2 [some (.ref r), some (.ref q), some (.ref p), some (.int (nI i)), l4, l5] [] by
    have := H m 0 e none none (by omega)
    rw [mix_0, hu_id h he, hu_id h hp] at this
    exact this
  intro j
  have hk0 : 0 < k := by omega
  induction j with
  | zero =>
    intro i e' l4 l5 hi
    have hr1 : (hu (hu h (r + 4) (io 4 e')) p (io 27 (mix g (fun i => f (rvw k i wd)) i))) r = RO r k wd n m := by rw [hu_n _ _ (Ne.symm hpr), hu_n _ _ (by omega)]; exact hr
    refine v_iload_n C (oX6_mirrorTable.at 2 rfl) rfl ?_
    refine v_aload_n C (oX6_mirrorTable.at 3 rfl) rfl ?_
    refine v_getf C (oX6_mirrorTable.at 4 rfl) fX6_43 hr1 rfl ?_
    refine v_icmp_geN C (oX6_mirrorTable.at 5 rfl) (tgt := 75) (by decide) (by omega) (by omega) (fun hc => ?_) (fun hc => ?_)
    · have e1 : i = m := by omega
      subst e1
      exact v_vret C (oX6_mirrorTable.at 42 rfl) rfl rfl ⟨Nat.le_refl _, Nat.le_refl _⟩ ⟨rfl, e', rfl⟩
    · exact absurd hc (by omega)
  | succ j ih =>
    intro i e' l4 l5 hi
    have hr1 : (hu (hu h (r + 4) (io 4 e')) p (io 27 (mix g (fun i => f (rvw k i wd)) i))) r = RO r k wd n m := by rw [hu_n _ _ (Ne.symm hpr), hu_n _ _ (by omega)]; exact hr
    refine v_iload_n C (oX6_mirrorTable.at 2 rfl) rfl ?_
    refine v_aload_n C (oX6_mirrorTable.at 3 rfl) rfl ?_
    refine v_getf C (oX6_mirrorTable.at 4 rfl) fX6_43 hr1 rfl ?_
    refine v_icmp_geN C (oX6_mirrorTable.at 5 rfl) (tgt := 75) (by decide) (by omega) (by omega) (fun hc => ?_) (fun hc => ?_)
    · exact absurd hc (by omega)
    · have h4 : (hu (hu h (r + 4) (io 4 e')) p (io 27 (mix g (fun i => f (rvw k i wd)) i))) (r + 4) = io 4 e' := by rw [hu_n _ _ (Ne.symm hpe), hu_s]
      refine v_aload_n C (oX6_mirrorTable.at 6 rfl) rfl ?_
      refine v_iload_n C (oX6_mirrorTable.at 7 rfl) rfl ?_
      refine v_aload_n C (oX6_mirrorTable.at 8 rfl) rfl ?_
      refine v_getf C (oX6_mirrorTable.at 9 rfl) fX6_33 hr1 rfl ?_
      refine v_aload_n C (oX6_mirrorTable.at 10 rfl) rfl ?_
      refine v_getf C (oX6_mirrorTable.at 11 rfl) fX6_19 hr1 rfl ?_
      refine v_callV C (oX6_mirrorTable.at 12 rfl) cX6_62 hr1 (k_spreadWord hr1 hk (by omega) hw (by decide) h4 (by omega)) rfl rfl rfl ⟨rfl, rfl⟩ rfl rfl (fun _ => rfl) (fun h' hp => ?_)
      rw [show h' = _ from hp]
      dsimp only [Option.toList, List.cons_append, List.nil_append]
      rw [show hu (hu (hu h (r + 4) (io 4 e')) p (io 27 (mix g (fun i => f (rvw k i wd)) i))) (r + 4) (io 4 (spw k wd i e' 0)) = hu (hu h (r + 4) (io 4 (spw k wd i e' 0))) p (io 27 (mix g (fun i => f (rvw k i wd)) i)) by
        funext j; simp only [hu]; split <;> split <;> first | rfl | omega]
      have hr1 : (hu (hu h (r + 4) (io 4 (spw k wd i e' 0))) p (io 27 (mix g (fun i => f (rvw k i wd)) i))) r = RO r k wd n m := by rw [hu_n _ _ (Ne.symm hpr), hu_n _ _ (by omega)]; exact hr
      have h4 : (hu (hu h (r + 4) (io 4 (spw k wd i e' 0))) p (io 27 (mix g (fun i => f (rvw k i wd)) i))) (r + 4) = io 4 (spw k wd i e' 0) := by rw [hu_n _ _ (Ne.symm hpe), hu_s]
      have h2 : (hu (hu h (r + 4) (io 4 (spw k wd i e' 0))) p (io 27 (mix g (fun i => f (rvw k i wd)) i))) q = io 27 f := by rw [hu_n _ _ hqp, hu_n _ _ hqe]; exact hq
      refine v_iconst C (oX6_mirrorTable.at 13 rfl) (v := nI 0) rfl ?_
      refine v_istore C (oX6_mirrorTable.at 14 rfl) rfl ?_
      refine v_aload_n C (oX6_mirrorTable.at 15 rfl) rfl ?_
      refine v_getf C (oX6_mirrorTable.at 16 rfl) fX6_33 hr1 rfl ?_
      refine v_iconst C (oX6_mirrorTable.at 17 rfl) (v := nI 1) rfl ?_
      refine v_isubP C (oX6_mirrorTable.at 18 rfl) ?_
      refine v_istore C (oX6_mirrorTable.at 19 rfl) rfl ?_
      dsimp only [sto1, sto2, killL]
      have inner : ∀ a t, t + a = wd → V X (0, 0) w (hu (hu h (r + 4) (io 4 (spw k wd i e' 0))) p (io 27 (mix g (fun i => f (rvw k i wd)) i))) 34 [some (.ref r), some (.ref q), some (.ref p), some (.int (nI i)), some (.int (nI (rvw k i t))), some (.int (pI a))] [] := by
        intro a
        induction a with
        | zero =>
          intro t ht
          have e1 : t = wd := by omega
          subst e1
          have rl := rvw_lt hk0 i t
          rw [← hm] at rl
          have h3 := hu_s (hu h (r + 4) (io 4 (spw k t i e' 0))) p (io 27 (mix g (fun i => f (rvw k i t)) i))
          refine v_iload C (oX6_mirrorTable.at 20 rfl) rfl ?_
          refine v_if_ltP C (oX6_mirrorTable.at 21 rfl) (tgt := 62) (by decide) (by omega) (fun hc => ?_) (fun b hc => ?_)
          · refine v_aload_n C (oX6_mirrorTable.at 34 rfl) rfl ?_
            refine v_iload_n C (oX6_mirrorTable.at 35 rfl) rfl ?_
            refine v_aload_n C (oX6_mirrorTable.at 36 rfl) rfl ?_
            refine v_iload C (oX6_mirrorTable.at 37 rfl) rfl ?_
            refine v_iald C (oX6_mirrorTable.at 38 rfl) h2 (by decide) rfl (Nat.lt_of_lt_of_le rl hm27) rfl ?_
            refine v_iast C (oX6_mirrorTable.at 39 rfl) h3 (by decide) rfl (by omega) ?_
            rw [hu_hu, mix_s _ _ _ _ rfl]
            refine v_iincN C (oX6_mirrorTable.at 40 rfl) rfl ?_
            refine v_goto C (oX6_mirrorTable.at 41 rfl) (tgt := 2) (by decide) ?_
            dsimp only [sto1, sto2, killL]
            exact ih (i + 1) _ _ _ (by omega)
          · cases hc
        | succ a iha =>
          intro t ht
          refine v_iload C (oX6_mirrorTable.at 20 rfl) rfl ?_
          refine v_if_ltP C (oX6_mirrorTable.at 21 rfl) (tgt := 62) (by decide) (by omega) (fun hc => ?_) (fun b hc => ?_)
          · cases hc
          · cases hc
            rw [pI_succ]
            have hv : spw k wd i e' 0 a = nI (i / k ^ t % k) := by
              unfold spw cel; rw [if_pos (by omega)]; congr 4; omega
            refine v_iload C (oX6_mirrorTable.at 22 rfl) rfl ?_
            refine v_aload_n C (oX6_mirrorTable.at 23 rfl) rfl ?_
            refine v_getf C (oX6_mirrorTable.at 24 rfl) fX6_29 hr1 rfl ?_
            refine v_imulN C (oX6_mirrorTable.at 25 rfl) ?_
            refine v_aload_n C (oX6_mirrorTable.at 26 rfl) rfl ?_
            refine v_getf C (oX6_mirrorTable.at 27 rfl) fX6_19 hr1 rfl ?_
            refine v_iload C (oX6_mirrorTable.at 28 rfl) rfl ?_
            refine v_iald C (oX6_mirrorTable.at 29 rfl) h4 (by decide) rfl (by omega) hv ?_
            refine v_iaddN C (oX6_mirrorTable.at 30 rfl) ?_
            refine v_istore C (oX6_mirrorTable.at 31 rfl) rfl ?_
            refine v_idecP C (oX6_mirrorTable.at 32 rfl) rfl ?_
            refine v_goto C (oX6_mirrorTable.at 33 rfl) (tgt := 34) (by decide) ?_
            dsimp only [sto1, sto2, killL]
            exact iha (t + 1) (by omega)
      exact inner wd 0 (by omega)
end
section
/-! ===== Rule: numbers, properties, sizes; Registers ===== -/
section VZ
variable {X : CT} {μ : Mi} {tab : List ExceptionTableEntry} {d : Nat} {zR : Nat × Nat} {o : Oc} {P : Wt → Hp → Prop} {z : Nat × Nat} {w : Wt} {h : Hp} {pc : Nat} {L : List (Option Value)} {st : List Value}
theorem v_zret1 (C : Cx X μ tab d zR o P) (hd : decode μ.2.1 pc = .ok (.ireturn, 1)) (hr : μ.2.2.2.1 = some .boolean) (ho : o = .inl (some (.int (bI true)))) (hz : z.1 ≤ zR.1 ∧ z.2 ≤ zR.2) (hP : P w h) : V X z w h pc L [.int (nI 1)] := v_zret (b := true) C hd hr ho hz hP
theorem v_zret0 (C : Cx X μ tab d zR o P) (hd : decode μ.2.1 pc = .ok (.ireturn, 1)) (hr : μ.2.2.2.1 = some .boolean) (ho : o = .inl (some (.int (bI false)))) (hz : z.1 ≤ zR.1 ∧ z.2 ≤ zR.2) (hP : P w h) : V X z w h pc L [.int (nI 0)] := v_zret (b := false) C hd hr ho hz hP
end VZ
def allB (p : Nat → Bool) : Nat → Bool
  | 0 => true
  | n + 1 => allB p n && p n
theorem allB_f {p : Nat → Bool} {i : Nat} (hp : p i = false) : ∀ n, i < n → allB p n = false
  | 0, h => by omega
  | n + 1, h => by
    by_cases e : i = n
    · subst e; simp [allB, hp]
    · simp [allB, allB_f hp n (by omega)]
theorem allB_iff {p : Nat → Bool} : ∀ n, allB p n = true ↔ ∀ i, i < n → p i = true
  | 0 => by simp [allB]
  | n + 1 => by
    rw [allB, Bool.and_eq_true, allB_iff n]
    refine ⟨fun ⟨h1, h2⟩ i hi => ?_, fun h1 => ⟨fun i hi => h1 i (by omega), h1 n (by omega)⟩⟩
    by_cases e : i = n
    · subst e; exact h2
    · exact h1 i (by omega)
theorem k_countOfRules {w : Wt} {h : Hp} {r k wd n m : Nat} (hr : h r = RO r k wd n m) (hk : k ≤ 3) (hm : m ≤ 27) : ConN mX6_countOfRules 0 (0, 0) w [.ref r] h (.inl (some (.long (lN (k ^ m))))) (fun h' => h' = h) := by
  refine conI (by decide +kernel) ⟨fun _ => rfl, rfl, by simp⟩ (fun X C => ?_)
  change V X (0, 0) w h 0 [some (.ref r), none, none, none] []
  refine v_lconst C (oX6_countOfRules.at 0 rfl) (v := lN 1) rfl ?_
  refine v_lstore_n C (oX6_countOfRules.at 1 rfl) rfl ?_
  refine v_iconst C (oX6_countOfRules.at 2 rfl) (v := nI 0) rfl ?_
  refine v_istore_n C (oX6_countOfRules.at 3 rfl) rfl ?_
  dsimp only [sto1, sto2, killL]
  suffices H : ∀ j i, i + j = m → V X (0, 0) w h 4 [some (.ref r), some (.long (lN (k ^ i))), none, some (.int (nI i))] [] from H m 0 (by omega)
  intro j
  induction j with
  | zero =>
    intro i hi
    refine v_iload_n C (oX6_countOfRules.at 4 rfl) rfl ?_
    refine v_aload_n C (oX6_countOfRules.at 5 rfl) rfl ?_
    refine v_getf C (oX6_countOfRules.at 6 rfl) fX6_43 hr rfl ?_
    refine v_icmp_geN C (oX6_countOfRules.at 7 rfl) (tgt := 26) (by decide) (by omega) (by omega) (fun hc => ?_) (fun hc => ?_)
    · have e : i = m := by omega
      subst e
      refine v_lload_n C (oX6_countOfRules.at 16 rfl) rfl ?_
      exact v_lret C (oX6_countOfRules.at 17 rfl) rfl rfl ⟨Nat.le_refl _, Nat.le_refl _⟩ ⟨rfl, rfl⟩
    · exact absurd hc (by omega)
  | succ j ih =>
    intro i hi
    refine v_iload_n C (oX6_countOfRules.at 4 rfl) rfl ?_
    refine v_aload_n C (oX6_countOfRules.at 5 rfl) rfl ?_
    refine v_getf C (oX6_countOfRules.at 6 rfl) fX6_43 hr rfl ?_
    refine v_icmp_geN C (oX6_countOfRules.at 7 rfl) (tgt := 26) (by decide) (by omega) (by omega) (fun hc => ?_) (fun hc => ?_)
    · exact absurd hc (by omega)
    · refine v_lload_n C (oX6_countOfRules.at 8 rfl) rfl ?_
      refine v_aload_n C (oX6_countOfRules.at 9 rfl) rfl ?_
      refine v_getf C (oX6_countOfRules.at 10 rfl) fX6_29 hr rfl ?_
      refine v_i2lN C (oX6_countOfRules.at 11 rfl) (by omega) ?_
      refine v_lmulN C (oX6_countOfRules.at 12 rfl) ?_
      refine v_lstore_n C (oX6_countOfRules.at 13 rfl) rfl ?_
      refine v_iincN C (oX6_countOfRules.at 14 rfl) rfl ?_
      refine v_goto C (oX6_countOfRules.at 15 rfl) (tgt := 4) (by decide) ?_
      dsimp only [sto1, sto2, killL]
      rw [← Nat.pow_succ]
      exact ih (i + 1) (by omega)
theorem k_spreadNumber {w : Wt} {h : Hp} {r k wd n m q a : Nat} {g : Nat → Int32} (hr : h r = RO r k wd n m) (hk : k = 2 ∨ k = 3) (hm : m ≤ 27) (ha : a < 2 ^ 63) (hq : h q = io 27 g) (hqr : q ≠ r) : ConN mX6_spreadNumber 0 (0, 0) w [.ref r, .long (lN a), .ref q] h (.inl none) (fun h' => h' = hu h q (io 27 (mix g (fun i => nI (a / k ^ i % k)) m))) := by
  refine conI (by decide +kernel) ⟨fun _ => rfl, rfl, by simp⟩ (fun X C => ?_)
  change V X (0, 0) w h 0 [some (.ref r), some (.long (lN a)), none, some (.ref q), none, none, none] []
  refine v_lload_n C (oX6_spreadNumber.at 0 rfl) rfl ?_
  refine v_lstore C (oX6_spreadNumber.at 1 rfl) rfl ?_
  refine v_iconst C (oX6_spreadNumber.at 2 rfl) (v := nI 0) rfl ?_
  refine v_istore C (oX6_spreadNumber.at 3 rfl) rfl ?_
  dsimp only [sto1, sto2, killL]
  suffices H : ∀ j i, i + j = m → V X (0, 0) w (hu h q (io 27 (mix g (fun i => nI (a / k ^ i % k)) i))) 6 [some (.ref r), some (.long (lN a)), none, some (.ref q), some (.long (lN (a / k ^ i))), none, some (.int (nI i))] [] by
    have := H m 0 (by omega)
    rw [mix_0, hu_id h hq, Nat.pow_zero, Nat.div_one] at this
    exact this
  intro j
  induction j with
  | zero =>
    intro i hi
    refine v_iload C (oX6_spreadNumber.at 4 rfl) rfl ?_
    refine v_aload_n C (oX6_spreadNumber.at 5 rfl) rfl ?_
    refine v_getf C (oX6_spreadNumber.at 6 rfl) fX6_43 ((hu_n _ _ (Ne.symm hqr)).trans hr) rfl ?_
    refine v_icmp_geN C (oX6_spreadNumber.at 7 rfl) (tgt := 74) (by decide) (by omega) (by omega) (fun hc => ?_) (fun hc => ?_)
    · have e : i = m := by omega
      subst e
      exact v_vret C (oX6_spreadNumber.at 37 rfl) rfl rfl ⟨Nat.le_refl _, Nat.le_refl _⟩ ⟨rfl, rfl⟩
    · exact absurd hc (by omega)
  | succ j ih =>
    intro i hi
    have hai : a / k ^ i < 2 ^ 63 := ndiv_lt ha
    refine v_iload C (oX6_spreadNumber.at 4 rfl) rfl ?_
    refine v_aload_n C (oX6_spreadNumber.at 5 rfl) rfl ?_
    refine v_getf C (oX6_spreadNumber.at 6 rfl) fX6_43 ((hu_n _ _ (Ne.symm hqr)).trans hr) rfl ?_
    refine v_icmp_geN C (oX6_spreadNumber.at 7 rfl) (tgt := 74) (by decide) (by omega) (by omega) (fun hc => ?_) (fun hc => ?_)
    · exact absurd hc (by omega)
    · rcases hk with rfl | rfl
      · refine v_aload_n C (oX6_spreadNumber.at 8 rfl) rfl ?_
        refine v_iload C (oX6_spreadNumber.at 9 rfl) rfl ?_
        refine v_aload_n C (oX6_spreadNumber.at 10 rfl) rfl ?_
        refine v_getf C (oX6_spreadNumber.at 11 rfl) fX6_29 ((hu_n _ _ (Ne.symm hqr)).trans hr) rfl ?_
        refine v_iconst C (oX6_spreadNumber.at 12 rfl) (v := nI 2) rfl ?_
        refine v_icmp_neN C (oX6_spreadNumber.at 13 rfl) (tgt := 35) (by decide) (by omega) (by omega) (fun hc => ?_) (fun hc => ?_)
        · exact absurd rfl hc
        · refine v_lload C (oX6_spreadNumber.at 14 rfl) rfl ?_
          refine v_ldc2 C (v := lN 2) (tj3 121 (by rfl) rfl) (oX6_spreadNumber.at 15 rfl) ?_
          refine v_lremN C (oX6_spreadNumber.at 16 rfl) (by omega) (by omega) (by omega) ?_
          refine v_goto C (oX6_spreadNumber.at 17 rfl) (tgt := 41) (by decide) ?_
          refine v_l2iN C (oX6_spreadNumber.at 21 rfl) ?_
          refine v_iast C (oX6_spreadNumber.at 22 rfl) (hu_s _ _ _) (by decide) rfl (by omega) ?_
          rw [hu_hu, mix_s _ _ _ _ rfl]
          refine v_aload_n C (oX6_spreadNumber.at 23 rfl) rfl ?_
          refine v_getf C (oX6_spreadNumber.at 24 rfl) fX6_29 ((hu_n _ _ (Ne.symm hqr)).trans hr) rfl ?_
          refine v_iconst C (oX6_spreadNumber.at 25 rfl) (v := nI 2) rfl ?_
          refine v_icmp_neN C (oX6_spreadNumber.at 26 rfl) (tgt := 60) (by decide) (by omega) (by omega) (fun hc => ?_) (fun hc => ?_)
          · exact absurd rfl hc
          · refine v_lload C (oX6_spreadNumber.at 27 rfl) rfl ?_
            refine v_ldc2 C (v := lN 2) (tj3 121 (by rfl) rfl) (oX6_spreadNumber.at 28 rfl) ?_
            refine v_ldivN C (oX6_spreadNumber.at 29 rfl) (by omega) (by omega) (by omega) ?_
            refine v_goto C (oX6_spreadNumber.at 30 rfl) (tgt := 66) (by decide) ?_
            refine v_lstore C (oX6_spreadNumber.at 34 rfl) rfl ?_
            refine v_iincN C (oX6_spreadNumber.at 35 rfl) rfl ?_
            refine v_goto C (oX6_spreadNumber.at 36 rfl) (tgt := 6) (by decide) ?_
            dsimp only [sto1, sto2, killL]
            rw [ndiv_s]
            exact ih (i + 1) (by omega)
      · refine v_aload_n C (oX6_spreadNumber.at 8 rfl) rfl ?_
        refine v_iload C (oX6_spreadNumber.at 9 rfl) rfl ?_
        refine v_aload_n C (oX6_spreadNumber.at 10 rfl) rfl ?_
        refine v_getf C (oX6_spreadNumber.at 11 rfl) fX6_29 ((hu_n _ _ (Ne.symm hqr)).trans hr) rfl ?_
        refine v_iconst C (oX6_spreadNumber.at 12 rfl) (v := nI 2) rfl ?_
        refine v_icmp_neN C (oX6_spreadNumber.at 13 rfl) (tgt := 35) (by decide) (by omega) (by omega) (fun hc => ?_) (fun hc => ?_)
        · refine v_lload C (oX6_spreadNumber.at 18 rfl) rfl ?_
          refine v_ldc2 C (v := lN 3) (tj3 122 (by rfl) rfl) (oX6_spreadNumber.at 19 rfl) ?_
          refine v_lremN C (oX6_spreadNumber.at 20 rfl) (by omega) (by omega) (by omega) ?_
          refine v_l2iN C (oX6_spreadNumber.at 21 rfl) ?_
          refine v_iast C (oX6_spreadNumber.at 22 rfl) (hu_s _ _ _) (by decide) rfl (by omega) ?_
          rw [hu_hu, mix_s _ _ _ _ rfl]
          refine v_aload_n C (oX6_spreadNumber.at 23 rfl) rfl ?_
          refine v_getf C (oX6_spreadNumber.at 24 rfl) fX6_29 ((hu_n _ _ (Ne.symm hqr)).trans hr) rfl ?_
          refine v_iconst C (oX6_spreadNumber.at 25 rfl) (v := nI 2) rfl ?_
          refine v_icmp_neN C (oX6_spreadNumber.at 26 rfl) (tgt := 60) (by decide) (by omega) (by omega) (fun hc => ?_) (fun hc => ?_)
          · refine v_lload C (oX6_spreadNumber.at 31 rfl) rfl ?_
            refine v_ldc2 C (v := lN 3) (tj3 122 (by rfl) rfl) (oX6_spreadNumber.at 32 rfl) ?_
            refine v_ldivN C (oX6_spreadNumber.at 33 rfl) (by omega) (by omega) (by omega) ?_
            refine v_lstore C (oX6_spreadNumber.at 34 rfl) rfl ?_
            refine v_iincN C (oX6_spreadNumber.at 35 rfl) rfl ?_
            refine v_goto C (oX6_spreadNumber.at 36 rfl) (tgt := 6) (by decide) ?_
            dsimp only [sto1, sto2, killL]
            rw [ndiv_s]
            exact ih (i + 1) (by omega)
          · cases hc
        · cases hc
/-- the outputs at a, a + st .. as bits -/
def snB (f : Nat → Int32) (a st : Nat) : Nat → Int32
  | 0 => nI 0
  | s + 1 => snB f a st s ||| (nI 1 <<< (f (a + s * st) &&& 31))
def dfB (f : Nat → Int32) (k a st : Nat) : Bool := decide (snB f a st k = (nI 1 <<< (nI k &&& 31)) - nI 1)
theorem k_areDifferent {w : Wt} {h : Hp} {r k wd n m a st : Nat} {f : Nat → Int32} (hr : h r = RO r k wd n m) (hk : k ≤ 3) (ht : h (r + 1) = io 27 f) (hb : ∀ s, s < k → a + s * st < 27) : ConN mX6_areDifferent 0 (0, 0) w [.ref r, .int (nI a), .int (nI st)] h (.inl (some (.int (bI (dfB f k a st))))) (fun h' => h' = h) := by
  refine conI (by decide +kernel) ⟨fun _ => rfl, rfl, by simp⟩ (fun X C => ?_)
  change V X (0, 0) w h 0 [some (.ref r), some (.int (nI a)), some (.int (nI st)), none, none] []
  refine v_iconst C (oX6_areDifferent.at 0 rfl) (v := nI 0) rfl ?_
  refine v_istore_n C (oX6_areDifferent.at 1 rfl) rfl ?_
  refine v_iconst C (oX6_areDifferent.at 2 rfl) (v := nI 0) rfl ?_
  refine v_istore C (oX6_areDifferent.at 3 rfl) rfl ?_
  dsimp only [sto1, sto2, killL]
  suffices H : ∀ j i, i + j = k → V X (0, 0) w h 5 [some (.ref r), some (.int (nI a)), some (.int (nI st)), some (.int (snB f a st i)), some (.int (nI i))] [] from H k 0 (by omega)
  intro j
  induction j with
  | zero =>
    intro i hi
    refine v_iload C (oX6_areDifferent.at 4 rfl) rfl ?_
    refine v_aload_n C (oX6_areDifferent.at 5 rfl) rfl ?_
    refine v_getf C (oX6_areDifferent.at 6 rfl) fX6_29 hr rfl ?_
    refine v_icmp_geN C (oX6_areDifferent.at 7 rfl) (tgt := 36) (by decide) (by omega) (by omega) (fun hc => ?_) (fun hc => ?_)
    · have e : i = k := by omega
      subst e
      refine v_iload_n C (oX6_areDifferent.at 23 rfl) rfl ?_
      refine v_iconst C (oX6_areDifferent.at 24 rfl) (v := nI 1) rfl ?_
      refine v_aload_n C (oX6_areDifferent.at 25 rfl) rfl ?_
      refine v_getf C (oX6_areDifferent.at 26 rfl) fX6_29 hr rfl ?_
      refine v_ishl C (oX6_areDifferent.at 27 rfl) ?_
      refine v_iconst C (oX6_areDifferent.at 28 rfl) (v := nI 1) rfl ?_
      refine v_isub C (oX6_areDifferent.at 29 rfl) ?_
      refine v_icmp_ne C (oX6_areDifferent.at 30 rfl) (tgt := 52) (by decide) (fun hc => ?_) (fun hc => ?_)
      · have e2 : dfB f i a st = false := by unfold dfB; simp [hc]
        rw [e2] at C
        refine v_iconst C (oX6_areDifferent.at 33 rfl) (v := nI 0) rfl ?_
        exact v_zret0 C (oX6_areDifferent.at 34 rfl) rfl rfl ⟨Nat.le_refl _, Nat.le_refl _⟩ ⟨rfl, rfl⟩
      · have e2 : dfB f i a st = true := by unfold dfB; simp [hc]
        rw [e2] at C
        refine v_iconst C (oX6_areDifferent.at 31 rfl) (v := nI 1) rfl ?_
        refine v_goto C (oX6_areDifferent.at 32 rfl) (tgt := 53) (by decide) ?_
        exact v_zret1 C (oX6_areDifferent.at 34 rfl) rfl rfl ⟨Nat.le_refl _, Nat.le_refl _⟩ ⟨rfl, rfl⟩
    · exact absurd hc (by omega)
  | succ j ih =>
    intro i hi
    refine v_iload C (oX6_areDifferent.at 4 rfl) rfl ?_
    refine v_aload_n C (oX6_areDifferent.at 5 rfl) rfl ?_
    refine v_getf C (oX6_areDifferent.at 6 rfl) fX6_29 hr rfl ?_
    refine v_icmp_geN C (oX6_areDifferent.at 7 rfl) (tgt := 36) (by decide) (by omega) (by omega) (fun hc => ?_) (fun hc => ?_)
    · exact absurd hc (by omega)
    · refine v_iload_n C (oX6_areDifferent.at 8 rfl) rfl ?_
      refine v_iconst C (oX6_areDifferent.at 9 rfl) (v := nI 1) rfl ?_
      refine v_aload_n C (oX6_areDifferent.at 10 rfl) rfl ?_
      refine v_getf C (oX6_areDifferent.at 11 rfl) fX6_9 hr rfl ?_
      refine v_iload_n C (oX6_areDifferent.at 12 rfl) rfl ?_
      refine v_iload C (oX6_areDifferent.at 13 rfl) rfl ?_
      refine v_iload_n C (oX6_areDifferent.at 14 rfl) rfl ?_
      refine v_imulN C (oX6_areDifferent.at 15 rfl) ?_
      refine v_iaddN C (oX6_areDifferent.at 16 rfl) ?_
      refine v_iald C (oX6_areDifferent.at 17 rfl) ht (by decide) rfl (hb _ (by omega)) rfl ?_
      refine v_ishl C (oX6_areDifferent.at 18 rfl) ?_
      refine v_ior C (oX6_areDifferent.at 19 rfl) ?_
      refine v_istore_n C (oX6_areDifferent.at 20 rfl) rfl ?_
      refine v_iincN C (oX6_areDifferent.at 21 rfl) rfl ?_
      refine v_goto C (oX6_areDifferent.at 22 rfl) (tgt := 5) (by decide) ?_
      dsimp only [sto1, sto2, killL]
      exact ih (i + 1) (by omega)
theorem k_isLeftPermutive {w : Wt} {h : Hp} {r k wd n m : Nat} {f : Nat → Int32} (hr : h r = RO r k wd n m) (hk : k ≤ 3) (hn : n ≤ 9) (hnk : n * k ≤ 27) (ht : h (r + 1) = io 27 f) : ConN mX6_isLeftPermutive 1 (0, 0) w [.ref r] h (.inl (some (.int (bI (allB (fun i => dfB f k i n) n))))) (fun h' => h' = h) := by
  refine conI (by decide +kernel) ⟨fun _ => rfl, rfl, by simp⟩ (fun X C => ?_)
  change V X (0, 0) w h 0 [some (.ref r), none] []
  refine v_iconst C (oX6_isLeftPermutive.at 0 rfl) (v := nI 0) rfl ?_
  refine v_istore_n C (oX6_isLeftPermutive.at 1 rfl) rfl ?_
  dsimp only [sto1, sto2, killL]
  suffices H : ∀ j i, i + j = n → allB (fun i => dfB f k i n) i = true → V X (0, 0) w h 2 [some (.ref r), some (.int (nI i))] [] from H n 0 (by omega) rfl
  intro j
  induction j with
  | zero =>
    intro i hi hall
    refine v_iload_n C (oX6_isLeftPermutive.at 2 rfl) rfl ?_
    refine v_aload_n C (oX6_isLeftPermutive.at 3 rfl) rfl ?_
    refine v_getf C (oX6_isLeftPermutive.at 4 rfl) fX6_40 hr rfl ?_
    refine v_icmp_geN C (oX6_isLeftPermutive.at 5 rfl) (tgt := 30) (by decide) (by omega) (by omega) (fun hc => ?_) (fun hc => ?_)
    · have e : i = n := by omega
      subst e
      rw [hall] at C
      refine v_iconst C (oX6_isLeftPermutive.at 16 rfl) (v := nI 1) rfl ?_
      exact v_zret1 C (oX6_isLeftPermutive.at 17 rfl) rfl rfl ⟨Nat.le_refl _, Nat.le_refl _⟩ ⟨rfl, rfl⟩
    · exact absurd hc (by omega)
  | succ j ih =>
    intro i hi hall
    have hb : ∀ s, s < k → i + s * n < 27 := fun s hs => by
      have : (s + 1) * n ≤ k * n := Nat.mul_le_mul_right n hs
      rw [Nat.add_mul, Nat.mul_comm k n] at this
      omega
    refine v_iload_n C (oX6_isLeftPermutive.at 2 rfl) rfl ?_
    refine v_aload_n C (oX6_isLeftPermutive.at 3 rfl) rfl ?_
    refine v_getf C (oX6_isLeftPermutive.at 4 rfl) fX6_40 hr rfl ?_
    refine v_icmp_geN C (oX6_isLeftPermutive.at 5 rfl) (tgt := 30) (by decide) (by omega) (by omega) (fun hc => ?_) (fun hc => ?_)
    · exact absurd hc (by omega)
    · refine v_aload_n C (oX6_isLeftPermutive.at 6 rfl) rfl ?_
      refine v_iload_n C (oX6_isLeftPermutive.at 7 rfl) rfl ?_
      refine v_aload_n C (oX6_isLeftPermutive.at 8 rfl) rfl ?_
      refine v_getf C (oX6_isLeftPermutive.at 9 rfl) fX6_40 hr rfl ?_
      refine v_callV C (oX6_isLeftPermutive.at 10 rfl) cX6_66 hr (k_areDifferent hr hk ht hb) rfl rfl rfl ⟨rfl, rfl⟩ rfl rfl (fun _ => rfl) (fun h' hp => ?_)
      rw [show h' = _ from hp]
      dsimp only [Option.toList, List.cons_append, List.nil_append]
      refine v_if_neB C (oX6_isLeftPermutive.at 11 rfl) (tgt := 24) (by decide) (fun hc => ?_) (fun hc => ?_)
      · refine v_iincN C (oX6_isLeftPermutive.at 14 rfl) rfl ?_
        refine v_goto C (oX6_isLeftPermutive.at 15 rfl) (tgt := 2) (by decide) ?_
        dsimp only [sto1, sto2, killL]
        exact ih (i + 1) (by omega) (by simp [allB, hall, hc])
      · rw [allB_f (p := fun i => dfB f k i n) (i := i) hc n (by omega)] at C
        refine v_iconst C (oX6_isLeftPermutive.at 12 rfl) (v := nI 0) rfl ?_
        exact v_zret0 C (oX6_isLeftPermutive.at 13 rfl) rfl rfl ⟨Nat.le_refl _, Nat.le_refl _⟩ ⟨rfl, rfl⟩
theorem k_isRightPermutive {w : Wt} {h : Hp} {r k wd n m : Nat} {f : Nat → Int32} (hr : h r = RO r k wd n m) (hk : k ≤ 3) (hn : n ≤ 9) (hnk : n * k ≤ 27) (ht : h (r + 1) = io 27 f) : ConN mX6_isRightPermutive 1 (0, 0) w [.ref r] h (.inl (some (.int (bI (allB (fun i => dfB f k (i * k) 1) n))))) (fun h' => h' = h) := by
  refine conI (by decide +kernel) ⟨fun _ => rfl, rfl, by simp⟩ (fun X C => ?_)
  change V X (0, 0) w h 0 [some (.ref r), none] []
  refine v_iconst C (oX6_isRightPermutive.at 0 rfl) (v := nI 0) rfl ?_
  refine v_istore_n C (oX6_isRightPermutive.at 1 rfl) rfl ?_
  dsimp only [sto1, sto2, killL]
  suffices H : ∀ j i, i + j = n → allB (fun i => dfB f k (i * k) 1) i = true → V X (0, 0) w h 2 [some (.ref r), some (.int (nI i))] [] from H n 0 (by omega) rfl
  intro j
  induction j with
  | zero =>
    intro i hi hall
    refine v_iload_n C (oX6_isRightPermutive.at 2 rfl) rfl ?_
    refine v_aload_n C (oX6_isRightPermutive.at 3 rfl) rfl ?_
    refine v_getf C (oX6_isRightPermutive.at 4 rfl) fX6_40 hr rfl ?_
    refine v_icmp_geN C (oX6_isRightPermutive.at 5 rfl) (tgt := 32) (by decide) (by omega) (by omega) (fun hc => ?_) (fun hc => ?_)
    · have e : i = n := by omega
      subst e
      rw [hall] at C
      refine v_iconst C (oX6_isRightPermutive.at 18 rfl) (v := nI 1) rfl ?_
      exact v_zret1 C (oX6_isRightPermutive.at 19 rfl) rfl rfl ⟨Nat.le_refl _, Nat.le_refl _⟩ ⟨rfl, rfl⟩
    · exact absurd hc (by omega)
  | succ j ih =>
    intro i hi hall
    have hb : ∀ s, s < k → i * k + s * 1 < 27 := fun s hs => by
      have : (i + 1) * k ≤ n * k := Nat.mul_le_mul_right k (by omega)
      rw [Nat.add_mul] at this
      omega
    refine v_iload_n C (oX6_isRightPermutive.at 2 rfl) rfl ?_
    refine v_aload_n C (oX6_isRightPermutive.at 3 rfl) rfl ?_
    refine v_getf C (oX6_isRightPermutive.at 4 rfl) fX6_40 hr rfl ?_
    refine v_icmp_geN C (oX6_isRightPermutive.at 5 rfl) (tgt := 32) (by decide) (by omega) (by omega) (fun hc => ?_) (fun hc => ?_)
    · exact absurd hc (by omega)
    · refine v_aload_n C (oX6_isRightPermutive.at 6 rfl) rfl ?_
      refine v_iload_n C (oX6_isRightPermutive.at 7 rfl) rfl ?_
      refine v_aload_n C (oX6_isRightPermutive.at 8 rfl) rfl ?_
      refine v_getf C (oX6_isRightPermutive.at 9 rfl) fX6_29 hr rfl ?_
      refine v_imulN C (oX6_isRightPermutive.at 10 rfl) ?_
      refine v_iconst C (oX6_isRightPermutive.at 11 rfl) (v := nI 1) rfl ?_
      refine v_callV C (oX6_isRightPermutive.at 12 rfl) cX6_66 hr (k_areDifferent hr hk ht hb) rfl rfl rfl ⟨rfl, rfl⟩ rfl rfl (fun _ => rfl) (fun h' hp => ?_)
      rw [show h' = _ from hp]
      dsimp only [Option.toList, List.cons_append, List.nil_append]
      refine v_if_neB C (oX6_isRightPermutive.at 13 rfl) (tgt := 26) (by decide) (fun hc => ?_) (fun hc => ?_)
      · refine v_iincN C (oX6_isRightPermutive.at 16 rfl) rfl ?_
        refine v_goto C (oX6_isRightPermutive.at 17 rfl) (tgt := 2) (by decide) ?_
        dsimp only [sto1, sto2, killL]
        exact ih (i + 1) (by omega) (by simp [allB, hall, hc])
      · rw [allB_f (p := fun i => dfB f k (i * k) 1) (i := i) hc n (by omega)] at C
        refine v_iconst C (oX6_isRightPermutive.at 14 rfl) (v := nI 0) rfl ?_
        exact v_zret0 C (oX6_isRightPermutive.at 15 rfl) rfl rfl ⟨Nat.le_refl _, Nat.le_refl _⟩ ⟨rfl, rfl⟩
/-- are there automata of this size -/
def szB (x y : Int32) : Bool := (decide (2 ≤ y)) && ((decide (x = 2) && decide (y ≤ 4)) || (decide (x = 3) && decide (y ≤ 3)))
theorem k_exists {w : Wt} {h : Hp} {x y : Int32} : ConN mX6_exists 0 (0, 0) w [.int x, .int y] h (.inl (some (.int (bI (szB x y))))) (fun h' => h' = h) := by
  refine conI (by decide +kernel) ⟨fun _ => rfl, rfl, by simp⟩ (fun X C => ?_)
  change V X (0, 0) w h 0 [some (.int x), some (.int y)] []
  have n2 : nI 2 = 2 := rfl
  have n3 : nI 3 = 3 := rfl
  have n4 : nI 4 = 4 := rfl
  have F : szB x y = false → V X (0, 0) w h 29 [some (.int x), some (.int y)] [] := fun e => by
    rw [e] at C
    refine v_iconst C (oX6_exists.at 17 rfl) (v := nI 0) rfl ?_
    exact v_zret0 C (oX6_exists.at 18 rfl) rfl rfl ⟨Nat.le_refl _, Nat.le_refl _⟩ ⟨rfl, rfl⟩
  have T : szB x y = true → V X (0, 0) w h 25 [some (.int x), some (.int y)] [] := fun e => by
    rw [e] at C
    refine v_iconst C (oX6_exists.at 15 rfl) (v := nI 1) rfl ?_
    refine v_goto C (oX6_exists.at 16 rfl) (tgt := 30) (by decide) ?_
    exact v_zret1 C (oX6_exists.at 18 rfl) rfl rfl ⟨Nat.le_refl _, Nat.le_refl _⟩ ⟨rfl, rfl⟩
  have T3 : ¬ y < 2 → (x = 2 → ¬ y ≤ 4) → V X (0, 0) w h 15 [some (.int x), some (.int y)] [] := fun h2 h24 => by
    have h2' : 2 ≤ y := Int32.not_lt.mp h2
    refine v_iload_n C (oX6_exists.at 9 rfl) rfl ?_
    refine v_iconst C (oX6_exists.at 10 rfl) (v := nI 3) rfl ?_
    refine v_icmp_ne C (oX6_exists.at 11 rfl) (tgt := 29) (by decide) (fun hc => ?_) (fun hc => ?_)
    · refine F ?_
      rw [n3] at hc
      simp only [szB, h2', decide_true, Bool.true_and, hc, decide_false, Bool.false_and, Bool.or_false]
      by_cases e : x = 2
      · simp [e, h24 e]
      · simp [e]
    · rw [n3] at hc
      subst hc
      refine v_iload_n C (oX6_exists.at 12 rfl) rfl ?_
      refine v_iconst C (oX6_exists.at 13 rfl) (v := nI 3) rfl ?_
      refine v_icmp_gt C (oX6_exists.at 14 rfl) (tgt := 29) (by decide) (fun hc => ?_) (fun hc => ?_)
      · refine F ?_
        rw [n3] at hc
        simp [szB, h2', Int32.not_le.mpr hc]
      · refine T ?_
        rw [n3] at hc
        simp [szB, h2', Int32.not_lt.mp hc]
  refine v_iload_n C (oX6_exists.at 0 rfl) rfl ?_
  refine v_iconst C (oX6_exists.at 1 rfl) (v := nI 2) rfl ?_
  refine v_icmp_lt C (oX6_exists.at 2 rfl) (tgt := 29) (by decide) (fun hc => ?_) (fun hc => ?_)
  · refine F ?_
    rw [n2] at hc
    simp [szB, Int32.not_le.mpr hc]
  · rw [n2] at hc
    have h2' : 2 ≤ y := Int32.not_lt.mp hc
    have hc0 := hc
    refine v_iload_n C (oX6_exists.at 3 rfl) rfl ?_
    refine v_iconst C (oX6_exists.at 4 rfl) (v := nI 2) rfl ?_
    refine v_icmp_ne C (oX6_exists.at 5 rfl) (tgt := 15) (by decide) (fun hc => ?_) (fun hc => ?_)
    · rw [n2] at hc
      exact T3 hc0 (fun e => absurd e hc)
    · rw [n2] at hc
      subst hc
      refine v_iload_n C (oX6_exists.at 6 rfl) rfl ?_
      refine v_iconst C (oX6_exists.at 7 rfl) (v := nI 4) rfl ?_
      refine v_icmp_le C (oX6_exists.at 8 rfl) (tgt := 25) (by decide) (fun hc => ?_) (fun hc => ?_)
      · refine T ?_
        rw [n4] at hc
        simp [szB, h2', hc]
      · rw [n4] at hc
        exact T3 hc0 (fun _ => hc)
end
section
/-! ===== Rule: balance, sizes, copies; Registers ===== -/
theorem hu_c (h : Hp) {a b : Nat} (A B : PE) (hab : a ≠ b) : hu (hu h a A) b B = hu (hu h b B) a A := by
  funext j; simp only [hu]; split <;> split <;> first | rfl | omega
theorem hu3 (h : Hp) {a b c : Nat} (A B C A' B' C' : PE) (hab : a ≠ b) (hac : a ≠ c) (hbc : b ≠ c) : hu (hu (hu (hu (hu (hu h a A) b B) c C) a A') b B') c C' = hu (hu (hu h a A') b B') c C' := by
  funext j; simp only [hu]; split
  · rfl
  · split
    · rfl
    · split
      · rfl
      · rfl
def cntE (T : Nat → Nat) (c m : Nat) : Nat := cnt (fun i => decide (T i = c)) m
theorem k_isBalanced {w : Wt} {h : Hp} {r k wd n m : Nat} {f e : Nat → Int32} {T : Nat → Nat} (hr : h r = RO r k wd n m) (hk : k ≤ 3) (hm : m ≤ 27) (hn : n ≤ 9) (ht : h (r + 1) = io 27 f) (he : h (r + 5) = io 3 e) (hT : ∀ i, i < m → f i = nI (T i) ∧ T i < k) : ConN mX6_isBalanced 1 (0, 0) w [.ref r] h (.inl (some (.int (bI (allB (fun c => decide (cntE T c m = n)) k))))) (fun h' => ∃ e', h' = hu h (r + 5) (io 3 e')) := by
  refine conI (by decide +kernel) ⟨fun _ => rfl, rfl, by simp⟩ (fun X C => ?_)
  change V X (0, 0) w h 0 [some (.ref r), none] []
  refine v_aload_n C (oX6_isBalanced.at 0 rfl) rfl ?_
  refine v_getf C (oX6_isBalanced.at 1 rfl) fX6_22 hr rfl ?_
  refine v_iconst C (oX6_isBalanced.at 2 rfl) (v := nI 0) rfl ?_
  refine v_callS C (oX6_isBalanced.at 3 rfl) cX6_70 (k_fill he (by decide)) rfl rfl rfl ⟨rfl, rfl⟩ rfl rfl (fun _ => rfl) (fun h' hp => ?_)
  rw [show h' = _ from hp]
  dsimp only [Option.toList, List.cons_append, List.nil_append]
  refine v_iconst C (oX6_isBalanced.at 4 rfl) (v := nI 0) rfl ?_
  refine v_istore_n C (oX6_isBalanced.at 5 rfl) rfl ?_
  dsimp only [sto1, sto2, killL]
  suffices H : ∀ j i e', i + j = m → (∀ c, c < 3 → e' c = nI (cntE T c i)) → V X (0, 0) w (hu h (r + 5) (io 3 e')) 10 [some (.ref r), some (.int (nI i))] [] from H m 0 _ (by omega) (fun c hc => mix_lt hc)
  intro j
  induction j with
  | zero =>
    intro i e' hi he'
    refine v_iload_n C (oX6_isBalanced.at 6 rfl) rfl ?_
    refine v_aload_n C (oX6_isBalanced.at 7 rfl) rfl ?_
    refine v_getf C (oX6_isBalanced.at 8 rfl) fX6_43 ((hu_n _ _ (by omega)).trans hr) rfl ?_
    refine v_icmp_geN C (oX6_isBalanced.at 9 rfl) (tgt := 39) (by decide) (by omega) (by omega) (fun hc => ?_) (fun hc => ?_)
    · have e1 : i = m := by omega
      subst e1
      refine v_iconst C (oX6_isBalanced.at 23 rfl) (v := nI 0) rfl ?_
      refine v_istore_n C (oX6_isBalanced.at 24 rfl) rfl ?_
      dsimp only [sto1, sto2, killL]
      suffices H : ∀ j s, s + j = k → allB (fun c => decide (cntE T c i = n)) s = true → V X (0, 0) w (hu h (r + 5) (io 3 e')) 41 [some (.ref r), some (.int (nI s))] [] from H k 0 (by omega) rfl
      have hcb : ∀ c, cntE T c i ≤ 27 := fun c => by
        have : ∀ q, cntE T c q ≤ q := fun q => by
          induction q with
          | zero => exact Nat.le_refl _
          | succ q ih => unfold cntE at ih ⊢; rw [cnt]; split <;> omega
        have := this i
        omega
      intro j
      induction j with
      | zero =>
        intro s hs hall
        refine v_iload_n C (oX6_isBalanced.at 25 rfl) rfl ?_
        refine v_aload_n C (oX6_isBalanced.at 26 rfl) rfl ?_
        refine v_getf C (oX6_isBalanced.at 27 rfl) fX6_29 ((hu_n _ _ (by omega)).trans hr) rfl ?_
        refine v_icmp_geN C (oX6_isBalanced.at 28 rfl) (tgt := 70) (by decide) (by omega) (by omega) (fun hc => ?_) (fun hc => ?_)
        · have e1 : s = k := by omega
          subst e1
          rw [hall] at C
          refine v_iconst C (oX6_isBalanced.at 40 rfl) (v := nI 1) rfl ?_
          exact v_zret1 C (oX6_isBalanced.at 41 rfl) rfl rfl ⟨Nat.le_refl _, Nat.le_refl _⟩ ⟨rfl, _, rfl⟩
        · exact absurd hc (by omega)
      | succ j ih =>
        intro s hs hall
        have hcs := hcb s
        refine v_iload_n C (oX6_isBalanced.at 25 rfl) rfl ?_
        refine v_aload_n C (oX6_isBalanced.at 26 rfl) rfl ?_
        refine v_getf C (oX6_isBalanced.at 27 rfl) fX6_29 ((hu_n _ _ (by omega)).trans hr) rfl ?_
        refine v_icmp_geN C (oX6_isBalanced.at 28 rfl) (tgt := 70) (by decide) (by omega) (by omega) (fun hc => ?_) (fun hc => ?_)
        · exact absurd hc (by omega)
        · refine v_aload_n C (oX6_isBalanced.at 29 rfl) rfl ?_
          refine v_getf C (oX6_isBalanced.at 30 rfl) fX6_22 ((hu_n _ _ (by omega)).trans hr) rfl ?_
          refine v_iload_n C (oX6_isBalanced.at 31 rfl) rfl ?_
          refine v_iald C (oX6_isBalanced.at 32 rfl) (hu_s _ _ _) (by decide) rfl (by omega) (he' _ (by omega)) ?_
          refine v_aload_n C (oX6_isBalanced.at 33 rfl) rfl ?_
          refine v_getf C (oX6_isBalanced.at 34 rfl) fX6_40 ((hu_n _ _ (by omega)).trans hr) rfl ?_
          refine v_icmp_eqN C (oX6_isBalanced.at 35 rfl) (tgt := 64) (by decide) (by omega) (by omega) (fun hc => ?_) (fun hc => ?_)
          · refine v_iincN C (oX6_isBalanced.at 38 rfl) rfl ?_
            refine v_goto C (oX6_isBalanced.at 39 rfl) (tgt := 41) (by decide) ?_
            dsimp only [sto1, sto2, killL]
            exact ih (s + 1) (by omega) (by simp [allB, hall, hc])
          · rw [allB_f (p := fun c => decide (cntE T c i = n)) (i := s) (by simp [hc]) k (by omega)] at C
            refine v_iconst C (oX6_isBalanced.at 36 rfl) (v := nI 0) rfl ?_
            exact v_zret0 C (oX6_isBalanced.at 37 rfl) rfl rfl ⟨Nat.le_refl _, Nat.le_refl _⟩ ⟨rfl, _, rfl⟩
    · exact absurd hc (by omega)
  | succ j ih =>
    intro i e' hi he'
    have hTi := (hT i (by omega)).2
    refine v_iload_n C (oX6_isBalanced.at 6 rfl) rfl ?_
    refine v_aload_n C (oX6_isBalanced.at 7 rfl) rfl ?_
    refine v_getf C (oX6_isBalanced.at 8 rfl) fX6_43 ((hu_n _ _ (by omega)).trans hr) rfl ?_
    refine v_icmp_geN C (oX6_isBalanced.at 9 rfl) (tgt := 39) (by decide) (by omega) (by omega) (fun hc => ?_) (fun hc => ?_)
    · exact absurd hc (by omega)
    · refine v_aload_n C (oX6_isBalanced.at 10 rfl) rfl ?_
      refine v_getf C (oX6_isBalanced.at 11 rfl) fX6_22 ((hu_n _ _ (by omega)).trans hr) rfl ?_
      refine v_aload_n C (oX6_isBalanced.at 12 rfl) rfl ?_
      refine v_getf C (oX6_isBalanced.at 13 rfl) fX6_9 ((hu_n _ _ (by omega)).trans hr) rfl ?_
      refine v_iload_n C (oX6_isBalanced.at 14 rfl) rfl ?_
      refine v_iald C (oX6_isBalanced.at 15 rfl) ((hu_n _ _ (by omega)).trans ht) (by decide) rfl (by omega) (hT _ (by omega)).1 ?_
      refine v_dup2 C (oX6_isBalanced.at 16 rfl) rfl rfl ?_
      refine v_iald C (oX6_isBalanced.at 17 rfl) (hu_s _ _ _) (by decide) rfl (by omega) (he' _ (by omega)) ?_
      refine v_iconst C (oX6_isBalanced.at 18 rfl) (v := nI 1) rfl ?_
      refine v_iaddN C (oX6_isBalanced.at 19 rfl) ?_
      refine v_iast C (oX6_isBalanced.at 20 rfl) (hu_s _ _ _) (by decide) rfl (by omega) ?_
      rw [hu_hu]
      refine v_iincN C (oX6_isBalanced.at 21 rfl) rfl ?_
      refine v_goto C (oX6_isBalanced.at 22 rfl) (tgt := 10) (by decide) ?_
      dsimp only [sto1, sto2, killL]
      refine ih (i + 1) _ (by omega) (fun c hc => ?_)
      unfold cntE
      rw [cnt]
      by_cases e1 : c = T i
      · subst e1
        rw [pk_us]
        simp [cntE]
      · rw [pk_un e1, he' c hc]
        simp [cntE, Ne.symm e1]
theorem k_resize {w : Wt} {h : Hp} {r k wd k0 w0 n0 m0 : Nat} {f g e : Nat → Int32} (hr : h r = RO r k0 w0 n0 m0) (hk : k = 2 ∨ k = 3) (hw : 1 ≤ wd) (hw4 : wd ≤ 4) (hm : k ^ wd ≤ 27) (ht : h (r + 1) = io 27 f) (hg : h (r + 2) = io 27 g) (he : h (r + 3) = io 27 e) : ConN mX6_resize 1 (0, 0) w [.ref r, .int (nI k), .int (nI wd)] h (.inl none) (fun h' => h' = hu (hu (hu (hu h r (RO r k wd (k ^ (wd - 1)) (k ^ wd))) (r + 1) (io 27 (mix f (fun _ => nI 0) (k ^ wd)))) (r + 2) (io 27 (mix g (fun i => nI (i % k ^ (wd - 1))) (k ^ wd)))) (r + 3) (io 27 (mix e (fun i => nI (i / k ^ (wd - 1))) (k ^ wd)))) := by
  refine conI (by decide +kernel) ⟨fun _ => rfl, rfl, by simp⟩ (fun X C => ?_)
  change V X (0, 0) w h 0 [some (.ref r), some (.int (nI k)), some (.int (nI wd)), none, none, none] []
  refine v_aload_n C (oX6_resize.at 0 rfl) rfl ?_
  refine v_iload_n C (oX6_resize.at 1 rfl) rfl ?_
  refine v_putI C (oX6_resize.at 2 rfl) fX6_29 p6_0 hr rfl ?_
  refine v_aload_n C (oX6_resize.at 3 rfl) rfl ?_
  refine v_iload_n C (oX6_resize.at 4 rfl) rfl ?_
  refine v_putI C (oX6_resize.at 5 rfl) fX6_33 p6_1 (hu_s _ _ _) rfl ?_
  refine v_aload_n C (oX6_resize.at 6 rfl) rfl ?_
  refine v_aload_n C (oX6_resize.at 7 rfl) rfl ?_
  refine v_iload_n C (oX6_resize.at 8 rfl) rfl ?_
  refine v_iconst C (oX6_resize.at 9 rfl) (v := nI 1) rfl ?_
  refine v_isubN C (oX6_resize.at 10 rfl) (by omega) ?_
  refine v_callV C (oX6_resize.at 11 rfl) cX6_36 (hu_s _ _ _) (k_countOfWords (r := r) (k := k) (wd := wd) (n := n0) (m := m0) (hu_s _ _ _) (by omega)) rfl rfl rfl ⟨rfl, rfl⟩ rfl rfl (fun _ => rfl) (fun h' hp => ?_)
  rw [show h' = _ from hp]
  dsimp only [Option.toList, List.cons_append, List.nil_append]
  refine v_putI C (oX6_resize.at 12 rfl) fX6_40 p6_2 (hu_s _ _ _) rfl ?_
  refine v_aload_n C (oX6_resize.at 13 rfl) rfl ?_
  refine v_aload_n C (oX6_resize.at 14 rfl) rfl ?_
  refine v_getf C (oX6_resize.at 15 rfl) fX6_40 (hu_s _ _ _) rfl ?_
  refine v_iload_n C (oX6_resize.at 16 rfl) rfl ?_
  refine v_imulN C (oX6_resize.at 17 rfl) ?_
  refine v_putI C (oX6_resize.at 18 rfl) fX6_43 p6_3 (hu_s _ _ _) rfl ?_
  refine v_iconst C (oX6_resize.at 19 rfl) (v := nI 0) rfl ?_
  refine v_istore_n C (oX6_resize.at 20 rfl) rfl ?_
  refine v_iconst C (oX6_resize.at 21 rfl) (v := nI 0) rfl ?_
  refine v_istore C (oX6_resize.at 22 rfl) rfl ?_
  refine v_iconst C (oX6_resize.at 23 rfl) (v := nI 0) rfl ?_
  refine v_istore C (oX6_resize.at 24 rfl) rfl ?_
  dsimp only [sto1, sto2, killL]
  simp only [hu_hu, List.set]
  have em : k ^ (wd - 1) * k = k ^ wd := by rw [← Nat.pow_succ]; congr 1; omega
  have hn0 : 0 < k ^ (wd - 1) := Nat.pow_pos (by omega)
  rw [em]
  generalize hnn : k ^ (wd - 1) = n at *
  generalize hmm : k ^ wd = m at *
  have hnm : n ≤ m := by rw [← em]; exact Nat.le_mul_of_pos_right n (by omega)
  suffices H : ∀ j i, i + j = m → V X (0, 0) w (hu (hu (hu (hu h r (RO r k wd n m)) (r + 1) (io 27 (mix f (fun _ => nI 0) i))) (r + 2) (io 27 (mix g (fun i => nI (i % n)) i))) (r + 3) (io 27 (mix e (fun i => nI (i / n)) i))) 39 [some (.ref r), some (.int (nI k)), some (.int (nI wd)), some (.int (nI (i % n))), some (.int (nI (i / n))), some (.int (nI i))] [] by
    have := H m 0 (by omega)
    rw [mix_0, mix_0, mix_0, Nat.zero_mod, Nat.zero_div] at this
    rw [hu_id (hu h r (RO r k wd n m)) ((hu_n _ _ (by omega)).trans ht), hu_id (hu h r (RO r k wd n m)) ((hu_n _ _ (by omega)).trans hg), hu_id (hu h r (RO r k wd n m)) ((hu_n _ _ (by omega)).trans he)] at this
    exact this
  intro j
  induction j with
  | zero =>
    intro i hi
    have hr1 : (hu (hu (hu (hu h r (RO r k wd n m)) (r + 1) (io 27 (mix f (fun _ => nI 0) i))) (r + 2) (io 27 (mix g (fun i => nI (i % n)) i))) (r + 3) (io 27 (mix e (fun i => nI (i / n)) i))) r = RO r k wd n m := by rw [hu_n _ _ (by omega), hu_n _ _ (by omega), hu_n _ _ (by omega), hu_s]
    refine v_iload C (oX6_resize.at 25 rfl) rfl ?_
    refine v_aload_n C (oX6_resize.at 26 rfl) rfl ?_
    refine v_getf C (oX6_resize.at 27 rfl) fX6_43 hr1 rfl ?_
    refine v_icmp_geN C (oX6_resize.at 28 rfl) (tgt := 95) (by decide) (by omega) (by omega) (fun hc => ?_) (fun hc => ?_)
    · have e1 : i = m := by omega
      subst e1
      exact v_vret C (oX6_resize.at 54 rfl) rfl rfl ⟨Nat.le_refl _, Nat.le_refl _⟩ ⟨rfl, rfl⟩
    · exact absurd hc (by omega)
  | succ j ih =>
    intro i hi
    have hr1 : (hu (hu (hu (hu h r (RO r k wd n m)) (r + 1) (io 27 (mix f (fun _ => nI 0) i))) (r + 2) (io 27 (mix g (fun i => nI (i % n)) i))) (r + 3) (io 27 (mix e (fun i => nI (i / n)) i))) r = RO r k wd n m := by rw [hu_n _ _ (by omega), hu_n _ _ (by omega), hu_n _ _ (by omega), hu_s]
    have ha1 : (hu (hu (hu (hu h r (RO r k wd n m)) (r + 1) (io 27 (mix f (fun _ => nI 0) i))) (r + 2) (io 27 (mix g (fun i => nI (i % n)) i))) (r + 3) (io 27 (mix e (fun i => nI (i / n)) i))) (r + 1) = io 27 (mix f (fun _ => nI 0) i) := by rw [hu_n _ _ (by omega), hu_n _ _ (by omega), hu_s]
    have hb1 : (hu (hu (hu (hu h r (RO r k wd n m)) (r + 1) (io 27 (mix f (fun _ => nI 0) i))) (r + 2) (io 27 (mix g (fun i => nI (i % n)) i))) (r + 3) (io 27 (mix e (fun i => nI (i / n)) i))) (r + 2) = io 27 (mix g (fun i => nI (i % n)) i) := by rw [hu_n _ _ (by omega), hu_s]
    refine v_iload C (oX6_resize.at 25 rfl) rfl ?_
    refine v_aload_n C (oX6_resize.at 26 rfl) rfl ?_
    refine v_getf C (oX6_resize.at 27 rfl) fX6_43 hr1 rfl ?_
    refine v_icmp_geN C (oX6_resize.at 28 rfl) (tgt := 95) (by decide) (by omega) (by omega) (fun hc => ?_) (fun hc => ?_)
    · exact absurd hc (by omega)
    · refine v_aload_n C (oX6_resize.at 29 rfl) rfl ?_
      refine v_getf C (oX6_resize.at 30 rfl) fX6_9 hr1 rfl ?_
      refine v_iload C (oX6_resize.at 31 rfl) rfl ?_
      refine v_iconst C (oX6_resize.at 32 rfl) (v := nI 0) rfl ?_
      refine v_iast C (oX6_resize.at 33 rfl) ha1 (by decide) rfl (by omega) ?_
      refine v_aload_n C (oX6_resize.at 34 rfl) rfl ?_
      refine v_getf C (oX6_resize.at 35 rfl) fX6_13 ((hu_n _ _ (by omega)).trans hr1) rfl ?_
      refine v_iload C (oX6_resize.at 36 rfl) rfl ?_
      refine v_iload_n C (oX6_resize.at 37 rfl) rfl ?_
      refine v_iast C (oX6_resize.at 38 rfl) ((hu_n _ _ (by omega)).trans hb1) (by decide) rfl (by omega) ?_
      refine v_aload_n C (oX6_resize.at 39 rfl) rfl ?_
      refine v_getf C (oX6_resize.at 40 rfl) fX6_16 ((hu_n _ _ (by omega)).trans ((hu_n _ _ (by omega)).trans hr1)) rfl ?_
      refine v_iload C (oX6_resize.at 41 rfl) rfl ?_
      refine v_iload C (oX6_resize.at 42 rfl) rfl ?_
      refine v_iast C (oX6_resize.at 43 rfl) ((hu_n _ _ (by omega)).trans ((hu_n _ _ (by omega)).trans (hu_s _ _ _))) (by decide) rfl (by omega) ?_
      rw [hu3 _ _ _ _ _ _ _ (by omega) (by omega) (by omega), mix_s _ _ _ _ rfl, mix_s _ _ _ _ rfl, mix_s _ _ _ _ rfl]
      have hr2 : (hu (hu (hu (hu h r (RO r k wd n m)) (r + 1) (io 27 (mix f (fun _ => nI 0) (i + 1)))) (r + 2) (io 27 (mix g (fun i => nI (i % n)) (i + 1)))) (r + 3) (io 27 (mix e (fun i => nI (i / n)) (i + 1)))) r = RO r k wd n m := by rw [hu_n _ _ (by omega), hu_n _ _ (by omega), hu_n _ _ (by omega), hu_s]
      have hmod : i % n < n := Nat.mod_lt _ hn0
      have hdm := Nat.div_add_mod i n
      refine v_iincN C (oX6_resize.at 44 rfl) rfl ?_
      refine v_iload_n C (oX6_resize.at 45 rfl) rfl ?_
      refine v_aload_n C (oX6_resize.at 46 rfl) rfl ?_
      refine v_getf C (oX6_resize.at 47 rfl) fX6_40 hr2 rfl ?_
      dsimp only [sto1, sto2, killL]
      refine v_icmp_neN C (oX6_resize.at 48 rfl) (tgt := 89) (by decide) (by omega) (by omega) (fun hc => ?_) (fun hc => ?_)
      · refine v_iincN C (oX6_resize.at 52 rfl) rfl ?_
        refine v_goto C (oX6_resize.at 53 rfl) (tgt := 39) (by decide) ?_
        dsimp only [sto1, sto2, killL]
        have e1 : (i + 1) % n = i % n + 1 := by
          rw [Nat.add_mod, Nat.mod_eq_of_lt (a := 1) (by omega), Nat.mod_eq_of_lt (by omega)]
        have e2 : (i + 1) / n = i / n := by
          have := Nat.div_add_mod (i + 1) n
          rw [e1] at this
          have h3 : n * ((i + 1) / n) = n * (i / n) := by omega
          exact Nat.eq_of_mul_eq_mul_left hn0 h3
        have := ih (i + 1) (by omega)
        rw [e1, e2] at this
        exact this
      · refine v_iconst C (oX6_resize.at 49 rfl) (v := nI 0) rfl ?_
        refine v_istore_n C (oX6_resize.at 50 rfl) rfl ?_
        refine v_iincN C (oX6_resize.at 51 rfl) rfl ?_
        refine v_iincN C (oX6_resize.at 52 rfl) rfl ?_
        refine v_goto C (oX6_resize.at 53 rfl) (tgt := 39) (by decide) ?_
        dsimp only [sto1, sto2, killL]
        have e0 : i + 1 = n * (i / n + 1) := by rw [Nat.mul_add]; omega
        have e1 : (i + 1) % n = 0 := by rw [e0]; exact Nat.mul_mod_right _ _
        have e2 : (i + 1) / n = i / n + 1 := by
          conv => lhs; rw [e0]
          exact Nat.mul_div_cancel_left _ hn0
        have := ih (i + 1) (by omega)
        rw [e1, e2] at this
        exact this
end
section
/-! ===== words in base k, images ===== -/
def SZ (k wd : Nat) : Prop := (k = 2 ∧ 2 ≤ wd ∧ wd ≤ 4) ∨ (k = 3 ∧ 2 ≤ wd ∧ wd ≤ 3)
theorem SZ.k {k wd : Nat} (h : SZ k wd) : k = 2 ∨ k = 3 := by rcases h with ⟨h, _⟩ | ⟨h, _⟩ <;> omega
theorem SZ.w {k wd : Nat} (h : SZ k wd) : 2 ≤ wd ∧ wd ≤ 4 := by rcases h with ⟨_, h⟩ | ⟨_, h⟩ <;> omega
theorem SZ.cases {k wd : Nat} (h : SZ k wd) {Q : Nat → Nat → Prop} (h22 : Q 2 2) (h23 : Q 2 3) (h24 : Q 2 4) (h32 : Q 3 2) (h33 : Q 3 3) : Q k wd := by
  rcases h with ⟨rfl, h1, h2⟩ | ⟨rfl, h1, h2⟩
  · rcases (by omega : wd = 2 ∨ wd = 3 ∨ wd = 4) with rfl | rfl | rfl <;> assumption
  · rcases (by omega : wd = 2 ∨ wd = 3) with rfl | rfl <;> assumption
theorem SZ.m {k wd : Nat} (h : SZ k wd) : k ^ wd ≤ 27 := h.cases (Q := fun k wd => k ^ wd ≤ 27) (by decide) (by decide) (by decide) (by decide) (by decide)
theorem SZ.n {k wd : Nat} (h : SZ k wd) : k ^ (wd - 1) ≤ 9 := h.cases (Q := fun k wd => k ^ (wd - 1) ≤ 9) (by decide) (by decide) (by decide) (by decide) (by decide)
theorem SZ.nk {k wd : Nat} (h : SZ k wd) : k ^ (wd - 1) * k = k ^ wd := h.cases (Q := fun k wd => k ^ (wd - 1) * k = k ^ wd) (by decide) (by decide) (by decide) (by decide) (by decide)
theorem SZ.n0 {k wd : Nat} (h : SZ k wd) : 0 < k ^ (wd - 1) := Nat.pow_pos (by have := h.k; omega)
theorem pw_le {k n : Nat} (hk : k = 2 ∨ k = 3) {b : Nat} (hn : n ≤ b) : k ^ n ≤ 3 ^ b := Nat.le_trans (Nat.pow_le_pow_left (by omega) n) (Nat.pow_le_pow_right (by decide) hn)
theorem pw14 {k n : Nat} (hk : k = 2 ∨ k = 3) (hn : n ≤ 17) : k ^ n ≤ 129140163 := pw_le hk (b := 17) hn
/-- the number of the d cells from i on -/
def hw (k : Nat) (c : Nat → Nat) (i : Nat) : Nat → Nat
  | 0 => 0
  | d + 1 => hw k c i d * k + c (i + d)
theorem hw_lt {k : Nat} {c : Nat → Nat} : ∀ (i d : Nat), (∀ j, j < d → c (i + j) < k) → hw k c i d < k ^ d
  | i, 0, _ => by simp [hw]
  | i, d + 1, h => by
    have h1 := hw_lt i d (fun j hj => h j (by omega))
    have h2 := h d (by omega)
    have h3 : (hw k c i d + 1) * k ≤ k ^ d * k := Nat.mul_le_mul_right k h1
    rw [Nat.add_mul, Nat.one_mul] at h3
    rw [Nat.pow_succ, hw]
    omega
theorem hw_s (k : Nat) (c : Nat → Nat) (i : Nat) : ∀ d, hw k c i (d + 1) = c i * k ^ d + hw k c (i + 1) d
  | 0 => by simp [hw]
  | d + 1 => by
    rw [hw, hw_s k c i d, Nat.add_mul, Nat.mul_assoc, ← Nat.pow_succ, Nat.add_assoc]
    congr 1
    rw [hw, show i + (d + 1) = i + 1 + d by omega]
theorem hw_drop {k : Nat} {c : Nat → Nat} {i d : Nat} (h : ∀ j, j < d → c (i + 1 + j) < k) : hw k c i (d + 1) % k ^ d = hw k c (i + 1) d := by
  rw [hw_s, Nat.mul_comm, Nat.mul_add_mod, Nat.mod_eq_of_lt (hw_lt (i + 1) d h)]
theorem hw_congr {k : Nat} {c c' : Nat → Nat} {i i' : Nat} : ∀ d, (∀ j, j < d → c (i + j) = c' (i' + j)) → hw k c i d = hw k c' i' d
  | 0, _ => rfl
  | d + 1, h => by rw [hw, hw, hw_congr d (fun j hj => h j (by omega)), h d (by omega)]
theorem cel_lt {k len x i : Nat} (hk : 0 < k) : cel k len x i < k := Nat.mod_lt _ hk
theorem mod_mul_s (y k d : Nat) : y % k ^ (d + 1) = y / k % k ^ d * k + y % k := by
  rw [Nat.pow_succ, Nat.mul_comm, Nat.mod_mul, Nat.mul_comm k, Nat.add_comm]
theorem hw_cel (k L x c : Nat) : ∀ d, c + d ≤ L → hw k (cel k L x) c d = x / k ^ (L - d - c) % k ^ d
  | 0, _ => by simp [hw, Nat.mod_one]
  | d + 1, h => by
    rw [hw, hw_cel k L x c d (by omega), mod_mul_s]
    unfold cel
    rw [show L - 1 - (c + d) = L - (d + 1) - c by omega, ndiv_s, show L - (d + 1) - c + 1 = L - d - c by omega]
/-- the image's number: n cells of it -/
def img (k wd : Nat) (T c : Nat → Nat) : Nat → Nat
  | 0 => 0
  | i + 1 => img k wd T c i * k + T (hw k c i wd)
theorem img_lt {k wd : Nat} {T c : Nat → Nat} (hT : ∀ i, i < k ^ wd → T i < k) : ∀ n, (∀ j, j < n + wd - 1 → c j < k) → img k wd T c n < k ^ n
  | 0, _ => by simp [img]
  | n + 1, h => by
    have h1 := img_lt hT n (fun j hj => h j (by omega))
    have h2 := hT (hw k c n wd) (hw_lt n wd (fun j hj => h _ (by omega)))
    have h3 : (img k wd T c n + 1) * k ≤ k ^ n * k := Nat.mul_le_mul_right k h1
    rw [Nat.add_mul, Nat.one_mul] at h3
    rw [Nat.pow_succ, img]
    omega
def cimg (k wd : Nat) (T : Nat → Nat) (L x : Nat) : Nat := img k wd T (fun i => cel k L x (i % L)) L
def limg (k wd : Nat) (T : Nat → Nat) (L x : Nat) : Nat := img k wd T (cel k L x) (L - wd + 1)
theorem cimg_lt {k wd : Nat} {T : Nat → Nat} (hk : 0 < k) (hT : ∀ i, i < k ^ wd → T i < k) (L x : Nat) : cimg k wd T L x < k ^ L := img_lt hT L (fun j _ => cel_lt hk)
theorem limg_lt {k wd : Nat} {T : Nat → Nat} (hk : 0 < k) (hT : ∀ i, i < k ^ wd → T i < k) (L x : Nat) : limg k wd T L x < k ^ (L - wd + 1) := img_lt hT _ (fun j _ => cel_lt hk)
/-- a rule in the heap: sizes, table, targets, first cells -/
def RuleOK (h : Hp) (r k wd : Nat) (T : Nat → Nat) : Prop := ∃ f g e v t, h r = RO r k wd (k ^ (wd - 1)) (k ^ wd) ∧ h (r + 1) = io 27 f ∧ (∀ i, i < k ^ wd → f i = nI (T i) ∧ T i < k) ∧ h (r + 2) = io 27 g ∧ (∀ i, i < k ^ wd → g i = nI (i % k ^ (wd - 1))) ∧ h (r + 3) = io 27 e ∧ (∀ i, i < k ^ wd → e i = nI (i / k ^ (wd - 1))) ∧ h (r + 4) = io 4 v ∧ h (r + 5) = io 3 t
theorem RuleOK.eq {h h' : Hp} {r k wd : Nat} {T : Nat → Nat} (hR : RuleOK h r k wd T) (he : ∀ j, r ≤ j → j ≤ r + 5 → h' j = h j) : RuleOK h' r k wd T := by
  obtain ⟨f, g, e, v, t, h0, h1, h2, h3, h4, h5, h6, h7, h8⟩ := hR
  exact ⟨f, g, e, v, t, (he _ (by omega) (by omega)).trans h0, (he _ (by omega) (by omega)).trans h1, h2, (he _ (by omega) (by omega)).trans h3, h4, (he _ (by omega) (by omega)).trans h5, h6, (he _ (by omega) (by omega)).trans h7, (he _ (by omega) (by omega)).trans h8⟩
theorem RuleOK.hu {h : Hp} {r k wd : Nat} {T : Nat → Nat} {q : Nat} {c : PE} (hR : RuleOK h r k wd T) (hq : q < r ∨ r + 5 < q) : RuleOK (hu h q c) r k wd T := hR.eq (fun j h1 h2 => hu_n _ _ (by omega))
theorem RuleOK.T {h : Hp} {r k wd : Nat} {T : Nat → Nat} (hR : RuleOK h r k wd T) : ∀ i, i < k ^ wd → T i < k := by
  obtain ⟨f, g, e, v, t, h0, h1, h2, h3, h4, h5, h6, h7, h8⟩ := hR
  exact fun i hi => (h2 i hi).2
theorem RuleOK.ro {h : Hp} {r k wd : Nat} {T : Nat → Nat} (hR : RuleOK h r k wd T) : h r = RO r k wd (k ^ (wd - 1)) (k ^ wd) := by
  obtain ⟨f, g, e, v, t, h0, h1, h2, h3, h4, h5, h6, h7, h8⟩ := hR
  exact h0
/-! Images -/
abbrev IO1 (im : Nat) (a b : Int32) : PE := ob 1 [.int a, .int b, .ref (im + 1), .ref (im + 2)]
theorem k_readLabels {w : Wt} {h : Hp} {im r k wd n : Nat} {a b : Int32} {T c : Nat → Nat} {cf : Nat → Int32} (hi : h im = IO1 im a b) (hR : RuleOK h r k wd T) (hs : SZ k wd) (hca : h (im + 1) = io 17 cf) (hn : n + wd - 1 ≤ 17) (hcf : ∀ j, j < n + wd - 1 → cf j = nI (c j) ∧ c j < k) : ConN mX1_readLabels 0 (0, 0) w [.ref im, .ref r, .int (nI n)] h (.inl (some (.int (nI (img k wd T c n))))) (fun h' => h' = h) := by
  obtain ⟨f, g, e, v, t, hr, ht, hT, hg, hG, -⟩ := hR
  have hw2 := hs.w
  have hk := hs.k
  have hm := hs.m
  refine conI (by decide +kernel) ⟨fun _ => rfl, rfl, by simp⟩ (fun X C => ?_)
  change V X (0, 0) w h 0 [some (.ref im), some (.ref r), some (.int (nI n)), none, none, none, none] []
  refine v_iconst C (oX1_readLabels.at 0 rfl) (v := nI 0) rfl ?_
  refine v_istore_n C (oX1_readLabels.at 1 rfl) rfl ?_
  refine v_iconst C (oX1_readLabels.at 2 rfl) (v := nI 0) rfl ?_
  refine v_istore C (oX1_readLabels.at 3 rfl) rfl ?_
  dsimp only [sto1, sto2, killL]
  suffices H2 : ∀ j i l6, i + j = n → V X (0, 0) w h 43 [some (.ref im), some (.ref r), some (.int (nI n)), some (.int (nI (hw k c i (wd - 1)))), some (.int (nI (img k wd T c i))), some (.int (nI i)), l6] [] by
    suffices H : ∀ j i, i + j = wd - 1 → V X (0, 0) w h 5 [some (.ref im), some (.ref r), some (.int (nI n)), some (.int (nI (hw k c 0 i))), some (.int (nI i)), none, none] [] from H (wd - 1) 0 (by omega)
    intro j
    induction j with
    | zero =>
      intro i hi'
      refine v_iload C (oX1_readLabels.at 4 rfl) rfl ?_
      refine v_aload_n C (oX1_readLabels.at 5 rfl) rfl ?_
      refine v_getf C (oX1_readLabels.at 6 rfl) fX1_24 hr rfl ?_
      refine v_iconst C (oX1_readLabels.at 7 rfl) (v := nI 1) rfl ?_
      refine v_isubN C (oX1_readLabels.at 8 rfl) (by omega) ?_
      refine v_icmp_geN C (oX1_readLabels.at 9 rfl) (tgt := 37) (by decide) (by omega) (by omega) (fun hc => ?_) (fun hc => ?_)
      · have e1 : i = wd - 1 := by omega
        subst e1
        refine v_iconst C (oX1_readLabels.at 22 rfl) (v := nI 0) rfl ?_
        refine v_istore C (oX1_readLabels.at 23 rfl) rfl ?_
        refine v_iconst C (oX1_readLabels.at 24 rfl) (v := nI 0) rfl ?_
        refine v_istore C (oX1_readLabels.at 25 rfl) rfl ?_
        dsimp only [sto1, sto2, killL]
        exact H2 n 0 none (by omega)
      · exact absurd hc (by omega)
    | succ j ih =>
      intro i hi'
      refine v_iload C (oX1_readLabels.at 4 rfl) rfl ?_
      refine v_aload_n C (oX1_readLabels.at 5 rfl) rfl ?_
      refine v_getf C (oX1_readLabels.at 6 rfl) fX1_24 hr rfl ?_
      refine v_iconst C (oX1_readLabels.at 7 rfl) (v := nI 1) rfl ?_
      refine v_isubN C (oX1_readLabels.at 8 rfl) (by omega) ?_
      refine v_icmp_geN C (oX1_readLabels.at 9 rfl) (tgt := 37) (by decide) (by omega) (by omega) (fun hc => ?_) (fun hc => ?_)
      · exact absurd hc (by omega)
      · refine v_iload_n C (oX1_readLabels.at 10 rfl) rfl ?_
        refine v_aload_n C (oX1_readLabels.at 11 rfl) rfl ?_
        refine v_getf C (oX1_readLabels.at 12 rfl) fX1_32 hr rfl ?_
        refine v_imulN C (oX1_readLabels.at 13 rfl) ?_
        refine v_aload_n C (oX1_readLabels.at 14 rfl) rfl ?_
        refine v_getf C (oX1_readLabels.at 15 rfl) fX1_11 hi rfl ?_
        refine v_iload C (oX1_readLabels.at 16 rfl) rfl ?_
        refine v_iald C (oX1_readLabels.at 17 rfl) hca (by decide) rfl (by omega) (hcf _ (by omega)).1 ?_
        refine v_iaddN C (oX1_readLabels.at 18 rfl) ?_
        refine v_istore_n C (oX1_readLabels.at 19 rfl) rfl ?_
        refine v_iincN C (oX1_readLabels.at 20 rfl) rfl ?_
        refine v_goto C (oX1_readLabels.at 21 rfl) (tgt := 5) (by decide) ?_
        dsimp only [sto1, sto2, killL]
        have := ih (i + 1) (by omega)
        rw [hw, Nat.zero_add] at this
        exact this
  intro j
  induction j with
  | zero =>
    intro i l6 hi'
    refine v_iload C (oX1_readLabels.at 26 rfl) rfl ?_
    refine v_iload_n C (oX1_readLabels.at 27 rfl) rfl ?_
    refine v_icmp_geN C (oX1_readLabels.at 28 rfl) (tgt := 103) (by decide) (by omega) (by omega) (fun hc => ?_) (fun hc => ?_)
    · have e1 : i = n := by omega
      subst e1
      refine v_iload C (oX1_readLabels.at 61 rfl) rfl ?_
      exact v_iret C (oX1_readLabels.at 62 rfl) rfl rfl ⟨Nat.le_refl _, Nat.le_refl _⟩ ⟨rfl, rfl⟩
    · exact absurd hc (by omega)
  | succ j ih =>
    intro i l6 hi'
    have hlt : hw k c i (wd - 1) * k + c (i + wd - 1) < k ^ wd := by
      have h1 := hw_lt (k := k) (c := c) i wd (fun j hj => (hcf _ (by omega)).2)
      rw [show wd = (wd - 1) + 1 by omega, hw] at h1
      rw [show i + wd - 1 = i + (wd - 1) by omega]
      rw [show wd - 1 + 1 = wd by omega] at h1
      exact h1
    have hnb : hw k c i (wd - 1) * k + c (i + wd - 1) = hw k c i wd := by
      conv => rhs; rw [show wd = (wd - 1) + 1 by omega, hw]
      rw [show i + wd - 1 = i + (wd - 1) by omega]
    refine v_iload C (oX1_readLabels.at 26 rfl) rfl ?_
    refine v_iload_n C (oX1_readLabels.at 27 rfl) rfl ?_
    refine v_icmp_geN C (oX1_readLabels.at 28 rfl) (tgt := 103) (by decide) (by omega) (by omega) (fun hc => ?_) (fun hc => ?_)
    · exact absurd hc (by omega)
    · refine v_iload_n C (oX1_readLabels.at 29 rfl) rfl ?_
      refine v_aload_n C (oX1_readLabels.at 30 rfl) rfl ?_
      refine v_getf C (oX1_readLabels.at 31 rfl) fX1_32 hr rfl ?_
      refine v_imulN C (oX1_readLabels.at 32 rfl) ?_
      refine v_aload_n C (oX1_readLabels.at 33 rfl) rfl ?_
      refine v_getf C (oX1_readLabels.at 34 rfl) fX1_11 hi rfl ?_
      refine v_iload C (oX1_readLabels.at 35 rfl) rfl ?_
      refine v_aload_n C (oX1_readLabels.at 36 rfl) rfl ?_
      refine v_getf C (oX1_readLabels.at 37 rfl) fX1_24 hr rfl ?_
      refine v_iaddN C (oX1_readLabels.at 38 rfl) ?_
      refine v_iconst C (oX1_readLabels.at 39 rfl) (v := nI 1) rfl ?_
      refine v_isubN C (oX1_readLabels.at 40 rfl) (by omega) ?_
      refine v_iald C (oX1_readLabels.at 41 rfl) hca (by decide) rfl (by omega) (hcf _ (by omega)).1 ?_
      refine v_iaddN C (oX1_readLabels.at 42 rfl) ?_
      refine v_istore C (oX1_readLabels.at 43 rfl) rfl ?_
      refine v_iload C (oX1_readLabels.at 44 rfl) rfl ?_
      refine v_aload_n C (oX1_readLabels.at 45 rfl) rfl ?_
      refine v_getf C (oX1_readLabels.at 46 rfl) fX1_32 hr rfl ?_
      refine v_imulN C (oX1_readLabels.at 47 rfl) ?_
      refine v_aload_n C (oX1_readLabels.at 48 rfl) rfl ?_
      refine v_getf C (oX1_readLabels.at 49 rfl) fX1_35 hr rfl ?_
      refine v_iload C (oX1_readLabels.at 50 rfl) rfl ?_
      refine v_iald C (oX1_readLabels.at 51 rfl) ht (by decide) rfl (by omega) (hT _ hlt).1 ?_
      refine v_iaddN C (oX1_readLabels.at 52 rfl) ?_
      refine v_istore C (oX1_readLabels.at 53 rfl) rfl ?_
      refine v_aload_n C (oX1_readLabels.at 54 rfl) rfl ?_
      refine v_getf C (oX1_readLabels.at 55 rfl) fX1_38 hr rfl ?_
      refine v_iload C (oX1_readLabels.at 56 rfl) rfl ?_
      refine v_iald C (oX1_readLabels.at 57 rfl) hg (by decide) rfl (by omega) (hG _ hlt) ?_
      refine v_istore_n C (oX1_readLabels.at 58 rfl) rfl ?_
      refine v_iincN C (oX1_readLabels.at 59 rfl) rfl ?_
      refine v_goto C (oX1_readLabels.at 60 rfl) (tgt := 43) (by decide) ?_
      dsimp only [sto1, sto2, killL]
      have := ih (i + 1) (some (.int (nI (hw k c i (wd - 1) * k + c (i + wd - 1))))) (by omega)
      rw [img, ← hnb] at this
      have e1 : (hw k c i (wd - 1) * k + c (i + wd - 1)) % k ^ (wd - 1) = hw k c (i + 1) (wd - 1) := by
        rw [hnb]
        conv => lhs; rw [show wd = (wd - 1) + 1 by omega]
        rw [show wd - 1 + 1 - 1 = wd - 1 by omega]
        exact hw_drop (fun j hj => (hcf _ (by omega)).2)
      rw [e1]
      exact this
end
section
/-! ===== Images, copies, Registers ===== -/
theorem k_imageOf {w : Wt} {h : Hp} {im r k wd L x : Nat} {a b : Int32} {T : Nat → Nat} {cf : Nat → Int32} (hi : h im = IO1 im a b) (hR : RuleOK h r k wd T) (hs : SZ k wd) (hca : h (im + 1) = io 17 cf) (hL : L ≤ 14) (hwL : wd ≤ L) (hx : x < 2 ^ 31) (hsep : im + 1 < r ∨ r + 5 < im) : ConN mX1_imageOf 2 (0, 0) w [.ref im, .ref r, .int (nI L), .int (nI x)] h (.inl (some (.int (nI (limg k wd T L x))))) (fun h' => ∃ cf', h' = hu h (im + 1) (io 17 cf')) := by
  have hr := hR.ro
  have hw2 := hs.w
  have hk := hs.k
  refine conI (by decide +kernel) ⟨fun _ => rfl, rfl, by simp⟩ (fun X C => ?_)
  change V X (0, 0) w h 0 [some (.ref im), some (.ref r), some (.int (nI L)), some (.int (nI x))] []
  refine v_aload_n C (oX1_imageOf.at 0 rfl) rfl ?_
  refine v_iload_n C (oX1_imageOf.at 1 rfl) rfl ?_
  refine v_iload_n C (oX1_imageOf.at 2 rfl) rfl ?_
  refine v_aload_n C (oX1_imageOf.at 3 rfl) rfl ?_
  refine v_getf C (oX1_imageOf.at 4 rfl) fX1_11 hi rfl ?_
  refine v_callV C (oX1_imageOf.at 5 rfl) cX1_20 hr (k_spreadWord hr hk hx (by omega) (by decide) hca (by omega)) rfl rfl rfl ⟨rfl, rfl⟩ rfl rfl (fun _ => rfl) (fun h' hp => ?_)
  rw [show h' = _ from hp]
  dsimp only [Option.toList, List.cons_append, List.nil_append]
  have hcf : ∀ j, j < (L - wd + 1) + wd - 1 → spw k L x cf 0 j = nI (cel k L x j) ∧ cel k L x j < k := fun j hj => ⟨by unfold spw; rw [if_pos (by omega)], cel_lt (by omega)⟩
  refine v_aload_n C (oX1_imageOf.at 6 rfl) rfl ?_
  refine v_aload_n C (oX1_imageOf.at 7 rfl) rfl ?_
  refine v_iload_n C (oX1_imageOf.at 8 rfl) rfl ?_
  refine v_aload_n C (oX1_imageOf.at 9 rfl) rfl ?_
  refine v_getf C (oX1_imageOf.at 10 rfl) fX1_24 ((hu_n _ _ (by omega)).trans hr) rfl ?_
  refine v_isubN C (oX1_imageOf.at 11 rfl) (by omega) ?_
  refine v_iconst C (oX1_imageOf.at 12 rfl) (v := nI 1) rfl ?_
  refine v_iaddN C (oX1_imageOf.at 13 rfl) ?_
  refine v_callV C (oX1_imageOf.at 14 rfl) cX1_28 ((hu_n _ _ (by omega)).trans hi) (k_readLabels (im := im) (a := a) (b := b) ((hu_n _ _ (by omega)).trans hi) (hR.hu (by omega)) hs (hu_s _ _ _) (by omega) hcf) rfl rfl rfl ⟨rfl, rfl⟩ rfl rfl (fun _ => rfl) (fun h' hp => ?_)
  rw [show h' = _ from hp]
  dsimp only [Option.toList, List.cons_append, List.nil_append]
  exact v_iret C (oX1_imageOf.at 15 rfl) rfl rfl ⟨Nat.le_refl _, Nat.le_refl _⟩ ⟨rfl, _, rfl⟩
theorem k_cyclicImageOf {w : Wt} {h : Hp} {im r k wd L x : Nat} {a b : Int32} {T : Nat → Nat} {cf : Nat → Int32} (hi : h im = IO1 im a b) (hR : RuleOK h r k wd T) (hs : SZ k wd) (hca : h (im + 1) = io 17 cf) (hL0 : 0 < L) (hL : L ≤ 14) (hx : x < 2 ^ 31) (hsep : im + 1 < r ∨ r + 5 < im) : ConN mX1_cyclicImageOf 2 (0, 0) w [.ref im, .ref r, .int (nI L), .int (nI x)] h (.inl (some (.int (nI (cimg k wd T L x))))) (fun h' => ∃ cf', h' = hu h (im + 1) (io 17 cf')) := by
  have hr := hR.ro
  have hw2 := hs.w
  have hk := hs.k
  refine conI (by decide +kernel) ⟨fun _ => rfl, rfl, by simp⟩ (fun X C => ?_)
  change V X (0, 0) w h 0 [some (.ref im), some (.ref r), some (.int (nI L)), some (.int (nI x)), none] []
  refine v_aload_n C (oX1_cyclicImageOf.at 0 rfl) rfl ?_
  refine v_iload_n C (oX1_cyclicImageOf.at 1 rfl) rfl ?_
  refine v_iload_n C (oX1_cyclicImageOf.at 2 rfl) rfl ?_
  refine v_aload_n C (oX1_cyclicImageOf.at 3 rfl) rfl ?_
  refine v_getf C (oX1_cyclicImageOf.at 4 rfl) fX1_11 hi rfl ?_
  refine v_callV C (oX1_cyclicImageOf.at 5 rfl) cX1_20 hr (k_spreadWord hr hk hx (by omega) (by decide) hca (by omega)) rfl rfl rfl ⟨rfl, rfl⟩ rfl rfl (fun _ => rfl) (fun h' hp => ?_)
  rw [show h' = _ from hp]
  dsimp only [Option.toList, List.cons_append, List.nil_append]
  refine v_iconst C (oX1_cyclicImageOf.at 6 rfl) (v := nI 0) rfl ?_
  refine v_istore C (oX1_cyclicImageOf.at 7 rfl) rfl ?_
  dsimp only [sto1, sto2, killL]
  suffices H : ∀ j i F, i + j = wd - 1 → (∀ q, q < L + i → F q = nI (cel k L x (q % L))) → V X (0, 0) w (hu h (im + 1) (io 17 F)) 13 [some (.ref im), some (.ref r), some (.int (nI L)), some (.int (nI x)), some (.int (nI i))] [] by
    refine H (wd - 1) 0 _ (by omega) (fun q hq => ?_)
    unfold spw
    rw [if_pos (by omega), Nat.mod_eq_of_lt (by omega)]
  intro j
  induction j with
  | zero =>
    intro i F hi' hF
    refine v_iload C (oX1_cyclicImageOf.at 8 rfl) rfl ?_
    refine v_aload_n C (oX1_cyclicImageOf.at 9 rfl) rfl ?_
    refine v_getf C (oX1_cyclicImageOf.at 10 rfl) fX1_24 ((hu_n _ _ (by omega)).trans hr) rfl ?_
    refine v_iconst C (oX1_cyclicImageOf.at 11 rfl) (v := nI 1) rfl ?_
    refine v_isubN C (oX1_cyclicImageOf.at 12 rfl) (by omega) ?_
    refine v_icmp_geN C (oX1_cyclicImageOf.at 13 rfl) (tgt := 46) (by decide) (by omega) (by omega) (fun hc => ?_) (fun hc => ?_)
    · refine v_aload_n C (oX1_cyclicImageOf.at 26 rfl) rfl ?_
      refine v_aload_n C (oX1_cyclicImageOf.at 27 rfl) rfl ?_
      refine v_iload_n C (oX1_cyclicImageOf.at 28 rfl) rfl ?_
      refine v_callV C (oX1_cyclicImageOf.at 29 rfl) cX1_28 ((hu_n _ _ (by omega)).trans hi) (k_readLabels (im := im) (a := a) (b := b) (c := fun i => cel k L x (i % L)) ((hu_n _ _ (by omega)).trans hi) (hR.hu (by omega)) hs (hu_s _ _ _) (by omega) (fun j hj => ⟨hF j (by omega), cel_lt (by omega)⟩)) rfl rfl rfl ⟨rfl, rfl⟩ rfl rfl (fun _ => rfl) (fun h' hp => ?_)
      rw [show h' = _ from hp]
      dsimp only [Option.toList, List.cons_append, List.nil_append]
      exact v_iret C (oX1_cyclicImageOf.at 30 rfl) rfl rfl ⟨Nat.le_refl _, Nat.le_refl _⟩ ⟨rfl, _, rfl⟩
    · exact absurd hc (by omega)
  | succ j ih =>
    intro i F hi' hF
    refine v_iload C (oX1_cyclicImageOf.at 8 rfl) rfl ?_
    refine v_aload_n C (oX1_cyclicImageOf.at 9 rfl) rfl ?_
    refine v_getf C (oX1_cyclicImageOf.at 10 rfl) fX1_24 ((hu_n _ _ (by omega)).trans hr) rfl ?_
    refine v_iconst C (oX1_cyclicImageOf.at 11 rfl) (v := nI 1) rfl ?_
    refine v_isubN C (oX1_cyclicImageOf.at 12 rfl) (by omega) ?_
    refine v_icmp_geN C (oX1_cyclicImageOf.at 13 rfl) (tgt := 46) (by decide) (by omega) (by omega) (fun hc => ?_) (fun hc => ?_)
    · exact absurd hc (by omega)
    · refine v_aload_n C (oX1_cyclicImageOf.at 14 rfl) rfl ?_
      refine v_getf C (oX1_cyclicImageOf.at 15 rfl) fX1_11 ((hu_n _ _ (by omega)).trans hi) rfl ?_
      refine v_iload_n C (oX1_cyclicImageOf.at 16 rfl) rfl ?_
      refine v_iload C (oX1_cyclicImageOf.at 17 rfl) rfl ?_
      refine v_iaddN C (oX1_cyclicImageOf.at 18 rfl) ?_
      refine v_aload_n C (oX1_cyclicImageOf.at 19 rfl) rfl ?_
      refine v_getf C (oX1_cyclicImageOf.at 20 rfl) fX1_11 ((hu_n _ _ (by omega)).trans hi) rfl ?_
      refine v_iload C (oX1_cyclicImageOf.at 21 rfl) rfl ?_
      refine v_iald C (oX1_cyclicImageOf.at 22 rfl) (hu_s _ _ _) (by decide) rfl (by omega) (hF _ (by omega)) ?_
      refine v_iast C (oX1_cyclicImageOf.at 23 rfl) (hu_s _ _ _) (by decide) rfl (by omega) ?_
      rw [hu_hu]
      refine v_iincN C (oX1_cyclicImageOf.at 24 rfl) rfl ?_
      refine v_goto C (oX1_cyclicImageOf.at 25 rfl) (tgt := 13) (by decide) ?_
      dsimp only [sto1, sto2, killL]
      refine ih (i + 1) _ (by omega) (fun q hq => ?_)
      by_cases e1 : q = L + i
      · subst e1
        rw [pk_us, Nat.add_mod_left]
      · rw [pk_un e1]
        exact hF q (by omega)
theorem cpy_mix (f g : Nat → Int32) (n : Nat) : va_cpy f g 0 0 n = mix g f n := by
  funext j; unfold va_cpy mix; simp
theorem k_ruleCopy {w : Wt} {h : Hp} {r s k wd k0 w0 : Nat} {T T0 : Nat → Nat} (hR : RuleOK h r k0 w0 T0) (hS : RuleOK h s k wd T) (hs : SZ k wd) (hsep : r + 5 < s ∨ s + 5 < r) : ConN mX6_copyFrom 2 (0, 0) w [.ref r, .ref s] h (.inl none) (fun h' => RuleOK h' r k wd T ∧ ∀ j, (j < r ∨ r + 3 < j) → h' j = h j) := by
  obtain ⟨f, g, e, v, t, hr, ht, hT, hg, hG, he, hE, hv, htl⟩ := hR
  obtain ⟨f1, g1, e1, v1, t1, hr1, ht1, hT1, hg1, hG1, he1, hE1, hv1, htl1⟩ := hS
  have hw2 := hs.w
  have hk := hs.k
  have hm := hs.m
  refine conI (by decide +kernel) ⟨fun _ => rfl, rfl, by simp⟩ (fun X C => ?_)
  change V X (0, 0) w h 0 [some (.ref r), some (.ref s)] []
  refine v_aload_n C (oX6_copyFrom.at 0 rfl) rfl ?_
  refine v_aload_n C (oX6_copyFrom.at 1 rfl) rfl ?_
  refine v_getf C (oX6_copyFrom.at 2 rfl) fX6_29 hr1 rfl ?_
  refine v_aload_n C (oX6_copyFrom.at 3 rfl) rfl ?_
  refine v_getf C (oX6_copyFrom.at 4 rfl) fX6_33 hr1 rfl ?_
  refine v_callV C (oX6_copyFrom.at 5 rfl) cX6_25 hr (k_resize hr hk (by omega) (by omega) hm ht hg he) rfl rfl rfl ⟨rfl, rfl⟩ rfl rfl (fun _ => rfl) (fun h' hp => ?_)
  rw [show h' = _ from hp]
  dsimp only [Option.toList, List.cons_append, List.nil_append]
  generalize hH : hu (hu (hu (hu h r (RO r k wd (k ^ (wd - 1)) (k ^ wd))) (r + 1) (io 27 (mix f (fun _ => nI 0) (k ^ wd)))) (r + 2) (io 27 (mix g (fun i => nI (i % k ^ (wd - 1))) (k ^ wd)))) (r + 3) (io 27 (mix e (fun i => nI (i / k ^ (wd - 1))) (k ^ wd))) = h1
  have hfr : ∀ j, (j < r ∨ r + 3 < j) → h1 j = h j := fun j hj => by
    rw [← hH, hu_n _ _ (by omega), hu_n _ _ (by omega), hu_n _ _ (by omega), hu_n _ _ (by omega)]
  have q0 : h1 r = RO r k wd (k ^ (wd - 1)) (k ^ wd) := by rw [← hH, hu_n _ _ (by omega), hu_n _ _ (by omega), hu_n _ _ (by omega), hu_s]
  have q1 : h1 (r + 1) = io 27 (mix f (fun _ => nI 0) (k ^ wd)) := by rw [← hH, hu_n _ _ (by omega), hu_n _ _ (by omega), hu_s]
  have q2 : h1 (r + 2) = io 27 (mix g (fun i => nI (i % k ^ (wd - 1))) (k ^ wd)) := by rw [← hH, hu_n _ _ (by omega), hu_s]
  have q3 : h1 (r + 3) = io 27 (mix e (fun i => nI (i / k ^ (wd - 1))) (k ^ wd)) := by rw [← hH, hu_s]
  refine v_aload_n C (oX6_copyFrom.at 6 rfl) rfl ?_
  refine v_getf C (oX6_copyFrom.at 7 rfl) fX6_9 ((hfr _ (by omega)).trans hr1) rfl ?_
  refine v_iconst C (oX6_copyFrom.at 8 rfl) (v := nI 0) rfl ?_
  refine v_aload_n C (oX6_copyFrom.at 9 rfl) rfl ?_
  refine v_getf C (oX6_copyFrom.at 10 rfl) fX6_9 q0 rfl ?_
  refine v_iconst C (oX6_copyFrom.at 11 rfl) (v := nI 0) rfl ?_
  refine v_bipush C (oX6_copyFrom.at 12 rfl) (v := nI 27) rfl ?_
  refine v_acopy C (oX6_copyFrom.at 13 rfl) (tj2 185 (by rfl) rfl) ((hfr _ (by omega)).trans ht1) q1 (by decide) (by decide) (by decide) rfl rfl ?_
  rw [cpy_mix]
  refine v_vret C (oX6_copyFrom.at 14 rfl) rfl rfl ⟨Nat.le_refl _, Nat.le_refl _⟩ ⟨rfl, ⟨_, _, _, v, t, (hu_n _ _ (by omega)).trans q0, hu_s _ _ _, ?_, (hu_n _ _ (by omega)).trans q2, ?_, (hu_n _ _ (by omega)).trans q3, ?_, ?_, ?_⟩, ?_⟩
  · intro i hi
    rw [mix_lt (by omega)]
    exact hT1 i hi
  · exact fun i hi => mix_lt hi
  · exact fun i hi => mix_lt hi
  · rw [hu_n _ _ (by omega), hfr _ (by omega)]; exact hv
  · rw [hu_n _ _ (by omega), hfr _ (by omega)]; exact htl
  · intro j hj
    rw [hu_n _ _ (by omega), hfr _ hj]
/-! Registers: lengths behind it, then indices -/
abbrev RG (g : Nat) : PE := ob 5 [.ref (g + 1), .ref (g + 2)]
def RegOK (h : Hp) (g : Nat) (Ln Ix : Nat → Nat) : Prop := ∃ f e, h g = RG g ∧ h (g + 1) = io 4 f ∧ (∀ i, i < 4 → f i = nI (Ln i)) ∧ h (g + 2) = io 4 e ∧ (∀ i, i < 4 → e i = nI (Ix i))
theorem RegOK.eq {h h' : Hp} {g : Nat} {Ln Ix : Nat → Nat} (hR : RegOK h g Ln Ix) (he : ∀ j, g ≤ j → j ≤ g + 2 → h' j = h j) : RegOK h' g Ln Ix := by
  obtain ⟨f, e, h0, h1, h2, h3, h4⟩ := hR
  exact ⟨f, e, (he _ (by omega) (by omega)).trans h0, (he _ (by omega) (by omega)).trans h1, h2, (he _ (by omega) (by omega)).trans h3, h4⟩
def updN (f : Nat → Nat) (k x : Nat) : Nat → Nat := fun j => if j = k then x else f j
theorem k_regEmpty {w : Wt} {h : Hp} {g : Nat} {Ln Ix : Nat → Nat} (hR : RegOK h g Ln Ix) : ConN mX5_empty 1 (0, 0) w [.ref g] h (.inl none) (fun h' => RegOK h' g (fun _ => 0) (fun _ => 0) ∧ ∀ j, (j < g ∨ g + 2 < j) → h' j = h j) := by
  obtain ⟨f, e, h0, h1, h2, h3, h4⟩ := hR
  refine conI (by decide +kernel) ⟨fun _ => rfl, rfl, by simp⟩ (fun X C => ?_)
  change V X (0, 0) w h 0 [some (.ref g)] []
  refine v_aload_n C (oX5_empty.at 0 rfl) rfl ?_
  refine v_getf C (oX5_empty.at 1 rfl) fX5_9 h0 rfl ?_
  refine v_iconst C (oX5_empty.at 2 rfl) (v := nI 0) rfl ?_
  refine v_callS C (oX5_empty.at 3 rfl) cX5_18 (k_fill h1 (by decide)) rfl rfl rfl ⟨rfl, rfl⟩ rfl rfl (fun _ => rfl) (fun h' hp => ?_)
  rw [show h' = _ from hp]
  dsimp only [Option.toList, List.cons_append, List.nil_append]
  refine v_aload_n C (oX5_empty.at 4 rfl) rfl ?_
  refine v_getf C (oX5_empty.at 5 rfl) fX5_15 ((hu_n _ _ (by omega)).trans h0) rfl ?_
  refine v_iconst C (oX5_empty.at 6 rfl) (v := nI 0) rfl ?_
  refine v_callS C (oX5_empty.at 7 rfl) cX5_18 (k_fill ((hu_n _ _ (by omega)).trans h3) (by decide)) rfl rfl rfl ⟨rfl, rfl⟩ rfl rfl (fun _ => rfl) (fun h' hp => ?_)
  rw [show h' = _ from hp]
  dsimp only [Option.toList, List.cons_append, List.nil_append]
  refine v_vret C (oX5_empty.at 8 rfl) rfl rfl ⟨Nat.le_refl _, Nat.le_refl _⟩ ⟨rfl, ⟨_, _, ?_, (hu_n _ _ (by omega)).trans (hu_s _ _ _), fun i hi => mix_lt hi, hu_s _ _ _, fun i hi => mix_lt hi⟩, ?_⟩
  · rw [hu_n _ _ (by omega), hu_n _ _ (by omega)]; exact h0
  · intro j hj
    rw [hu_n _ _ (by omega), hu_n _ _ (by omega)]
theorem k_regPut {w : Wt} {h : Hp} {g p l x : Nat} {Ln Ix : Nat → Nat} (hR : RegOK h g Ln Ix) (hp : p < 4) : ConN mX5_put 0 (0, 0) w [.ref g, .int (nI p), .int (nI l), .int (nI x)] h (.inl none) (fun h' => RegOK h' g (updN Ln p l) (updN Ix p x) ∧ ∀ j, (j < g ∨ g + 2 < j) → h' j = h j) := by
  obtain ⟨f, e, h0, h1, h2, h3, h4⟩ := hR
  refine conI (by decide +kernel) ⟨fun _ => rfl, rfl, by simp⟩ (fun X C => ?_)
  change V X (0, 0) w h 0 [some (.ref g), some (.int (nI p)), some (.int (nI l)), some (.int (nI x))] []
  refine v_aload_n C (oX5_put.at 0 rfl) rfl ?_
  refine v_getf C (oX5_put.at 1 rfl) fX5_9 h0 rfl ?_
  refine v_iload_n C (oX5_put.at 2 rfl) rfl ?_
  refine v_iload_n C (oX5_put.at 3 rfl) rfl ?_
  refine v_iast C (oX5_put.at 4 rfl) h1 (by decide) rfl (by omega) ?_
  refine v_aload_n C (oX5_put.at 5 rfl) rfl ?_
  refine v_getf C (oX5_put.at 6 rfl) fX5_15 ((hu_n _ _ (by omega)).trans h0) rfl ?_
  refine v_iload_n C (oX5_put.at 7 rfl) rfl ?_
  refine v_iload_n C (oX5_put.at 8 rfl) rfl ?_
  refine v_iast C (oX5_put.at 9 rfl) ((hu_n _ _ (by omega)).trans h3) (by decide) rfl (by omega) ?_
  refine v_vret C (oX5_put.at 10 rfl) rfl rfl ⟨Nat.le_refl _, Nat.le_refl _⟩ ⟨rfl, ⟨_, _, ?_, (hu_n _ _ (by omega)).trans (hu_s _ _ _), fun i hi => ?_, hu_s _ _ _, fun i hi => ?_⟩, ?_⟩
  · rw [hu_n _ _ (by omega), hu_n _ _ (by omega)]; exact h0
  · unfold upd updN; split
    · rfl
    · exact h2 i hi
  · unfold upd updN; split
    · rfl
    · exact h4 i hi
  · intro j hj
    rw [hu_n _ _ (by omega), hu_n _ _ (by omega)]
theorem k_regCopy {w : Wt} {h : Hp} {g s : Nat} {Ln Ix Ln1 Ix1 : Nat → Nat} (hR : RegOK h g Ln Ix) (hS : RegOK h s Ln1 Ix1) (hsep : g + 2 < s ∨ s + 2 < g) : ConN mX5_copyFrom 0 (0, 0) w [.ref g, .ref s] h (.inl none) (fun h' => RegOK h' g Ln1 Ix1 ∧ ∀ j, (j < g ∨ g + 2 < j) → h' j = h j) := by
  obtain ⟨f, e, h0, h1, h2, h3, h4⟩ := hR
  obtain ⟨f1, e1, s0, s1, s2, s3, s4⟩ := hS
  refine conI (by decide +kernel) ⟨fun _ => rfl, rfl, by simp⟩ (fun X C => ?_)
  change V X (0, 0) w h 0 [some (.ref g), some (.ref s)] []
  refine v_aload_n C (oX5_copyFrom.at 0 rfl) rfl ?_
  refine v_getf C (oX5_copyFrom.at 1 rfl) fX5_9 s0 rfl ?_
  refine v_iconst C (oX5_copyFrom.at 2 rfl) (v := nI 0) rfl ?_
  refine v_aload_n C (oX5_copyFrom.at 3 rfl) rfl ?_
  refine v_getf C (oX5_copyFrom.at 4 rfl) fX5_9 h0 rfl ?_
  refine v_iconst C (oX5_copyFrom.at 5 rfl) (v := nI 0) rfl ?_
  refine v_iconst C (oX5_copyFrom.at 6 rfl) (v := nI 4) rfl ?_
  refine v_acopy C (oX5_copyFrom.at 7 rfl) (tj2 192 (by rfl) rfl) s1 h1 (by decide) (by decide) (by decide) rfl rfl ?_
  refine v_aload_n C (oX5_copyFrom.at 8 rfl) rfl ?_
  refine v_getf C (oX5_copyFrom.at 9 rfl) fX5_15 ((hu_n _ _ (by omega)).trans s0) rfl ?_
  refine v_iconst C (oX5_copyFrom.at 10 rfl) (v := nI 0) rfl ?_
  refine v_aload_n C (oX5_copyFrom.at 11 rfl) rfl ?_
  refine v_getf C (oX5_copyFrom.at 12 rfl) fX5_15 ((hu_n _ _ (by omega)).trans h0) rfl ?_
  refine v_iconst C (oX5_copyFrom.at 13 rfl) (v := nI 0) rfl ?_
  refine v_iconst C (oX5_copyFrom.at 14 rfl) (v := nI 4) rfl ?_
  refine v_acopy C (oX5_copyFrom.at 15 rfl) (tj2 192 (by rfl) rfl) ((hu_n _ _ (by omega)).trans s3) ((hu_n _ _ (by omega)).trans h3) (by decide) (by decide) (by decide) rfl rfl ?_
  rw [cpy_mix, cpy_mix]
  refine v_vret C (oX5_copyFrom.at 16 rfl) rfl rfl ⟨Nat.le_refl _, Nat.le_refl _⟩ ⟨rfl, ⟨_, _, ?_, (hu_n _ _ (by omega)).trans (hu_s _ _ _), fun i hi => ?_, hu_s _ _ _, fun i hi => ?_⟩, ?_⟩
  · rw [hu_n _ _ (by omega), hu_n _ _ (by omega)]; exact h0
  · rw [mix_lt hi]; exact s2 i hi
  · rw [mix_lt hi]; exact s4 i hi
  · intro j hj
    rw [hu_n _ _ (by omega), hu_n _ _ (by omega)]
end
section
/-! ===== orbits ===== -/
theorem php : ∀ (K n : Nat) (g : Nat → Nat), (∀ a, a < n → g a < K) → (∀ a b, a < b → b < n → g a ≠ g b) → n ≤ K
  | 0, n, g, h1, _ => by
    rcases Nat.eq_zero_or_pos n with h | h
    · omega
    · exact absurd (h1 0 h) (by omega)
  | K + 1, n, g, h1, h2 => by
    by_cases hx : ∃ a, a < n ∧ g a = K
    · obtain ⟨a0, ha, hg⟩ := hx
      have := php K (n - 1) (fun a => if a < a0 then g a else g (a + 1)) (fun a ha' => ?_) (fun a b hab hb => ?_)
      · omega
      · split
        · have e1 := h1 a (by omega)
          have e2 := h2 a a0 (by omega) ha
          omega
        · have e1 := h1 (a + 1) (by omega)
          have e2 := h2 a0 (a + 1) (by omega) (by omega)
          omega
      · split <;> split
        · exact h2 a b hab (by omega)
        · exact h2 a (b + 1) (by omega) (by omega)
        · omega
        · exact h2 (a + 1) (b + 1) (by omega) (by omega)
    · have := php K n g (fun a ha => ?_) h2
      · omega
      · have e1 := h1 a ha
        have e2 : g a ≠ K := fun e => hx ⟨a, ha, e⟩
        omega
/-- s is the first step at which what was met at j is met again -/
def FR (f : Nat → Nat) (s j : Nat) : Prop := j < s ∧ f j = f s ∧ ∀ a b, a < b → b < s → f a ≠ f b
theorem fr_ex (f : Nat → Nat) (K : Nat) (hf : ∀ t, f t < K) : ∃ s j, s ≤ K ∧ FR f s j := by
  have hx : ∃ s, s ≤ K ∧ ∃ j, j < s ∧ f j = f s := by
    apply Classical.byContradiction
    intro hn
    have := php K (K + 1) f (fun a _ => hf a) (fun a b hab hb e => hn ⟨b, by omega, a, hab, e⟩)
    omega
  obtain ⟨s, ⟨hs, j, hj, he⟩, hmin⟩ := pk_least (fun s => s ≤ K ∧ ∃ j, j < s ∧ f j = f s) hx
  exact ⟨s, j, hs, hj, he, fun a b hab hb e => hmin b hb ⟨by omega, a, hab, e⟩⟩
def itC (k wd : Nat) (T : Nat → Nat) (L x : Nat) : Nat → Nat
  | 0 => x
  | t + 1 => cimg k wd T L (itC k wd T L x t)
theorem itC_lt {k wd : Nat} {T : Nat → Nat} (hk : 0 < k) (hT : ∀ i, i < k ^ wd → T i < k) {L x : Nat} (hx : x < k ^ L) : ∀ t, itC k wd T L x t < k ^ L
  | 0 => hx
  | t + 1 => cimg_lt hk hT L _
def ImOK (h : Hp) (im : Nat) : Prop := ∃ a b cf M, h im = IO1 im a b ∧ h (im + 1) = io 17 cf ∧ h (im + 2) = io 6561 M
theorem ImOK.eq {h h' : Hp} {im : Nat} (hR : ImOK h im) (he : ∀ j, im ≤ j → j ≤ im + 2 → h' j = h j) : ImOK h' im := by
  obtain ⟨a, b, cf, M, h0, h1, h2⟩ := hR
  exact ⟨a, b, cf, M, (he _ (by omega) (by omega)).trans h0, (he _ (by omega) (by omega)).trans h1, (he _ (by omega) (by omega)).trans h2⟩
theorem k_follow {w : Wt} {h : Hp} {im r k wd L x s j0 : Nat} {T : Nat → Nat} (hi : ImOK h im) (hR : RuleOK h r k wd T) (hs : SZ k wd) (hL0 : 0 < L) (hL : L ≤ 8) (hx : x < k ^ L) (hsep : im + 2 < r ∨ r + 5 < im) (hF : FR (itC k wd T L x) s j0) (hsK : s ≤ k ^ L) : ConN mX1_follow 3 (0, 0) w [.ref im, .ref r, .int (nI L), .int (nI x)] h (.inl none) (fun h' => h' im = IO1 im (nI j0) (nI (s - j0)) ∧ (∃ cf, h' (im + 1) = io 17 cf) ∧ (∃ M, h' (im + 2) = io 6561 M) ∧ ∀ j, (j < im ∨ im + 2 < j) → h' j = h j) := by
  obtain ⟨a, b, cf, M, hi, hca, hM⟩ := hi
  have hr := hR.ro
  have hk := hs.k
  have hK : k ^ L ≤ 6561 := pw_le hk (b := 8) hL
  have hit := itC_lt (k := k) (wd := wd) (T := T) (by omega) hR.T hx
  refine conI (by decide +kernel) ⟨fun _ => rfl, rfl, by simp⟩ (fun X C => ?_)
  change V X (0, 0) w h 0 [some (.ref im), some (.ref r), some (.int (nI L)), some (.int (nI x)), none, none, none] []
  refine v_aload_n C (oX1_follow.at 0 rfl) rfl ?_
  refine v_iload_n C (oX1_follow.at 1 rfl) rfl ?_
  refine v_callV C (oX1_follow.at 2 rfl) cX1_41 hr (k_countOfWords hr (by omega)) rfl rfl rfl ⟨rfl, rfl⟩ rfl rfl (fun _ => rfl) (fun h' hp => ?_)
  rw [show h' = _ from hp]
  dsimp only [Option.toList, List.cons_append, List.nil_append]
  refine v_istore C (oX1_follow.at 3 rfl) rfl ?_
  refine v_aload_n C (oX1_follow.at 4 rfl) rfl ?_
  refine v_getf C (oX1_follow.at 5 rfl) fX1_17 hi rfl ?_
  refine v_iconst C (oX1_follow.at 6 rfl) (v := nI 0) rfl ?_
  refine v_iload C (oX1_follow.at 7 rfl) rfl ?_
  refine v_iconst C (oX1_follow.at 8 rfl) (v := -1) rfl ?_
  dsimp only [sto1, sto2, killL]
  refine v_callS C (oX1_follow.at 9 rfl) cX1_45 (k_fill4 (a := 0) hM (by decide) (Nat.zero_le _) hK) rfl rfl rfl ⟨rfl, rfl⟩ rfl rfl (fun _ => rfl) (fun h' hp => ?_)
  rw [show h' = _ from hp]
  dsimp only [Option.toList, List.cons_append, List.nil_append]
  refine v_iload_n C (oX1_follow.at 10 rfl) rfl ?_
  refine v_istore C (oX1_follow.at 11 rfl) rfl ?_
  refine v_iconst C (oX1_follow.at 12 rfl) (v := nI 0) rfl ?_
  refine v_istore C (oX1_follow.at 13 rfl) rfl ?_
  dsimp only [sto1, sto2, killL]
  suffices H : ∀ d t h1 cf1 M1, t + d = s → h1 im = IO1 im a b → h1 (im + 1) = io 17 cf1 → h1 (im + 2) = io 6561 M1 → (∀ j, (j < im ∨ im + 2 < j) → h1 j = h j) → (∀ q, q < t → M1 (itC k wd T L x q) = nI q) → (∀ y, y < k ^ L → (∀ q, q < t → itC k wd T L x q ≠ y) → M1 y = -1) → V X (0, 0) w h1 24 [some (.ref im), some (.ref r), some (.int (nI L)), some (.int (nI x)), some (.int (nI (k ^ L))), some (.int (nI (itC k wd T L x t))), some (.int (nI t))] [] by
    refine H s 0 _ cf _ (by omega) ((hu_n _ _ (by omega)).trans hi) ((hu_n _ _ (by omega)).trans hca) (hu_s _ _ _) (fun j hj => hu_n _ _ (by omega)) (fun q hq => absurd hq (by omega)) (fun y hy _ => ?_)
    unfold fil
    rw [if_pos (by omega)]
  intro d
  induction d with
  | zero =>
    intro t h1 cf1 M1 ht q0 q1 q2 qf qa qb
    have e1 : t = s := by omega
    subst e1
    have hv : M1 (itC k wd T L x t) = nI j0 := by rw [← hF.2.1]; exact qa j0 hF.1
    have hlt := hit t
    have hj0 := hF.1
    refine v_iload C (oX1_follow.at 14 rfl) rfl ?_
    refine v_iload C (oX1_follow.at 15 rfl) rfl ?_
    refine v_icmp_gtN C (oX1_follow.at 16 rfl) (tgt := 92) (by decide) (by omega) (by omega) (fun hc => ?_) (fun hc => ?_)
    · exact absurd hc (by omega)
    · refine v_aload_n C (oX1_follow.at 17 rfl) rfl ?_
      refine v_getf C (oX1_follow.at 18 rfl) fX1_17 q0 rfl ?_
      refine v_iload C (oX1_follow.at 19 rfl) rfl ?_
      refine v_iald C (oX1_follow.at 20 rfl) q2 (by decide) rfl (by omega) hv ?_
      refine v_if_ltN C (oX1_follow.at 21 rfl) (tgt := 67) (by decide) (by omega) ?_
      refine v_aload_n C (oX1_follow.at 22 rfl) rfl ?_
      refine v_aload_n C (oX1_follow.at 23 rfl) rfl ?_
      refine v_getf C (oX1_follow.at 24 rfl) fX1_17 q0 rfl ?_
      refine v_iload C (oX1_follow.at 25 rfl) rfl ?_
      refine v_iald C (oX1_follow.at 26 rfl) q2 (by decide) rfl (by omega) hv ?_
      refine v_putI C (oX1_follow.at 27 rfl) fX1_51 p1_0 q0 rfl ?_
      refine v_aload_n C (oX1_follow.at 28 rfl) rfl ?_
      refine v_iload C (oX1_follow.at 29 rfl) rfl ?_
      refine v_aload_n C (oX1_follow.at 30 rfl) rfl ?_
      refine v_getf C (oX1_follow.at 31 rfl) fX1_17 (hu_s _ _ _) rfl ?_
      refine v_iload C (oX1_follow.at 32 rfl) rfl ?_
      refine v_iald C (oX1_follow.at 33 rfl) ((hu_n _ _ (by omega)).trans q2) (by decide) rfl (by omega) hv ?_
      refine v_isubN C (oX1_follow.at 34 rfl) (by omega) ?_
      refine v_putI C (oX1_follow.at 35 rfl) fX1_54 p1_1 (hu_s _ _ _) rfl ?_
      simp only [hu_hu, List.set]
      refine v_vret C (oX1_follow.at 36 rfl) rfl rfl ⟨Nat.le_refl _, Nat.le_refl _⟩ ⟨rfl, hu_s _ _ _, ⟨_, (hu_n _ _ (by omega)).trans q1⟩, ⟨_, (hu_n _ _ (by omega)).trans q2⟩, fun j hj => (hu_n _ _ (by omega)).trans (qf j hj)⟩
  | succ d ih =>
    intro t h1 cf1 M1 ht q0 q1 q2 qf qa qb
    have hlt := hit t
    have hv : M1 (itC k wd T L x t) = -1 := qb _ hlt (fun q hq => hF.2.2 q t hq (by omega))
    refine v_iload C (oX1_follow.at 14 rfl) rfl ?_
    refine v_iload C (oX1_follow.at 15 rfl) rfl ?_
    refine v_icmp_gtN C (oX1_follow.at 16 rfl) (tgt := 92) (by decide) (by omega) (by omega) (fun hc => ?_) (fun hc => ?_)
    · exact absurd hc (by omega)
    · refine v_aload_n C (oX1_follow.at 17 rfl) rfl ?_
      refine v_getf C (oX1_follow.at 18 rfl) fX1_17 q0 rfl ?_
      refine v_iload C (oX1_follow.at 19 rfl) rfl ?_
      refine v_iald C (oX1_follow.at 20 rfl) q2 (by decide) rfl (by omega) hv ?_
      refine v_if_lt C (oX1_follow.at 21 rfl) (tgt := 67) (by decide) (fun hc => ?_) (fun hc => ?_)
      · refine v_aload_n C (oX1_follow.at 37 rfl) rfl ?_
        refine v_getf C (oX1_follow.at 38 rfl) fX1_17 q0 rfl ?_
        refine v_iload C (oX1_follow.at 39 rfl) rfl ?_
        refine v_iload C (oX1_follow.at 40 rfl) rfl ?_
        refine v_iast C (oX1_follow.at 41 rfl) q2 (by decide) rfl (by omega) ?_
        have hR1 : RuleOK (hu h1 (im + 2) (io 6561 (upd M1 (itC k wd T L x t) (nI t)))) r k wd T := hR.eq (fun j e1 e2 => (hu_n _ _ (by omega)).trans (qf j (by omega)))
        refine v_aload_n C (oX1_follow.at 42 rfl) rfl ?_
        refine v_aload_n C (oX1_follow.at 43 rfl) rfl ?_
        refine v_iload_n C (oX1_follow.at 44 rfl) rfl ?_
        refine v_iload C (oX1_follow.at 45 rfl) rfl ?_
        refine v_callV C (oX1_follow.at 46 rfl) cX1_57 ((hu_n _ _ (by omega)).trans q0) (k_cyclicImageOf (im := im) (a := a) (b := b) ((hu_n _ _ (by omega)).trans q0) hR1 hs ((hu_n _ _ (by omega)).trans q1) hL0 (by omega) (by omega) (by omega)) rfl rfl rfl ⟨rfl, rfl⟩ rfl rfl (fun _ => rfl) (fun h' hp => ?_)
        dsimp only [Option.toList, List.cons_append, List.nil_append]
        obtain ⟨cf', hp⟩ := hp
        rw [show h' = _ from hp]
        refine v_istore C (oX1_follow.at 47 rfl) rfl ?_
        refine v_iincN C (oX1_follow.at 48 rfl) rfl ?_
        refine v_goto C (oX1_follow.at 49 rfl) (tgt := 24) (by decide) ?_
        dsimp only [sto1, sto2, killL]
        refine ih (t + 1) _ cf' (upd M1 (itC k wd T L x t) (nI t)) (by omega) ?_ (hu_s _ _ _) ?_ (fun j hj => ?_) (fun q hq => ?_) (fun y hy hyn => ?_)
        · rw [hu_n _ _ (by omega), hu_n _ _ (by omega)]; exact q0
        · rw [hu_n _ _ (by omega), hu_s]
        · rw [hu_n _ _ (by omega), hu_n _ _ (by omega)]; exact qf j hj
        · by_cases e1 : q = t
          · subst e1; exact pk_us
          · rw [pk_un (hF.2.2 q t (by omega) (by omega))]
            exact qa q (by omega)
        · rw [pk_un (Ne.symm (hyn t (by omega)))]
          exact qb y hy (fun q hq => hyn q (by omega))
      · exact absurd (by decide) hc
end
section
/-! ===== Paths: counting backwards ===== -/
abbrev PO (p : Nat) (a b : Int32) (len : Nat) : PE := ob 4 [.int a, .int b, .int (nI len), .ref (p + 1), .ref (p + 2)]
def rws (p : Nat) : Nat → Option Nat := fun i => if i < 15 then some (p + 3 + i) else none
def PaOK (h : Hp) (p : Nat) (a b : Int32) (len : Nat) (lf : Nat → Int32) (Wf : Nat → Nat → Int32) : Prop := h p = PO p a b len ∧ h (p + 1) = io 14 lf ∧ h (p + 2) = ao 15 (rws p) ∧ ∀ i, i < 15 → h (p + 3 + i) = io 9 (Wf i)
theorem PaOK.eq {h h' : Hp} {p : Nat} {a b : Int32} {len : Nat} {lf : Nat → Int32} {Wf : Nat → Nat → Int32} (hR : PaOK h p a b len lf Wf) (he : ∀ j, p ≤ j → j ≤ p + 17 → h' j = h j) : PaOK h' p a b len lf Wf :=
  ⟨(he _ (by omega) (by omega)).trans hR.1, (he _ (by omega) (by omega)).trans hR.2.1, (he _ (by omega) (by omega)).trans hR.2.2.1, fun i hi => (he _ (by omega) (by omega)).trans (hR.2.2.2 i hi)⟩
def upW (Wf : Nat → Nat → Int32) (i : Nat) (g : Nat → Int32) : Nat → Nat → Int32 := fun j => if j = i then g else Wf j
theorem PaOK.row {h : Hp} {p : Nat} {a b : Int32} {len : Nat} {lf : Nat → Int32} {Wf : Nat → Nat → Int32} (hR : PaOK h p a b len lf Wf) {i : Nat} (g : Nat → Int32) : PaOK (hu h (p + 3 + i) (io 9 g)) p a b len lf (upW Wf i g) := by
  refine ⟨(hu_n _ _ (by omega)).trans hR.1, (hu_n _ _ (by omega)).trans hR.2.1, (hu_n _ _ (by omega)).trans hR.2.2.1, fun j hj => ?_⟩
  unfold upW
  by_cases e : j = i
  · subst e; rw [if_pos rfl, hu_s]
  · rw [if_neg e, hu_n _ _ (by omega)]; exact hR.2.2.2 j hj
theorem rws_at {p i : Nat} (h : i < 15) : rws p i = some (p + 3 + i) := if_pos h
def sumN (f : Nat → Nat) : Nat → Nat
  | 0 => 0
  | n + 1 => sumN f n + f n
theorem sumN_congr {f g : Nat → Nat} : ∀ n, (∀ i, i < n → f i = g i) → sumN f n = sumN g n
  | 0, _ => rfl
  | n + 1, h => by rw [sumN, sumN, sumN_congr n (fun i hi => h i (by omega)), h n (by omega)]
/-- the numbers of ways, j steps before the end -/
def wB (k n : Nat) (T lb : Nat → Nat) (len : Nat) (B : Nat → Nat) : Nat → Nat → Nat
  | 0, v => B v
  | j + 1, v => sumN (fun s => if T (v * k + s) = lb (len - 1 - j) then wB k n T lb len B j ((v * k + s) % n) else 0) k
theorem k_sumOf {w : Wt} {h : Hp} {r k wd n m q : Nat} {g : Nat → Int32} {F : Nat → Nat} (hr : h r = RO r k wd n m) (hn : n ≤ 9) (hq : h q = io 9 g) (hg : ∀ v, v < n → g v = nI (F v)) : ConN mX4_sumOf 0 (0, 0) w [.ref r, .ref q] h (.inl (some (.int (nI (sumN F n))))) (fun h' => h' = h) := by
  refine conI (by decide +kernel) ⟨fun _ => rfl, rfl, by simp⟩ (fun X C => ?_)
  change V X (0, 0) w h 0 [some (.ref r), some (.ref q), none, none] []
  refine v_iconst C (oX4_sumOf.at 0 rfl) (v := nI 0) rfl ?_
  refine v_istore_n C (oX4_sumOf.at 1 rfl) rfl ?_
  refine v_iconst C (oX4_sumOf.at 2 rfl) (v := nI 0) rfl ?_
  refine v_istore_n C (oX4_sumOf.at 3 rfl) rfl ?_
  dsimp only [sto1, sto2, killL]
  suffices H : ∀ j i, i + j = n → V X (0, 0) w h 4 [some (.ref r), some (.ref q), some (.int (nI (sumN F i))), some (.int (nI i))] [] from H n 0 (by omega)
  intro j
  induction j with
  | zero =>
    intro i hi
    refine v_iload_n C (oX4_sumOf.at 4 rfl) rfl ?_
    refine v_aload_n C (oX4_sumOf.at 5 rfl) rfl ?_
    refine v_getf C (oX4_sumOf.at 6 rfl) fX4_42 hr rfl ?_
    refine v_icmp_geN C (oX4_sumOf.at 7 rfl) (tgt := 24) (by decide) (by omega) (by omega) (fun hc => ?_) (fun hc => ?_)
    · have e : i = n := by omega
      subst e
      refine v_iload_n C (oX4_sumOf.at 16 rfl) rfl ?_
      exact v_iret C (oX4_sumOf.at 17 rfl) rfl rfl ⟨Nat.le_refl _, Nat.le_refl _⟩ ⟨rfl, rfl⟩
    · exact absurd hc (by omega)
  | succ j ih =>
    intro i hi
    refine v_iload_n C (oX4_sumOf.at 4 rfl) rfl ?_
    refine v_aload_n C (oX4_sumOf.at 5 rfl) rfl ?_
    refine v_getf C (oX4_sumOf.at 6 rfl) fX4_42 hr rfl ?_
    refine v_icmp_geN C (oX4_sumOf.at 7 rfl) (tgt := 24) (by decide) (by omega) (by omega) (fun hc => ?_) (fun hc => ?_)
    · exact absurd hc (by omega)
    · refine v_iload_n C (oX4_sumOf.at 8 rfl) rfl ?_
      refine v_aload_n C (oX4_sumOf.at 9 rfl) rfl ?_
      refine v_iload_n C (oX4_sumOf.at 10 rfl) rfl ?_
      refine v_iald C (oX4_sumOf.at 11 rfl) hq (by decide) rfl (by omega) (hg _ (by omega)) ?_
      refine v_iaddN C (oX4_sumOf.at 12 rfl) ?_
      refine v_istore_n C (oX4_sumOf.at 13 rfl) rfl ?_
      refine v_iincN C (oX4_sumOf.at 14 rfl) rfl ?_
      refine v_goto C (oX4_sumOf.at 15 rfl) (tgt := 4) (by decide) ?_
      dsimp only [sto1, sto2, killL]
      exact ih (i + 1) (by omega)
theorem k_waysBy {w : Wt} {h : Hp} {p r k wd nb pl len : Nat} {a b : Int32} {T : Nat → Nat} {lf : Nat → Int32} {Wf : Nat → Nat → Int32} {lv x : Nat} (hR : RuleOK h r k wd T) (hs : SZ k wd) (hP : PaOK h p a b len lf Wf) (hnb : nb < k ^ wd) (hpl : pl < 14) (hlv : lf pl = nI lv) (hlv2 : lv < 3) (hx : Wf (pl + 1) (nb % k ^ (wd - 1)) = nI x) : ConN mX4_waysBy 0 (0, 0) w [.ref p, .ref r, .int (nI nb), .int (nI pl)] h (.inl (some (.int (nI (if T nb = lv then x else 0))))) (fun h' => h' = h) := by
  obtain ⟨f, g, e, v, t, hr, ht, hT, hg, hG, -⟩ := hR
  have hm := hs.m
  have hk := hs.k
  have hTn := (hT nb hnb)
  have hmod := Nat.mod_lt nb hs.n0
  have hn9 := hs.n
  refine conI (by decide +kernel) ⟨fun _ => rfl, rfl, by simp⟩ (fun X C => ?_)
  change V X (0, 0) w h 0 [some (.ref p), some (.ref r), some (.int (nI nb)), some (.int (nI pl))] []
  refine v_aload_n C (oX4_waysBy.at 0 rfl) rfl ?_
  refine v_getf C (oX4_waysBy.at 1 rfl) fX4_81 hr rfl ?_
  refine v_iload_n C (oX4_waysBy.at 2 rfl) rfl ?_
  refine v_iald C (oX4_waysBy.at 3 rfl) ht (by decide) rfl (by omega) hTn.1 ?_
  refine v_aload_n C (oX4_waysBy.at 4 rfl) rfl ?_
  refine v_getf C (oX4_waysBy.at 5 rfl) fX4_9 hP.1 rfl ?_
  refine v_iload_n C (oX4_waysBy.at 6 rfl) rfl ?_
  refine v_iald C (oX4_waysBy.at 7 rfl) hP.2.1 (by decide) rfl (by omega) hlv ?_
  refine v_icmp_neN C (oX4_waysBy.at 8 rfl) (tgt := 33) (by decide) (by omega) (by omega) (fun hc => ?_) (fun hc => ?_)
  · rw [if_neg hc] at C
    refine v_iconst C (oX4_waysBy.at 21 rfl) (v := nI 0) rfl ?_
    exact v_iret C (oX4_waysBy.at 22 rfl) rfl rfl ⟨Nat.le_refl _, Nat.le_refl _⟩ ⟨rfl, rfl⟩
  · rw [if_pos hc] at C
    refine v_aload_n C (oX4_waysBy.at 9 rfl) rfl ?_
    refine v_getf C (oX4_waysBy.at 10 rfl) fX4_19 hP.1 rfl ?_
    refine v_iload_n C (oX4_waysBy.at 11 rfl) rfl ?_
    refine v_iconst C (oX4_waysBy.at 12 rfl) (v := nI 1) rfl ?_
    refine v_iaddN C (oX4_waysBy.at 13 rfl) ?_
    refine v_aald C (oX4_waysBy.at 14 rfl) hP.2.2.1 (by decide) rfl (by omega) (rws_at (by omega)) ?_
    refine v_aload_n C (oX4_waysBy.at 15 rfl) rfl ?_
    refine v_getf C (oX4_waysBy.at 16 rfl) fX4_69 hr rfl ?_
    refine v_iload_n C (oX4_waysBy.at 17 rfl) rfl ?_
    refine v_iald C (oX4_waysBy.at 18 rfl) hg (by decide) rfl (by omega) (hG _ hnb) ?_
    refine v_iald C (oX4_waysBy.at 19 rfl) (hP.2.2.2 _ (by omega)) (by decide) rfl (by omega) hx ?_
    refine v_goto C (oX4_waysBy.at 20 rfl) (tgt := 34) (by decide) ?_
    exact v_iret C (oX4_waysBy.at 22 rfl) rfl rfl ⟨Nat.le_refl _, Nat.le_refl _⟩ ⟨rfl, rfl⟩
theorem k_countBackwards {w : Wt} {h : Hp} {p r k wd len : Nat} {a b : Int32} {T lb B : Nat → Nat} {lf : Nat → Int32} {Wf : Nat → Nat → Int32} (hR : RuleOK h r k wd T) (hs : SZ k wd) (hP : PaOK h p a b len lf Wf) (hsep : r + 5 < p) (hlen : len ≤ 14) (hlb : ∀ i, i < len → lf i = nI (lb i) ∧ lb i < 3) (hB : ∀ v, v < k ^ (wd - 1) → Wf len v = nI (B v)) : ConN mX4_countBackwards 1 (0, 0) w [.ref p, .ref r] h (.inl none) (fun h' => (∃ Wf', PaOK h' p a b len lf Wf' ∧ ∀ i v, i ≤ len → v < k ^ (wd - 1) → Wf' i v = nI (wB k (k ^ (wd - 1)) T lb len B (len - i) v)) ∧ ∀ j, (j < p ∨ p + 17 < j) → h' j = h j) := by
  have hr := hR.ro
  have hn9 := hs.n
  have hk := hs.k
  have hnk := hs.nk
  have hm := hs.m
  generalize hnn : k ^ (wd - 1) = n at *
  refine conI (by decide +kernel) ⟨fun _ => rfl, rfl, by simp⟩ (fun X C => ?_)
  change V X (0, 0) w h 0 [some (.ref p), some (.ref r), none, none, none, none] []
  refine v_aload_n C (oX4_countBackwards.at 0 rfl) rfl ?_
  refine v_getf C (oX4_countBackwards.at 1 rfl) fX4_22 hP.1 rfl ?_
  refine v_iconst C (oX4_countBackwards.at 2 rfl) (v := nI 1) rfl ?_
  refine v_isubP C (oX4_countBackwards.at 3 rfl) ?_
  refine v_istore_n C (oX4_countBackwards.at 4 rfl) rfl ?_
  dsimp only [sto1, sto2, killL]
  suffices H : ∀ ai h1 Wf1 l3 l4 l5, ai ≤ len → PaOK h1 p a b len lf Wf1 → (∀ j, (j < p ∨ p + 17 < j) → h1 j = h j) → (∀ i v, ai ≤ i → i ≤ len → v < n → Wf1 i v = nI (wB k n T lb len B (len - i) v)) → V X (0, 0) w h1 7 [some (.ref p), some (.ref r), some (.int (pI ai)), l3, l4, l5] [] by
    refine H len h Wf none none none (Nat.le_refl _) hP (fun _ _ => rfl) (fun i v h1 h2 h3 => ?_)
    have e : i = len := by omega
    subst e
    rw [Nat.sub_self, wB]
    exact hB v h3
  intro ai
  induction ai with
  | zero =>
    intro h1 Wf1 l3 l4 l5 hai hP1 hfr hw1
    refine v_iload_n C (oX4_countBackwards.at 5 rfl) rfl ?_
    refine v_if_ltP C (oX4_countBackwards.at 6 rfl) (tgt := 84) (by decide) (by omega) (fun hc => ?_) (fun b hc => ?_)
    · exact v_vret C (oX4_countBackwards.at 47 rfl) rfl rfl ⟨Nat.le_refl _, Nat.le_refl _⟩ ⟨rfl, ⟨Wf1, hP1, fun i v e1 e2 => hw1 i v (Nat.zero_le _) e1 e2⟩, hfr⟩
    · cases hc
  | succ ai ih =>
    intro h1 Wf1 l3 l4 l5 hai hP1 hfr hw1
    refine v_iload_n C (oX4_countBackwards.at 5 rfl) rfl ?_
    refine v_if_ltP C (oX4_countBackwards.at 6 rfl) (tgt := 84) (by decide) (by omega) (fun hc => ?_) (fun b hc => ?_)
    · cases hc
    · cases hc
      rw [pI_succ]
      refine v_iconst C (oX4_countBackwards.at 7 rfl) (v := nI 0) rfl ?_
      refine v_istore_n C (oX4_countBackwards.at 8 rfl) rfl ?_
      dsimp only [sto1, sto2, killL]
      suffices H : ∀ d v h1 Wf1 l4 l5, v + d = n → PaOK h1 p a b len lf Wf1 → (∀ j, (j < p ∨ p + 17 < j) → h1 j = h j) → (∀ i u, ai + 1 ≤ i → i ≤ len → u < n → Wf1 i u = nI (wB k n T lb len B (len - i) u)) → (∀ u, u < v → Wf1 ai u = nI (wB k n T lb len B (len - ai) u)) → V X (0, 0) w h1 13 [some (.ref p), some (.ref r), some (.int (nI ai)), some (.int (nI v)), l4, l5] [] from H n 0 h1 Wf1 l4 l5 (by omega) hP1 hfr hw1 (fun u hu => absurd hu (by omega))
      clear hw1 hfr hP1 l3 l4 l5 Wf1 h1
      intro d
      induction d with
      | zero =>
        intro v h1 Wf1 l4 l5 hv hP1 hfr hw1 hw2
        have hr1 : h1 r = RO r k wd n (k ^ wd) := (hfr r (by omega)).trans hr
        refine v_iload_n C (oX4_countBackwards.at 9 rfl) rfl ?_
        refine v_aload_n C (oX4_countBackwards.at 10 rfl) rfl ?_
        refine v_getf C (oX4_countBackwards.at 11 rfl) fX4_42 hr1 rfl ?_
        refine v_icmp_geN C (oX4_countBackwards.at 12 rfl) (tgt := 78) (by decide) (by omega) (by omega) (fun hc => ?_) (fun hc => ?_)
        · refine v_idecP C (oX4_countBackwards.at 45 rfl) rfl ?_
          refine v_goto C (oX4_countBackwards.at 46 rfl) (tgt := 7) (by decide) ?_
          dsimp only [sto1, sto2, killL]
          refine ih h1 Wf1 _ _ _ (by omega) hP1 hfr (fun i u e1 e2 e3 => ?_)
          by_cases e : i = ai
          · subst e; exact hw2 u (by omega)
          · exact hw1 i u (by omega) e2 e3
        · exact absurd hc (by omega)
      | succ d ihd =>
        intro v h1 Wf1 l4 l5 hv hP1 hfr hw1 hw2
        have hr1 : h1 r = RO r k wd n (k ^ wd) := (hfr r (by omega)).trans hr
        have hR1 : RuleOK h1 r k wd T := hR.eq (fun j e1 e2 => hfr j (by omega))
        have hvk : (v + 1) * k ≤ n * k := Nat.mul_le_mul_right k (by omega)
        rw [Nat.add_mul, Nat.one_mul] at hvk
        refine v_iload_n C (oX4_countBackwards.at 9 rfl) rfl ?_
        refine v_aload_n C (oX4_countBackwards.at 10 rfl) rfl ?_
        refine v_getf C (oX4_countBackwards.at 11 rfl) fX4_42 hr1 rfl ?_
        refine v_icmp_geN C (oX4_countBackwards.at 12 rfl) (tgt := 78) (by decide) (by omega) (by omega) (fun hc => ?_) (fun hc => ?_)
        · exact absurd hc (by omega)
        · refine v_iconst C (oX4_countBackwards.at 13 rfl) (v := nI 0) rfl ?_
          refine v_istore C (oX4_countBackwards.at 14 rfl) rfl ?_
          refine v_iconst C (oX4_countBackwards.at 15 rfl) (v := nI 0) rfl ?_
          refine v_istore C (oX4_countBackwards.at 16 rfl) rfl ?_
          dsimp only [sto1, sto2, killL]
          suffices H : ∀ d s, s + d = k → V X (0, 0) w h1 27 [some (.ref p), some (.ref r), some (.int (nI ai)), some (.int (nI v)), some (.int (nI (sumN (fun s => if T (v * k + s) = lb ai then wB k n T lb len B (len - 1 - ai) ((v * k + s) % n) else 0) s))), some (.int (nI s))] [] from H k 0 (by omega)
          intro d2
          induction d2 with
          | zero =>
            intro s hs2
            refine v_iload C (oX4_countBackwards.at 17 rfl) rfl ?_
            refine v_aload_n C (oX4_countBackwards.at 18 rfl) rfl ?_
            refine v_getf C (oX4_countBackwards.at 19 rfl) fX4_63 hr1 rfl ?_
            refine v_icmp_geN C (oX4_countBackwards.at 20 rfl) (tgt := 62) (by decide) (by omega) (by omega) (fun hc => ?_) (fun hc => ?_)
            · have e : s = k := by omega
              subst e
              refine v_aload_n C (oX4_countBackwards.at 36 rfl) rfl ?_
              refine v_getf C (oX4_countBackwards.at 37 rfl) fX4_19 hP1.1 rfl ?_
              refine v_iload_n C (oX4_countBackwards.at 38 rfl) rfl ?_
              refine v_aald C (oX4_countBackwards.at 39 rfl) hP1.2.2.1 (by decide) rfl (by omega) (rws_at (by omega)) ?_
              refine v_iload_n C (oX4_countBackwards.at 40 rfl) rfl ?_
              refine v_iload C (oX4_countBackwards.at 41 rfl) rfl ?_
              refine v_iast C (oX4_countBackwards.at 42 rfl) (hP1.2.2.2 _ (by omega)) (by decide) rfl (by omega) ?_
              refine v_iincN C (oX4_countBackwards.at 43 rfl) rfl ?_
              refine v_goto C (oX4_countBackwards.at 44 rfl) (tgt := 13) (by decide) ?_
              dsimp only [sto1, sto2, killL]
              refine ihd (v + 1) _ _ _ _ (by omega) (hP1.row _) (fun j hj => (hu_n _ _ (by omega)).trans (hfr j hj)) (fun i u e1 e2 e3 => ?_) (fun u hu => ?_)
              · unfold upW
                rw [if_neg (by omega)]
                exact hw1 i u e1 e2 e3
              · unfold upW
                rw [if_pos rfl]
                by_cases e : u = v
                · subst e
                  rw [pk_us, show len - ai = (len - 1 - ai) + 1 by omega, wB, show len - 1 - (len - 1 - ai) = ai by omega]
                · rw [pk_un e]
                  exact hw2 u (by omega)
            · exact absurd hc (by omega)
          | succ d2 ih2 =>
            intro s hs2
            refine v_iload C (oX4_countBackwards.at 17 rfl) rfl ?_
            refine v_aload_n C (oX4_countBackwards.at 18 rfl) rfl ?_
            refine v_getf C (oX4_countBackwards.at 19 rfl) fX4_63 hr1 rfl ?_
            refine v_icmp_geN C (oX4_countBackwards.at 20 rfl) (tgt := 62) (by decide) (by omega) (by omega) (fun hc => ?_) (fun hc => ?_)
            · exact absurd hc (by omega)
            · have hmod : (v * k + s) % n < n := Nat.mod_lt _ (by omega)
              refine v_iload C (oX4_countBackwards.at 21 rfl) rfl ?_
              refine v_aload_n C (oX4_countBackwards.at 22 rfl) rfl ?_
              refine v_aload_n C (oX4_countBackwards.at 23 rfl) rfl ?_
              refine v_iload_n C (oX4_countBackwards.at 24 rfl) rfl ?_
              refine v_aload_n C (oX4_countBackwards.at 25 rfl) rfl ?_
              refine v_getf C (oX4_countBackwards.at 26 rfl) fX4_63 hr1 rfl ?_
              refine v_imulN C (oX4_countBackwards.at 27 rfl) ?_
              refine v_iload C (oX4_countBackwards.at 28 rfl) rfl ?_
              refine v_iaddN C (oX4_countBackwards.at 29 rfl) ?_
              refine v_iload_n C (oX4_countBackwards.at 30 rfl) rfl ?_
              refine v_callV C (oX4_countBackwards.at 31 rfl) cX4_66 hP1.1 (k_waysBy (lv := lb ai) (x := wB k n T lb len B (len - 1 - ai) ((v * k + s) % n)) hR1 hs hP1 (by omega) (by omega) (hlb ai (by omega)).1 (hlb ai (by omega)).2 (by rw [hnn, hw1 (ai + 1) _ (by omega) (by omega) hmod, show len - (ai + 1) = len - 1 - ai by omega])) rfl rfl rfl ⟨rfl, rfl⟩ rfl rfl (fun _ => rfl) (fun h' hp => ?_)
              rw [show h' = _ from hp]
              dsimp only [Option.toList, List.cons_append, List.nil_append]
              refine v_iaddN C (oX4_countBackwards.at 32 rfl) ?_
              refine v_istore C (oX4_countBackwards.at 33 rfl) rfl ?_
              refine v_iincN C (oX4_countBackwards.at 34 rfl) rfl ?_
              refine v_goto C (oX4_countBackwards.at 35 rfl) (tgt := 27) (by decide) ?_
              dsimp only [sto1, sto2, killL]
              exact ih2 (s + 1) (by omega)
end
section
/-! ===== Paths: counts and walks ===== -/
def baT (last : Nat) : Nat → Nat := fun v => if v = last then 1 else 0
def baA : Nat → Nat := fun _ => 1
/-- behind a count of ways with the last row B -/
def BWP (h : Hp) (p k wd : Nat) (T lb : Nat → Nat) (len : Nat) (a b : Int32) (lf : Nat → Int32) (B : Nat → Nat) (h' : Hp) : Prop := (∃ Wf', PaOK h' p a b len lf Wf' ∧ ∀ i v, i ≤ len → v < k ^ (wd - 1) → Wf' i v = nI (wB k (k ^ (wd - 1)) T lb len B (len - i) v)) ∧ ∀ j, (j < p ∨ p + 17 < j) → h' j = h j
theorem k_countTo {w : Wt} {h : Hp} {p r k wd len last : Nat} {a b : Int32} {T lb : Nat → Nat} {lf : Nat → Int32} {Wf : Nat → Nat → Int32} (hR : RuleOK h r k wd T) (hs : SZ k wd) (hP : PaOK h p a b len lf Wf) (hsep : r + 5 < p) (hlen : len ≤ 14) (hlb : ∀ i, i < len → lf i = nI (lb i) ∧ lb i < 3) (hla : last < k ^ (wd - 1)) : ConN mX4_countTo 2 (0, 0) w [.ref p, .ref r, .int (nI last)] h (.inl none) (BWP h p k wd T lb len a b lf (baT last)) := by
  have hn9 := hs.n
  refine conI (by decide +kernel) ⟨fun _ => rfl, rfl, by simp⟩ (fun X C => ?_)
  change V X (0, 0) w h 0 [some (.ref p), some (.ref r), some (.int (nI last))] []
  refine v_aload_n C (oX4_countTo.at 0 rfl) rfl ?_
  refine v_getf C (oX4_countTo.at 1 rfl) fX4_19 hP.1 rfl ?_
  refine v_aload_n C (oX4_countTo.at 2 rfl) rfl ?_
  refine v_getf C (oX4_countTo.at 3 rfl) fX4_22 hP.1 rfl ?_
  refine v_aald C (oX4_countTo.at 4 rfl) hP.2.2.1 (by decide) rfl (by omega) (rws_at (by omega)) ?_
  refine v_iconst C (oX4_countTo.at 5 rfl) (v := nI 0) rfl ?_
  refine v_callS C (oX4_countTo.at 6 rfl) cX4_72 (k_fill (hP.2.2.2 len (by omega)) (by decide)) rfl rfl rfl ⟨rfl, rfl⟩ rfl rfl (fun _ => rfl) (fun h' hp => ?_)
  rw [show h' = _ from hp]
  dsimp only [Option.toList, List.cons_append, List.nil_append]
  have hP1 := hP.row (i := len) (mix (Wf len) (fun _ => nI 0) 9)
  refine v_aload_n C (oX4_countTo.at 7 rfl) rfl ?_
  refine v_getf C (oX4_countTo.at 8 rfl) fX4_19 hP1.1 rfl ?_
  refine v_aload_n C (oX4_countTo.at 9 rfl) rfl ?_
  refine v_getf C (oX4_countTo.at 10 rfl) fX4_22 hP1.1 rfl ?_
  refine v_aald C (oX4_countTo.at 11 rfl) hP1.2.2.1 (by decide) rfl (by omega) (rws_at (by omega)) ?_
  refine v_iload_n C (oX4_countTo.at 12 rfl) rfl ?_
  refine v_iconst C (oX4_countTo.at 13 rfl) (v := nI 1) rfl ?_
  refine v_iast C (oX4_countTo.at 14 rfl) (hu_s _ _ _) (by decide) rfl (by omega) ?_
  rw [hu_hu]
  have hP2 := hP.row (i := len) (upd (mix (Wf len) (fun _ => nI 0) 9) last (nI 1))
  have hB : ∀ v, v < k ^ (wd - 1) → upW Wf len (upd (mix (Wf len) (fun _ => nI 0) 9) last (nI 1)) len v = nI (baT last v) := fun v hv => by
    unfold upW baT
    rw [if_pos rfl]
    by_cases e : v = last
    · subst e; rw [pk_us, if_pos rfl]
    · rw [pk_un e, if_neg e, mix_lt (by omega)]
  refine v_aload_n C (oX4_countTo.at 15 rfl) rfl ?_
  refine v_aload_n C (oX4_countTo.at 16 rfl) rfl ?_
  refine v_callV C (oX4_countTo.at 17 rfl) cX4_78 hP2.1 (k_countBackwards (lb := lb) (B := baT last) (hR.hu (by omega)) hs hP2 hsep hlen hlb hB) rfl rfl rfl ⟨rfl, rfl⟩ rfl rfl (fun _ => rfl) (fun h' hp => ?_)
  dsimp only [Option.toList, List.cons_append, List.nil_append]
  exact v_vret C (oX4_countTo.at 18 rfl) rfl rfl ⟨Nat.le_refl _, Nat.le_refl _⟩ ⟨rfl, hp.1, fun j hj => (hp.2 j hj).trans (hu_n _ _ (by omega))⟩
theorem k_countToAnywhere {w : Wt} {h : Hp} {p r k wd len : Nat} {a b : Int32} {T lb : Nat → Nat} {lf : Nat → Int32} {Wf : Nat → Nat → Int32} (hR : RuleOK h r k wd T) (hs : SZ k wd) (hP : PaOK h p a b len lf Wf) (hsep : r + 5 < p) (hlen : len ≤ 14) (hlb : ∀ i, i < len → lf i = nI (lb i) ∧ lb i < 3) : ConN mX4_countToAnywhere 2 (0, 0) w [.ref p, .ref r] h (.inl none) (BWP h p k wd T lb len a b lf baA) := by
  have hn9 := hs.n
  refine conI (by decide +kernel) ⟨fun _ => rfl, rfl, by simp⟩ (fun X C => ?_)
  change V X (0, 0) w h 0 [some (.ref p), some (.ref r)] []
  refine v_aload_n C (oX4_countToAnywhere.at 0 rfl) rfl ?_
  refine v_getf C (oX4_countToAnywhere.at 1 rfl) fX4_19 hP.1 rfl ?_
  refine v_aload_n C (oX4_countToAnywhere.at 2 rfl) rfl ?_
  refine v_getf C (oX4_countToAnywhere.at 3 rfl) fX4_22 hP.1 rfl ?_
  refine v_aald C (oX4_countToAnywhere.at 4 rfl) hP.2.2.1 (by decide) rfl (by omega) (rws_at (by omega)) ?_
  refine v_iconst C (oX4_countToAnywhere.at 5 rfl) (v := nI 1) rfl ?_
  refine v_callS C (oX4_countToAnywhere.at 6 rfl) cX4_72 (k_fill (hP.2.2.2 len (by omega)) (by decide)) rfl rfl rfl ⟨rfl, rfl⟩ rfl rfl (fun _ => rfl) (fun h' hp => ?_)
  rw [show h' = _ from hp]
  dsimp only [Option.toList, List.cons_append, List.nil_append]
  have hP2 := hP.row (i := len) (mix (Wf len) (fun _ => nI 1) 9)
  have hB : ∀ v, v < k ^ (wd - 1) → upW Wf len (mix (Wf len) (fun _ => nI 1) 9) len v = nI (baA v) := fun v hv => by
    unfold upW baA
    rw [if_pos rfl, mix_lt (by omega)]
  refine v_aload_n C (oX4_countToAnywhere.at 7 rfl) rfl ?_
  refine v_aload_n C (oX4_countToAnywhere.at 8 rfl) rfl ?_
  refine v_callV C (oX4_countToAnywhere.at 9 rfl) cX4_78 hP2.1 (k_countBackwards (lb := lb) (B := baA) (hR.hu (by omega)) hs hP2 hsep hlen hlb hB) rfl rfl rfl ⟨rfl, rfl⟩ rfl rfl (fun _ => rfl) (fun h' hp => ?_)
  dsimp only [Option.toList, List.cons_append, List.nil_append]
  exact v_vret C (oX4_countToAnywhere.at 10 rfl) rfl rfl ⟨Nat.le_refl _, Nat.le_refl _⟩ ⟨rfl, hp.1, fun j hj => (hp.2 j hj).trans (hu_n _ _ (by omega))⟩
theorem k_countAll {w : Wt} {h : Hp} {p r k wd len : Nat} {a b : Int32} {T lb : Nat → Nat} {lf : Nat → Int32} {Wf : Nat → Nat → Int32} (hR : RuleOK h r k wd T) (hs : SZ k wd) (hP : PaOK h p a b len lf Wf) (hsep : r + 5 < p) (hlen : len ≤ 14) (hlb : ∀ i, i < len → lf i = nI (lb i) ∧ lb i < 3) : ConN mX4_countAll 3 (0, 0) w [.ref p, .ref r] h (.inl (some (.int (nI (sumN (wB k (k ^ (wd - 1)) T lb len baA len) (k ^ (wd - 1))))))) (BWP h p k wd T lb len a b lf baA) := by
  refine conI (by decide +kernel) ⟨fun _ => rfl, rfl, by simp⟩ (fun X C => ?_)
  change V X (0, 0) w h 0 [some (.ref p), some (.ref r)] []
  refine v_aload_n C (oX4_countAll.at 0 rfl) rfl ?_
  refine v_aload_n C (oX4_countAll.at 1 rfl) rfl ?_
  refine v_callV C (oX4_countAll.at 2 rfl) cX4_30 hP.1 (k_countToAnywhere hR hs hP hsep hlen hlb) rfl rfl rfl ⟨rfl, rfl⟩ rfl rfl (fun _ => rfl) (fun h' hp => ?_)
  dsimp only [Option.toList, List.cons_append, List.nil_append]
  obtain ⟨⟨Wf', hP1, hw1⟩, hfr⟩ := hp
  have hr1 : h' r = RO r k wd (k ^ (wd - 1)) (k ^ wd) := (hfr r (by omega)).trans hR.ro
  refine v_aload_n C (oX4_countAll.at 3 rfl) rfl ?_
  refine v_aload_n C (oX4_countAll.at 4 rfl) rfl ?_
  refine v_getf C (oX4_countAll.at 5 rfl) fX4_19 hP1.1 rfl ?_
  refine v_iconst C (oX4_countAll.at 6 rfl) (v := nI 0) rfl ?_
  refine v_aald C (oX4_countAll.at 7 rfl) hP1.2.2.1 (by decide) rfl (by omega) (rws_at (by omega)) ?_
  refine v_callS C (oX4_countAll.at 8 rfl) cX4_34 (k_sumOf hr1 hs.n (hP1.2.2.2 0 (by omega)) (fun v hv => hw1 0 v (Nat.zero_le _) hv)) rfl rfl rfl ⟨rfl, rfl⟩ rfl rfl (fun _ => rfl) (fun h' hp => ?_)
  rw [show h' = _ from hp]
  dsimp only [Option.toList, List.cons_append, List.nil_append]
  exact v_iret C (oX4_countAll.at 9 rfl) rfl rfl ⟨Nat.le_refl _, Nat.le_refl _⟩ ⟨rfl, ⟨Wf', hP1, hw1⟩, hfr⟩
theorem k_countBetween {w : Wt} {h : Hp} {p r k wd len first last : Nat} {a b : Int32} {T lb : Nat → Nat} {lf : Nat → Int32} {Wf : Nat → Nat → Int32} (hR : RuleOK h r k wd T) (hs : SZ k wd) (hP : PaOK h p a b len lf Wf) (hsep : r + 5 < p) (hlen : len ≤ 14) (hlb : ∀ i, i < len → lf i = nI (lb i) ∧ lb i < 3) (hfi : first < k ^ (wd - 1)) (hla : last < k ^ (wd - 1)) : ConN mX4_countBetween 3 (0, 0) w [.ref p, .ref r, .int (nI first), .int (nI last)] h (.inl (some (.int (nI (wB k (k ^ (wd - 1)) T lb len (baT last) len first))))) (BWP h p k wd T lb len a b lf (baT last)) := by
  have hn9 := hs.n
  refine conI (by decide +kernel) ⟨fun _ => rfl, rfl, by simp⟩ (fun X C => ?_)
  change V X (0, 0) w h 0 [some (.ref p), some (.ref r), some (.int (nI first)), some (.int (nI last))] []
  refine v_aload_n C (oX4_countBetween.at 0 rfl) rfl ?_
  refine v_aload_n C (oX4_countBetween.at 1 rfl) rfl ?_
  refine v_iload_n C (oX4_countBetween.at 2 rfl) rfl ?_
  refine v_callV C (oX4_countBetween.at 3 rfl) cX4_38 hP.1 (k_countTo hR hs hP hsep hlen hlb hla) rfl rfl rfl ⟨rfl, rfl⟩ rfl rfl (fun _ => rfl) (fun h' hp => ?_)
  dsimp only [Option.toList, List.cons_append, List.nil_append]
  obtain ⟨⟨Wf', hP1, hw1⟩, hfr⟩ := hp
  refine v_aload_n C (oX4_countBetween.at 4 rfl) rfl ?_
  refine v_getf C (oX4_countBetween.at 5 rfl) fX4_19 hP1.1 rfl ?_
  refine v_iconst C (oX4_countBetween.at 6 rfl) (v := nI 0) rfl ?_
  refine v_aald C (oX4_countBetween.at 7 rfl) hP1.2.2.1 (by decide) rfl (by omega) (rws_at (by omega)) ?_
  refine v_iload_n C (oX4_countBetween.at 8 rfl) rfl ?_
  refine v_iald C (oX4_countBetween.at 9 rfl) (hP1.2.2.2 0 (by omega)) (by decide) rfl (by omega) (hw1 0 _ (Nat.zero_le _) hfi) ?_
  exact v_iret C (oX4_countBetween.at 10 rfl) rfl rfl ⟨Nat.le_refl _, Nat.le_refl _⟩ ⟨rfl, ⟨Wf', hP1, hw1⟩, hfr⟩
/-- only the ways' rows have changed -/
def PaCh (h : Hp) (p : Nat) (a b : Int32) (len : Nat) (lf : Nat → Int32) (h' : Hp) : Prop := (∃ Wf', PaOK h' p a b len lf Wf') ∧ ∀ j, (j < p ∨ p + 17 < j) → h' j = h j
theorem k_countClosed {w : Wt} {h : Hp} {p r k wd len : Nat} {a b : Int32} {T lb : Nat → Nat} {lf : Nat → Int32} {Wf : Nat → Nat → Int32} (hR : RuleOK h r k wd T) (hs : SZ k wd) (hP : PaOK h p a b len lf Wf) (hsep : r + 5 < p) (hlen : len ≤ 14) (hlb : ∀ i, i < len → lf i = nI (lb i) ∧ lb i < 3) : ConN mX4_countClosed 4 (0, 0) w [.ref p, .ref r] h (.inl (some (.int (nI (if len = 0 then 0 else sumN (fun v => wB k (k ^ (wd - 1)) T lb len (baT v) len v) (k ^ (wd - 1))))))) (PaCh h p a b len lf) := by
  have hn9 := hs.n
  refine conI (by decide +kernel) ⟨fun _ => rfl, rfl, by simp⟩ (fun X C => ?_)
  change V X (0, 0) w h 0 [some (.ref p), some (.ref r), none, none] []
  refine v_iconst C (oX4_countClosed.at 0 rfl) (v := nI 0) rfl ?_
  refine v_istore_n C (oX4_countClosed.at 1 rfl) rfl ?_
  refine v_aload_n C (oX4_countClosed.at 2 rfl) rfl ?_
  refine v_getf C (oX4_countClosed.at 3 rfl) fX4_22 hP.1 rfl ?_
  dsimp only [sto1, sto2, killL]
  refine v_if_leN C (oX4_countClosed.at 4 rfl) (tgt := 35) (by decide) (by omega) (fun hc => ?_) (fun hc => ?_)
  · rw [if_pos hc] at C
    refine v_iload_n C (oX4_countClosed.at 21 rfl) rfl ?_
    exact v_iret C (oX4_countClosed.at 22 rfl) rfl rfl ⟨Nat.le_refl _, Nat.le_refl _⟩ ⟨rfl, ⟨Wf, hP⟩, fun _ _ => rfl⟩
  · rw [if_neg (by omega)] at C
    refine v_iconst C (oX4_countClosed.at 5 rfl) (v := nI 0) rfl ?_
    refine v_istore_n C (oX4_countClosed.at 6 rfl) rfl ?_
    dsimp only [sto1, sto2, killL]
    suffices H : ∀ d v h1 Wf1, v + d = k ^ (wd - 1) → PaOK h1 p a b len lf Wf1 → (∀ j, (j < p ∨ p + 17 < j) → h1 j = h j) → V X (0, 0) w h1 11 [some (.ref p), some (.ref r), some (.int (nI (sumN (fun v => wB k (k ^ (wd - 1)) T lb len (baT v) len v) v))), some (.int (nI v))] [] from H (k ^ (wd - 1)) 0 h Wf (by omega) hP (fun _ _ => rfl)
    intro d
    induction d with
    | zero =>
      intro v h1 Wf1 hv hP1 hfr
      have hr1 : h1 r = RO r k wd (k ^ (wd - 1)) (k ^ wd) := (hfr r (by omega)).trans hR.ro
      refine v_iload_n C (oX4_countClosed.at 7 rfl) rfl ?_
      refine v_aload_n C (oX4_countClosed.at 8 rfl) rfl ?_
      refine v_getf C (oX4_countClosed.at 9 rfl) fX4_42 hr1 rfl ?_
      refine v_icmp_geN C (oX4_countClosed.at 10 rfl) (tgt := 35) (by decide) (by omega) (by omega) (fun hc => ?_) (fun hc => ?_)
      · have e : v = k ^ (wd - 1) := by omega
        subst e
        refine v_iload_n C (oX4_countClosed.at 21 rfl) rfl ?_
        exact v_iret C (oX4_countClosed.at 22 rfl) rfl rfl ⟨Nat.le_refl _, Nat.le_refl _⟩ ⟨rfl, ⟨Wf1, hP1⟩, hfr⟩
      · exact absurd hc (by omega)
    | succ d ih =>
      intro v h1 Wf1 hv hP1 hfr
      have hr1 : h1 r = RO r k wd (k ^ (wd - 1)) (k ^ wd) := (hfr r (by omega)).trans hR.ro
      have hR1 : RuleOK h1 r k wd T := hR.eq (fun j e1 e2 => hfr j (by omega))
      refine v_iload_n C (oX4_countClosed.at 7 rfl) rfl ?_
      refine v_aload_n C (oX4_countClosed.at 8 rfl) rfl ?_
      refine v_getf C (oX4_countClosed.at 9 rfl) fX4_42 hr1 rfl ?_
      refine v_icmp_geN C (oX4_countClosed.at 10 rfl) (tgt := 35) (by decide) (by omega) (by omega) (fun hc => ?_) (fun hc => ?_)
      · exact absurd hc (by omega)
      · refine v_iload_n C (oX4_countClosed.at 11 rfl) rfl ?_
        refine v_aload_n C (oX4_countClosed.at 12 rfl) rfl ?_
        refine v_aload_n C (oX4_countClosed.at 13 rfl) rfl ?_
        refine v_iload_n C (oX4_countClosed.at 14 rfl) rfl ?_
        refine v_iload_n C (oX4_countClosed.at 15 rfl) rfl ?_
        refine v_callV C (oX4_countClosed.at 16 rfl) cX4_45 hP1.1 (k_countBetween hR1 hs hP1 hsep hlen hlb (first := v) (last := v) (by omega) (by omega)) rfl rfl rfl ⟨rfl, rfl⟩ rfl rfl (fun _ => rfl) (fun h' hp => ?_)
        dsimp only [Option.toList, List.cons_append, List.nil_append]
        obtain ⟨⟨Wf', hP2, -⟩, hfr2⟩ := hp
        refine v_iaddN C (oX4_countClosed.at 17 rfl) ?_
        refine v_istore_n C (oX4_countClosed.at 18 rfl) rfl ?_
        refine v_iincN C (oX4_countClosed.at 19 rfl) rfl ?_
        refine v_goto C (oX4_countClosed.at 20 rfl) (tgt := 11) (by decide) ?_
        dsimp only [sto1, sto2, killL]
        exact ih (v + 1) h' Wf' (by omega) hP2 (fun j hj => (hfr2 j hj).trans (hfr j hj))
theorem k_withoutEnd {w : Wt} {h : Hp} {r k wd n m x : Nat} (hr : h r = RO r k wd n m) (hs : SZ k wd) (hx : x < 2 ^ 31) : ConN mX4_withoutEnd 1 (0, 0) w [.ref r, .int (nI x)] h (.inl (some (.int (nI (x / k ^ (wd - 1)))))) (fun h' => h' = h) := by
  have hw2 := hs.w
  refine conI (by decide +kernel) ⟨fun _ => rfl, rfl, by simp⟩ (fun X C => ?_)
  change V X (0, 0) w h 0 [some (.ref r), some (.int (nI x)), none, none] []
  refine v_iload_n C (oX4_withoutEnd.at 0 rfl) rfl ?_
  refine v_istore_n C (oX4_withoutEnd.at 1 rfl) rfl ?_
  refine v_iconst C (oX4_withoutEnd.at 2 rfl) (v := nI 0) rfl ?_
  refine v_istore_n C (oX4_withoutEnd.at 3 rfl) rfl ?_
  dsimp only [sto1, sto2, killL]
  suffices H : ∀ j i, i + j = wd - 1 → V X (0, 0) w h 4 [some (.ref r), some (.int (nI x)), some (.int (nI (x / k ^ i))), some (.int (nI i))] [] by
    have := H (wd - 1) 0 (by omega)
    rw [Nat.pow_zero, Nat.div_one] at this
    exact this
  intro j
  induction j with
  | zero =>
    intro i hi
    refine v_iload_n C (oX4_withoutEnd.at 4 rfl) rfl ?_
    refine v_aload_n C (oX4_withoutEnd.at 5 rfl) rfl ?_
    refine v_getf C (oX4_withoutEnd.at 6 rfl) fX4_56 hr rfl ?_
    refine v_iconst C (oX4_withoutEnd.at 7 rfl) (v := nI 1) rfl ?_
    refine v_isubN C (oX4_withoutEnd.at 8 rfl) (by omega) ?_
    refine v_icmp_geN C (oX4_withoutEnd.at 9 rfl) (tgt := 26) (by decide) (by omega) (by omega) (fun hc => ?_) (fun hc => ?_)
    · have e : i = wd - 1 := by omega
      subst e
      refine v_iload_n C (oX4_withoutEnd.at 16 rfl) rfl ?_
      exact v_iret C (oX4_withoutEnd.at 17 rfl) rfl rfl ⟨Nat.le_refl _, Nat.le_refl _⟩ ⟨rfl, rfl⟩
    · exact absurd hc (by omega)
  | succ j ih =>
    intro i hi
    refine v_iload_n C (oX4_withoutEnd.at 4 rfl) rfl ?_
    refine v_aload_n C (oX4_withoutEnd.at 5 rfl) rfl ?_
    refine v_getf C (oX4_withoutEnd.at 6 rfl) fX4_56 hr rfl ?_
    refine v_iconst C (oX4_withoutEnd.at 7 rfl) (v := nI 1) rfl ?_
    refine v_isubN C (oX4_withoutEnd.at 8 rfl) (by omega) ?_
    refine v_icmp_geN C (oX4_withoutEnd.at 9 rfl) (tgt := 26) (by decide) (by omega) (by omega) (fun hc => ?_) (fun hc => ?_)
    · exact absurd hc (by omega)
    · refine v_aload_n C (oX4_withoutEnd.at 10 rfl) rfl ?_
      refine v_iload_n C (oX4_withoutEnd.at 11 rfl) rfl ?_
      refine v_callV C (oX4_withoutEnd.at 12 rfl) cX4_59 hr (k_withoutLastCell hr hs.k (ndiv_lt hx)) rfl rfl rfl ⟨rfl, rfl⟩ rfl rfl (fun _ => rfl) (fun h' hp => ?_)
      rw [show h' = _ from hp]
      dsimp only [Option.toList, List.cons_append, List.nil_append]
      refine v_istore_n C (oX4_withoutEnd.at 13 rfl) rfl ?_
      refine v_iincN C (oX4_withoutEnd.at 14 rfl) rfl ?_
      refine v_goto C (oX4_withoutEnd.at 15 rfl) (tgt := 4) (by decide) ?_
      dsimp only [sto1, sto2, killL]
      rw [ndiv_s]
      exact ih (i + 1) (by omega)
theorem k_takeLabels {w : Wt} {h : Hp} {p r k wd len len0 x : Nat} {a b : Int32} {T : Nat → Nat} {lf : Nat → Int32} {Wf : Nat → Nat → Int32} (hR : RuleOK h r k wd T) (hs : SZ k wd) (hP : PaOK h p a b len0 lf Wf) (hsep : r + 5 < p) (hlen : len ≤ 14) (hx : x < 2 ^ 31) : ConN mX4_takeLabels 2 (0, 0) w [.ref p, .ref r, .int (nI len), .int (nI x)] h (.inl none) (fun h' => PaOK h' p a b len (spw k len x lf 0) Wf ∧ ∀ j, (j < p ∨ p + 17 < j) → h' j = h j) := by
  have hr := hR.ro
  refine conI (by decide +kernel) ⟨fun _ => rfl, rfl, by simp⟩ (fun X C => ?_)
  change V X (0, 0) w h 0 [some (.ref p), some (.ref r), some (.int (nI len)), some (.int (nI x))] []
  refine v_aload_n C (oX4_takeLabels.at 0 rfl) rfl ?_
  refine v_iload_n C (oX4_takeLabels.at 1 rfl) rfl ?_
  refine v_putI C (oX4_takeLabels.at 2 rfl) fX4_22 p4_2 hP.1 rfl ?_
  simp only [List.set]
  refine v_aload_n C (oX4_takeLabels.at 3 rfl) rfl ?_
  refine v_iload_n C (oX4_takeLabels.at 4 rfl) rfl ?_
  refine v_iload_n C (oX4_takeLabels.at 5 rfl) rfl ?_
  refine v_aload_n C (oX4_takeLabels.at 6 rfl) rfl ?_
  refine v_getf C (oX4_takeLabels.at 7 rfl) fX4_9 (hu_s _ _ _) rfl ?_
  refine v_callV C (oX4_takeLabels.at 8 rfl) cX4_26 ((hu_n _ _ (by omega)).trans hr) (k_spreadWord ((hu_n _ _ (by omega)).trans hr) hs.k hx hlen (by decide) ((hu_n _ _ (by omega)).trans hP.2.1) (by omega)) rfl rfl rfl ⟨rfl, rfl⟩ rfl rfl (fun _ => rfl) (fun h' hp => ?_)
  rw [show h' = _ from hp]
  dsimp only [Option.toList, List.cons_append, List.nil_append]
  refine v_vret C (oX4_takeLabels.at 9 rfl) rfl rfl ⟨Nat.le_refl _, Nat.le_refl _⟩ ⟨rfl, ⟨(hu_n _ _ (by omega)).trans (hu_s _ _ _), hu_s _ _ _, ?_, fun i hi => ?_⟩, fun j hj => ?_⟩
  · rw [hu_n _ _ (by omega), hu_n _ _ (by omega)]; exact hP.2.2.1
  · rw [hu_n _ _ (by omega), hu_n _ _ (by omega)]; exact hP.2.2.2 i hi
  · rw [hu_n _ _ (by omega), hu_n _ _ (by omega)]
end
section
/-! ===== Paths: the word with a number ===== -/
theorem sumN_mono (f : Nat → Nat) {a : Nat} : ∀ {b : Nat}, a ≤ b → sumN f a ≤ sumN f b
  | 0, h => by have : a = 0 := by omega
               subst this; exact Nat.le_refl _
  | b + 1, h => by
    by_cases e : a = b + 1
    · subst e; exact Nat.le_refl _
    · have := sumN_mono f (a := a) (b := b) (by omega)
      rw [sumN]; omega
theorem sumN_le {f : Nat → Nat} {c : Nat} : ∀ n, (∀ i, i < n → f i ≤ c) → sumN f n ≤ n * c
  | 0, _ => by simp [sumN]
  | n + 1, h => by
    have h1 := sumN_le n (fun i hi => h i (by omega))
    have h2 := h n (by omega)
    rw [sumN, Nat.add_mul, Nat.one_mul]; omega
theorem wB_le {k n : Nat} {T lb : Nat → Nat} {len : Nat} {B : Nat → Nat} (hB : ∀ v, B v ≤ 1) : ∀ j v, wB k n T lb len B j v ≤ k ^ j
  | 0, v => by simpa [wB] using hB v
  | j + 1, v => by
    rw [wB, Nat.pow_succ, Nat.mul_comm (k ^ j)]
    refine sumN_le k (fun s _ => ?_)
    split
    · exact wB_le hB j _
    · exact Nat.zero_le _
theorem baT_le (l v : Nat) : baT l v ≤ 1 := by unfold baT; split <;> omega
theorem baA_le (v : Nat) : baA v ≤ 1 := Nat.le_refl _
def selS (f : Nat → Nat) (x : Nat) : Nat → Nat
  | 0 => 0
  | b + 1 => if sumN f (b + 1) ≤ x then b + 1 else selS f x b
theorem sel_eq {f : Nat → Nat} {x s : Nat} (h1 : sumN f s ≤ x) (h2 : x < sumN f (s + 1)) : ∀ b, s ≤ b → selS f x b = s
  | 0, h => by simp [selS]; omega
  | b + 1, h => by
    rw [selS]
    by_cases e : s = b + 1
    · subst e; rw [if_pos h1]
    · have := sumN_mono f (a := s + 1) (b := b + 1) (by omega)
      rw [if_neg (by omega)]
      exact sel_eq h1 h2 b (by omega)
/-- the ways by the states of the node v, j + 1 steps before the end -/
def wf1 (k n : Nat) (T lb : Nat → Nat) (len : Nat) (B : Nat → Nat) (j v : Nat) : Nat → Nat := fun s => if T (v * k + s) = lb (len - 1 - j) then wB k n T lb len B j ((v * k + s) % n) else 0
def wkW (k n : Nat) (T lb : Nat → Nat) (len : Nat) (B : Nat → Nat) : Nat → Nat → Nat → Nat → Nat
  | 0, _, word, _ => word
  | j + 1, v, word, x => wkW k n T lb len B j ((v * k + selS (wf1 k n T lb len B j v) x (k - 1)) % n) (word * k + selS (wf1 k n T lb len B j v) x (k - 1)) (x - sumN (wf1 k n T lb len B j v) (selS (wf1 k n T lb len B j v) x (k - 1)))
theorem selS_le (f : Nat → Nat) (x : Nat) : ∀ b, selS f x b ≤ b
  | 0 => Nat.le_refl _
  | b + 1 => by
    rw [selS]; split
    · exact Nat.le_refl _
    · exact Nat.le_trans (selS_le f x b) (by omega)
theorem wkW_lt {k n : Nat} {T lb : Nat → Nat} {len : Nat} {B : Nat → Nat} (hk : 0 < k) : ∀ (j v word x M : Nat), word < M → wkW k n T lb len B j v word x < M * k ^ j
  | 0, v, word, x, M, h => by simpa [wkW] using h
  | j + 1, v, word, x, M, h => by
    have hs := selS_le (wf1 k n T lb len B j v) x (k - 1)
    have h3 : (word + 1) * k ≤ M * k := Nat.mul_le_mul_right k h
    rw [Nat.add_mul, Nat.one_mul] at h3
    have := wkW_lt (n := n) (T := T) (lb := lb) (len := len) (B := B) hk j ((v * k + selS (wf1 k n T lb len B j v) x (k - 1)) % n) (word * k + selS (wf1 k n T lb len B j v) x (k - 1)) (x - sumN (wf1 k n T lb len B j v) (selS (wf1 k n T lb len B j v) x (k - 1))) (M * k) (by omega)
    rw [wkW, Nat.pow_succ, Nat.mul_comm (k ^ j), ← Nat.mul_assoc]
    exact this
theorem k_walk {w : Wt} {h : Hp} {p r k wd len v0 x : Nat} {a b : Int32} {T lb B : Nat → Nat} {lf : Nat → Int32} {Wf : Nat → Nat → Int32} (hR : RuleOK h r k wd T) (hs : SZ k wd) (hP : PaOK h p a b len lf Wf) (hlen : len ≤ 14) (hlb : ∀ i, i < len → lf i = nI (lb i) ∧ lb i < 3) (hB : ∀ v, B v ≤ 1) (hw1 : ∀ i v, i ≤ len → v < k ^ (wd - 1) → Wf i v = nI (wB k (k ^ (wd - 1)) T lb len B (len - i) v)) (hv0 : v0 < k ^ (wd - 1)) (hx : x < wB k (k ^ (wd - 1)) T lb len B len v0) : ConN mX4_walk 1 (0, 0) w [.ref p, .ref r, .int (nI v0), .int (nI x)] h (.inl (some (.int (nI (wkW k (k ^ (wd - 1)) T lb len B len v0 v0 x))))) (fun h' => h' = h) := by
  have hn9 := hs.n
  have hk := hs.k
  have hnk := hs.nk
  have hm := hs.m
  obtain ⟨f, g, e, v, t, hr, ht, hT, hg, hG, -⟩ := id hR
  have hbd : ∀ j v, j ≤ 14 → wB k (k ^ (wd - 1)) T lb len B j v ≤ 4782969 := fun j v hj => Nat.le_trans (wB_le hB j v) (pw_le hk (b := 14) hj)
  generalize hnn : k ^ (wd - 1) = n at *
  refine conI (by decide +kernel) ⟨fun _ => rfl, rfl, by simp⟩ (fun X C => ?_)
  change V X (0, 0) w h 0 [some (.ref p), some (.ref r), some (.int (nI v0)), some (.int (nI x)), none, none, none, none, none, none] []
  refine v_iload_n C (oX4_walk.at 0 rfl) rfl ?_
  refine v_istore C (oX4_walk.at 1 rfl) rfl ?_
  refine v_iload_n C (oX4_walk.at 2 rfl) rfl ?_
  refine v_istore C (oX4_walk.at 3 rfl) rfl ?_
  refine v_iload_n C (oX4_walk.at 4 rfl) rfl ?_
  refine v_istore C (oX4_walk.at 5 rfl) rfl ?_
  refine v_iconst C (oX4_walk.at 6 rfl) (v := nI 0) rfl ?_
  refine v_istore C (oX4_walk.at 7 rfl) rfl ?_
  dsimp only [sto1, sto2, killL]
  suffices H : ∀ j i v word x' l8 l9, i + j = len → v < n → x' < wB k n T lb len B j v → wkW k n T lb len B j v word x' = wkW k n T lb len B len v0 v0 x → V X (0, 0) w h 12 [some (.ref p), some (.ref r), some (.int (nI v0)), some (.int (nI x)), some (.int (nI word)), some (.int (nI v)), some (.int (nI x')), some (.int (nI i)), l8, l9] [] from H len 0 v0 v0 x none none (by omega) hv0 hx rfl
  intro j
  induction j with
  | zero =>
    intro i v word x' l8 l9 hi hv hx' he
    refine v_iload C (oX4_walk.at 8 rfl) rfl ?_
    refine v_aload_n C (oX4_walk.at 9 rfl) rfl ?_
    refine v_getf C (oX4_walk.at 10 rfl) fX4_22 hP.1 rfl ?_
    refine v_icmp_geN C (oX4_walk.at 11 rfl) (tgt := 125) (by decide) (by omega) (by omega) (fun hc => ?_) (fun hc => ?_)
    · rw [← he, wkW] at C
      refine v_iload C (oX4_walk.at 68 rfl) rfl ?_
      exact v_iret C (oX4_walk.at 69 rfl) rfl rfl ⟨Nat.le_refl _, Nat.le_refl _⟩ ⟨rfl, rfl⟩
    · exact absurd hc (by omega)
  | succ j ih =>
    intro i v word x' l8 l9 hi hv hx' he
    rw [wB] at hx'
    have hvk : (v + 1) * k ≤ n * k := Nat.mul_le_mul_right k (by omega)
    rw [Nat.add_mul, Nat.one_mul] at hvk
    have hx' : x' < sumN (wf1 k n T lb len B j v) k := hx'
    have hfb : ∀ s, wf1 k n T lb len B j v s ≤ 4782969 := fun s => by
      unfold wf1; split
      · exact hbd j _ (by omega)
      · exact Nat.zero_le _
    have hsb := sumN_le (f := wf1 k n T lb len B j v) k (fun s _ => hfb s)
    have hsb2 : k * 4782969 ≤ 3 * 4782969 := Nat.mul_le_mul_right _ (by omega)
    have kw : ∀ s, s < k → ConN mX4_waysBy 0 (0, 0) w [.ref p, .ref r, .int (nI (v * k + s)), .int (nI i)] h (.inl (some (.int (nI (wf1 k n T lb len B j v s))))) (fun h' => h' = h) := fun s hsk => by
      have hmod : (v * k + s) % n < n := Nat.mod_lt _ (by omega)
      have := k_waysBy (w := w) (lv := lb i) (x := wB k n T lb len B j ((v * k + s) % n)) (pl := i) (nb := v * k + s) hR hs hP (by omega) (by omega) (hlb i (by omega)).1 (hlb i (by omega)).2 (by rw [hnn, hw1 (i + 1) _ (by omega) hmod, show len - (i + 1) = j by omega])
      unfold wf1
      rw [show len - 1 - j = i by omega]
      exact this
    refine v_iload C (oX4_walk.at 8 rfl) rfl ?_
    refine v_aload_n C (oX4_walk.at 9 rfl) rfl ?_
    refine v_getf C (oX4_walk.at 10 rfl) fX4_22 hP.1 rfl ?_
    refine v_icmp_geN C (oX4_walk.at 11 rfl) (tgt := 125) (by decide) (by omega) (by omega) (fun hc => ?_) (fun hc => ?_)
    · exact absurd hc (by omega)
    · have kw0 := kw 0 (by omega)
      rw [Nat.add_zero] at kw0
      refine v_iconst C (oX4_walk.at 12 rfl) (v := nI 0) rfl ?_
      refine v_istore C (oX4_walk.at 13 rfl) rfl ?_
      refine v_aload_n C (oX4_walk.at 14 rfl) rfl ?_
      refine v_aload_n C (oX4_walk.at 15 rfl) rfl ?_
      refine v_iload C (oX4_walk.at 16 rfl) rfl ?_
      refine v_aload_n C (oX4_walk.at 17 rfl) rfl ?_
      refine v_getf C (oX4_walk.at 18 rfl) fX4_63 hr rfl ?_
      refine v_imulN C (oX4_walk.at 19 rfl) ?_
      refine v_iload C (oX4_walk.at 20 rfl) rfl ?_
      dsimp only [sto1, sto2, killL]
      refine v_callV C (oX4_walk.at 21 rfl) cX4_66 hP.1 (kw0) rfl rfl rfl ⟨rfl, rfl⟩ rfl rfl (fun _ => rfl) (fun h' hp => ?_)
      rw [show h' = _ from hp]
      dsimp only [Option.toList, List.cons_append, List.nil_append]
      refine v_istore C (oX4_walk.at 22 rfl) rfl ?_
      dsimp only [sto1, sto2, killL]
      suffices H : ∀ d s, s + d = k → 0 < d → sumN (wf1 k n T lb len B j v) s ≤ x' → V X (0, 0) w h 40 [some (.ref p), some (.ref r), some (.int (nI v0)), some (.int (nI x)), some (.int (nI word)), some (.int (nI v)), some (.int (nI (x' - sumN (wf1 k n T lb len B j v) s))), some (.int (nI i)), some (.int (nI s)), some (.int (nI (wf1 k n T lb len B j v s)))] [] from H k 0 (by omega) (by omega) (Nat.zero_le _)
      intro d
      induction d with
      | zero => intro s _ h0; exact absurd h0 (by omega)
      | succ d ihd =>
        intro s hsd _ hle
        have hfs := hfb s
        refine v_iload C (oX4_walk.at 23 rfl) rfl ?_
        refine v_iload C (oX4_walk.at 24 rfl) rfl ?_
        refine v_icmp_ltN C (oX4_walk.at 25 rfl) (tgt := 90) (by decide) (by omega) (by omega) (fun hc => ?_) (fun hc => ?_)
        · have hlt : x' < sumN (wf1 k n T lb len B j v) (s + 1) := by rw [sumN]; omega
          have hsel := sel_eq hle hlt (k - 1) (by omega)
          have hmod : (v * k + s) % n < n := Nat.mod_lt _ (by omega)
          refine v_iload C (oX4_walk.at 49 rfl) rfl ?_
          refine v_aload_n C (oX4_walk.at 50 rfl) rfl ?_
          refine v_getf C (oX4_walk.at 51 rfl) fX4_63 hr rfl ?_
          refine v_imulN C (oX4_walk.at 52 rfl) ?_
          refine v_iload C (oX4_walk.at 53 rfl) rfl ?_
          refine v_iaddN C (oX4_walk.at 54 rfl) ?_
          refine v_istore C (oX4_walk.at 55 rfl) rfl ?_
          refine v_aload_n C (oX4_walk.at 56 rfl) rfl ?_
          refine v_getf C (oX4_walk.at 57 rfl) fX4_69 hr rfl ?_
          refine v_iload C (oX4_walk.at 58 rfl) rfl ?_
          refine v_aload_n C (oX4_walk.at 59 rfl) rfl ?_
          refine v_getf C (oX4_walk.at 60 rfl) fX4_63 hr rfl ?_
          refine v_imulN C (oX4_walk.at 61 rfl) ?_
          refine v_iload C (oX4_walk.at 62 rfl) rfl ?_
          refine v_iaddN C (oX4_walk.at 63 rfl) ?_
          refine v_iald C (oX4_walk.at 64 rfl) hg (by decide) rfl (by omega) (hG _ (by omega)) ?_
          refine v_istore C (oX4_walk.at 65 rfl) rfl ?_
          refine v_iincN C (oX4_walk.at 66 rfl) rfl ?_
          refine v_goto C (oX4_walk.at 67 rfl) (tgt := 12) (by decide) ?_
          dsimp only [sto1, sto2, killL]
          refine ih (i + 1) _ _ _ _ _ (by omega) hmod ?_ ?_
          · have : wf1 k n T lb len B j v s = wB k n T lb len B j ((v * k + s) % n) := by
              have h0 : x' - sumN (wf1 k n T lb len B j v) s < wf1 k n T lb len B j v s := hc
              unfold wf1 at h0 ⊢
              split
              · rfl
              · rename_i hne
                simp only [hne, if_false] at h0
                omega
            rw [← this]; exact hc
          · rw [← he, wkW, hsel]
        · refine v_iload C (oX4_walk.at 26 rfl) rfl ?_
          refine v_aload_n C (oX4_walk.at 27 rfl) rfl ?_
          refine v_getf C (oX4_walk.at 28 rfl) fX4_63 hr rfl ?_
          refine v_iconst C (oX4_walk.at 29 rfl) (v := nI 1) rfl ?_
          refine v_isubN C (oX4_walk.at 30 rfl) (by omega) ?_
          refine v_icmp_geN C (oX4_walk.at 31 rfl) (tgt := 90) (by decide) (by omega) (by omega) (fun hc => ?_) (fun hc => ?_)
          · exfalso
            have e : s + 1 = k := by omega
            have h10 := congrArg (sumN (wf1 k n T lb len B j v)) e
            rw [sumN] at h10
            omega
          · refine v_iload C (oX4_walk.at 32 rfl) rfl ?_
            refine v_iload C (oX4_walk.at 33 rfl) rfl ?_
            refine v_isubN C (oX4_walk.at 34 rfl) (by omega) ?_
            refine v_istore C (oX4_walk.at 35 rfl) rfl ?_
            refine v_iincN C (oX4_walk.at 36 rfl) rfl ?_
            refine v_aload_n C (oX4_walk.at 37 rfl) rfl ?_
            refine v_aload_n C (oX4_walk.at 38 rfl) rfl ?_
            refine v_iload C (oX4_walk.at 39 rfl) rfl ?_
            refine v_aload_n C (oX4_walk.at 40 rfl) rfl ?_
            refine v_getf C (oX4_walk.at 41 rfl) fX4_63 hr rfl ?_
            refine v_imulN C (oX4_walk.at 42 rfl) ?_
            refine v_iload C (oX4_walk.at 43 rfl) rfl ?_
            refine v_iaddN C (oX4_walk.at 44 rfl) ?_
            refine v_iload C (oX4_walk.at 45 rfl) rfl ?_
            dsimp only [sto1, sto2, killL]
            refine v_callV C (oX4_walk.at 46 rfl) cX4_66 hP.1 (kw (s + 1) (by omega)) rfl rfl rfl ⟨rfl, rfl⟩ rfl rfl (fun _ => rfl) (fun h' hp => ?_)
            rw [show h' = _ from hp]
            dsimp only [Option.toList, List.cons_append, List.nil_append]
            refine v_istore C (oX4_walk.at 47 rfl) rfl ?_
            refine v_goto C (oX4_walk.at 48 rfl) (tgt := 40) (by decide) ?_
            dsimp only [sto1, sto2, killL]
            have := ihd (s + 1) (by omega) (by omega) (by rw [sumN]; omega)
            rw [sumN, ← Nat.sub_sub] at this
            exact this
/-- which node the word with the number x begins with -/
def opN (k n : Nat) (T lb : Nat → Nat) (len x : Nat) : Nat := wkW k n T lb len baA len (selS (wB k n T lb len baA len) x (n - 1)) (selS (wB k n T lb len baA len) x (n - 1)) (x - sumN (wB k n T lb len baA len) (selS (wB k n T lb len baA len) x (n - 1)))
def clW (k n : Nat) (T lb : Nat → Nat) (len v : Nat) : Nat := wB k n T lb len (baT v) len v
def clN (k n : Nat) (T lb : Nat → Nat) (len x : Nat) : Nat := wkW k n T lb len (baT (selS (clW k n T lb len) x (n - 1))) len (selS (clW k n T lb len) x (n - 1)) (selS (clW k n T lb len) x (n - 1)) (x - sumN (clW k n T lb len) (selS (clW k n T lb len) x (n - 1))) / n
theorem k_openWord {w : Wt} {h : Hp} {p r k wd len x : Nat} {a b : Int32} {T lb : Nat → Nat} {lf : Nat → Int32} {Wf : Nat → Nat → Int32} (hR : RuleOK h r k wd T) (hs : SZ k wd) (hP : PaOK h p a b len lf Wf) (hsep : r + 5 < p) (hlen : len ≤ 14) (hlb : ∀ i, i < len → lf i = nI (lb i) ∧ lb i < 3) (hx : x < 2 ^ 31) : ConN mX4_openWord 3 (0, 0) w [.ref p, .ref r, .int (nI x)] h (.inl (some (.int (if x < sumN (wB k (k ^ (wd - 1)) T lb len baA len) (k ^ (wd - 1)) then nI (opN k (k ^ (wd - 1)) T lb len x) else -1)))) (PaCh h p a b len lf) := by
  have hn9 := hs.n
  have hk := hs.k
  have hbd : ∀ v, wB k (k ^ (wd - 1)) T lb len baA len v ≤ 4782969 := fun v => Nat.le_trans (wB_le baA_le len v) (pw_le hk (b := 14) hlen)
  refine conI (by decide +kernel) ⟨fun _ => rfl, rfl, by simp⟩ (fun X C => ?_)
  change V X (0, 0) w h 0 [some (.ref p), some (.ref r), some (.int (nI x)), none, none] []
  refine v_iload_n C (oX4_openWord.at 0 rfl) rfl ?_
  refine v_if_geN C (oX4_openWord.at 1 rfl) (tgt := 6) (by decide) (by omega) ?_
  refine v_aload_n C (oX4_openWord.at 4 rfl) rfl ?_
  refine v_aload_n C (oX4_openWord.at 5 rfl) rfl ?_
  refine v_callV C (oX4_openWord.at 6 rfl) cX4_30 hP.1 (k_countToAnywhere hR hs hP hsep hlen hlb) rfl rfl rfl ⟨rfl, rfl⟩ rfl rfl (fun _ => rfl) (fun h' hp => ?_)
  dsimp only [Option.toList, List.cons_append, List.nil_append]
  obtain ⟨⟨Wf', hP1, hw1⟩, hfr⟩ := hp
  have hR1 : RuleOK h' r k wd T := hR.eq (fun j e1 e2 => hfr j (by omega))
  have hr1 := hR1.ro
  generalize hnn : k ^ (wd - 1) = n at *
  have hw0 : ∀ v, v < n → Wf' 0 v = nI (wB k n T lb len baA len v) := fun v hv => hw1 0 v (Nat.zero_le _) hv
  refine v_iload_n C (oX4_openWord.at 7 rfl) rfl ?_
  refine v_istore_n C (oX4_openWord.at 8 rfl) rfl ?_
  refine v_iconst C (oX4_openWord.at 9 rfl) (v := nI 0) rfl ?_
  refine v_istore C (oX4_openWord.at 10 rfl) rfl ?_
  dsimp only [sto1, sto2, killL]
  suffices H : ∀ d v, v + d = n → sumN (wB k n T lb len baA len) v ≤ x → V X (0, 0) w h' 16 [some (.ref p), some (.ref r), some (.int (nI x)), some (.int (nI (x - sumN (wB k n T lb len baA len) v))), some (.int (nI v))] [] from H n 0 (by omega) (Nat.zero_le _)
  intro d
  induction d with
  | zero =>
    intro v hv hle
    refine v_iload C (oX4_openWord.at 11 rfl) rfl ?_
    refine v_aload_n C (oX4_openWord.at 12 rfl) rfl ?_
    refine v_getf C (oX4_openWord.at 13 rfl) fX4_42 hr1 rfl ?_
    refine v_icmp_geN C (oX4_openWord.at 14 rfl) (tgt := 65) (by decide) (by omega) (by omega) (fun hc => ?_) (fun hc => ?_)
    · have e : v = n := by omega
      subst e
      rw [if_neg (by omega)] at C
      refine v_iconst C (oX4_openWord.at 40 rfl) (v := -1) rfl ?_
      exact v_iret C (oX4_openWord.at 41 rfl) rfl rfl ⟨Nat.le_refl _, Nat.le_refl _⟩ ⟨rfl, ⟨Wf', hP1⟩, hfr⟩
    · exact absurd hc (by omega)
  | succ d ih =>
    intro v hv hle
    have hbv := hbd v
    refine v_iload C (oX4_openWord.at 11 rfl) rfl ?_
    refine v_aload_n C (oX4_openWord.at 12 rfl) rfl ?_
    refine v_getf C (oX4_openWord.at 13 rfl) fX4_42 hr1 rfl ?_
    refine v_icmp_geN C (oX4_openWord.at 14 rfl) (tgt := 65) (by decide) (by omega) (by omega) (fun hc => ?_) (fun hc => ?_)
    · exact absurd hc (by omega)
    · refine v_iload_n C (oX4_openWord.at 15 rfl) rfl ?_
      refine v_aload_n C (oX4_openWord.at 16 rfl) rfl ?_
      refine v_getf C (oX4_openWord.at 17 rfl) fX4_19 hP1.1 rfl ?_
      refine v_iconst C (oX4_openWord.at 18 rfl) (v := nI 0) rfl ?_
      refine v_aald C (oX4_openWord.at 19 rfl) hP1.2.2.1 (by decide) rfl (by omega) (rws_at (by omega)) ?_
      refine v_iload C (oX4_openWord.at 20 rfl) rfl ?_
      refine v_iald C (oX4_openWord.at 21 rfl) (hP1.2.2.2 0 (by omega)) (by decide) rfl (by omega) (hw0 _ (by omega)) ?_
      refine v_icmp_geN C (oX4_openWord.at 22 rfl) (tgt := 47) (by decide) (by omega) (by omega) (fun hc => ?_) (fun hc => ?_)
      · refine v_iload_n C (oX4_openWord.at 29 rfl) rfl ?_
        refine v_aload_n C (oX4_openWord.at 30 rfl) rfl ?_
        refine v_getf C (oX4_openWord.at 31 rfl) fX4_19 hP1.1 rfl ?_
        refine v_iconst C (oX4_openWord.at 32 rfl) (v := nI 0) rfl ?_
        refine v_aald C (oX4_openWord.at 33 rfl) hP1.2.2.1 (by decide) rfl (by omega) (rws_at (by omega)) ?_
        refine v_iload C (oX4_openWord.at 34 rfl) rfl ?_
        refine v_iald C (oX4_openWord.at 35 rfl) (hP1.2.2.2 0 (by omega)) (by decide) rfl (by omega) (hw0 _ (by omega)) ?_
        refine v_isubN C (oX4_openWord.at 36 rfl) (by omega) ?_
        refine v_istore_n C (oX4_openWord.at 37 rfl) rfl ?_
        refine v_iincN C (oX4_openWord.at 38 rfl) rfl ?_
        refine v_goto C (oX4_openWord.at 39 rfl) (tgt := 16) (by decide) ?_
        dsimp only [sto1, sto2, killL]
        have := ih (v + 1) (by omega) (by rw [sumN]; omega)
        rw [sumN, ← Nat.sub_sub] at this
        exact this
      · have hlt : x < sumN (wB k n T lb len baA len) (v + 1) := by rw [sumN]; omega
        have hsel := sel_eq hle hlt (n - 1) (by omega)
        have hmono := sumN_mono (wB k n T lb len baA len) (a := v + 1) (b := n) (by omega)
        rw [if_pos (by omega), opN, hsel] at C
        subst hnn
        refine v_aload_n C (oX4_openWord.at 23 rfl) rfl ?_
        refine v_aload_n C (oX4_openWord.at 24 rfl) rfl ?_
        refine v_iload C (oX4_openWord.at 25 rfl) rfl ?_
        refine v_iload_n C (oX4_openWord.at 26 rfl) rfl ?_
        refine v_callV C (oX4_openWord.at 27 rfl) cX4_49 hP1.1 (k_walk hR1 hs hP1 hlen hlb baA_le hw1 (by omega) hc) rfl rfl rfl ⟨rfl, rfl⟩ rfl rfl (fun _ => rfl) (fun h' hp => ?_)
        rw [show h' = _ from hp]
        dsimp only [Option.toList, List.cons_append, List.nil_append]
        exact v_iret C (oX4_openWord.at 28 rfl) rfl rfl ⟨Nat.le_refl _, Nat.le_refl _⟩ ⟨rfl, ⟨Wf', hP1⟩, hfr⟩
theorem k_openWordNeg {w : Wt} {h : Hp} {p r : Nat} {x : Int32} (hx : x < 0) : ConN mX4_openWord 3 (0, 0) w [.ref p, .ref r, .int x] h (.inl (some (.int (-1)))) (fun h' => h' = h) := by
  refine conI (by decide +kernel) ⟨fun _ => rfl, rfl, by simp⟩ (fun X C => ?_)
  change V X (0, 0) w h 0 [some (.ref p), some (.ref r), some (.int x), none, none] []
  refine v_iload_n C (oX4_openWord.at 0 rfl) rfl ?_
  refine v_if_ge C (oX4_openWord.at 1 rfl) (tgt := 6) (by decide) (fun hc => ?_) (fun hc => ?_)
  · exact absurd hx (Int32.not_lt.mpr hc)
  · refine v_iconst C (oX4_openWord.at 2 rfl) (v := -1) rfl ?_
    exact v_iret C (oX4_openWord.at 3 rfl) rfl rfl ⟨Nat.le_refl _, Nat.le_refl _⟩ ⟨rfl, rfl⟩
theorem k_closedWordNo {w : Wt} {h : Hp} {p r len : Nat} {a b : Int32} {lf : Nat → Int32} {Wf : Nat → Nat → Int32} {x : Int32} (hP : PaOK h p a b len lf Wf) (hlen : len ≤ 14) (hx : x < 0 ∨ len = 0) : ConN mX4_closedWord 4 (0, 0) w [.ref p, .ref r, .int x] h (.inl (some (.int (-1)))) (fun h' => h' = h) := by
  refine conI (by decide +kernel) ⟨fun _ => rfl, rfl, by simp⟩ (fun X C => ?_)
  change V X (0, 0) w h 0 [some (.ref p), some (.ref r), some (.int x), none, none, none] []
  refine v_iload_n C (oX4_closedWord.at 0 rfl) rfl ?_
  refine v_if_lt C (oX4_closedWord.at 1 rfl) (tgt := 11) (by decide) (fun hc => ?_) (fun hc => ?_)
  · refine v_iconst C (oX4_closedWord.at 5 rfl) (v := -1) rfl ?_
    exact v_iret C (oX4_closedWord.at 6 rfl) rfl rfl ⟨Nat.le_refl _, Nat.le_refl _⟩ ⟨rfl, rfl⟩
  · refine v_aload_n C (oX4_closedWord.at 2 rfl) rfl ?_
    refine v_getf C (oX4_closedWord.at 3 rfl) fX4_22 hP.1 rfl ?_
    refine v_if_neN C (oX4_closedWord.at 4 rfl) (tgt := 13) (by decide) (by omega) (fun hc => ?_) (fun hc => ?_)
    · rcases hx with hx | hx
      · exact absurd hx (by assumption)
      · exact absurd hx hc
    · refine v_iconst C (oX4_closedWord.at 5 rfl) (v := -1) rfl ?_
      exact v_iret C (oX4_closedWord.at 6 rfl) rfl rfl ⟨Nat.le_refl _, Nat.le_refl _⟩ ⟨rfl, rfl⟩
theorem k_closedWord {w : Wt} {h : Hp} {p r k wd len x : Nat} {a b : Int32} {T lb : Nat → Nat} {lf : Nat → Int32} {Wf : Nat → Nat → Int32} (hR : RuleOK h r k wd T) (hs : SZ k wd) (hP : PaOK h p a b len lf Wf) (hsep : r + 5 < p) (hlen : len ≤ 14) (hl0 : 0 < len) (hlb : ∀ i, i < len → lf i = nI (lb i) ∧ lb i < 3) (hx : x < 2 ^ 31) : ConN mX4_closedWord 4 (0, 0) w [.ref p, .ref r, .int (nI x)] h (.inl (some (.int (if x < sumN (clW k (k ^ (wd - 1)) T lb len) (k ^ (wd - 1)) then nI (clN k (k ^ (wd - 1)) T lb len x) else -1)))) (PaCh h p a b len lf) := by
  have hn9 := hs.n
  have hk := hs.k
  have hw2 := hs.w
  have hbd : ∀ v, clW k (k ^ (wd - 1)) T lb len v ≤ 4782969 := fun v => Nat.le_trans (wB_le (baT_le v) len v) (pw_le hk (b := 14) hlen)
  refine conI (by decide +kernel) ⟨fun _ => rfl, rfl, by simp⟩ (fun X C => ?_)
  change V X (0, 0) w h 0 [some (.ref p), some (.ref r), some (.int (nI x)), none, none, none] []
  refine v_iload_n C (oX4_closedWord.at 0 rfl) rfl ?_
  refine v_if_ltN C (oX4_closedWord.at 1 rfl) (tgt := 11) (by decide) (by omega) ?_
  refine v_aload_n C (oX4_closedWord.at 2 rfl) rfl ?_
  refine v_getf C (oX4_closedWord.at 3 rfl) fX4_22 hP.1 rfl ?_
  refine v_if_neN C (oX4_closedWord.at 4 rfl) (tgt := 13) (by decide) (by omega) (fun hc => ?_) (fun hc => ?_)
  · refine v_iload_n C (oX4_closedWord.at 7 rfl) rfl ?_
    refine v_istore_n C (oX4_closedWord.at 8 rfl) rfl ?_
    refine v_iconst C (oX4_closedWord.at 9 rfl) (v := nI 0) rfl ?_
    refine v_istore C (oX4_closedWord.at 10 rfl) rfl ?_
    dsimp only [sto1, sto2, killL]
    suffices H : ∀ d v h1 Wf1 l5, v + d = k ^ (wd - 1) → PaOK h1 p a b len lf Wf1 → (∀ j, (j < p ∨ p + 17 < j) → h1 j = h j) → sumN (clW k (k ^ (wd - 1)) T lb len) v ≤ x → V X (0, 0) w h1 18 [some (.ref p), some (.ref r), some (.int (nI x)), some (.int (nI (x - sumN (clW k (k ^ (wd - 1)) T lb len) v))), some (.int (nI v)), l5] [] from H (k ^ (wd - 1)) 0 h Wf none (by omega) hP (fun _ _ => rfl) (Nat.zero_le _)
    intro d
    induction d with
    | zero =>
      intro v h1 Wf1 l5 hv hP1 hfr hle
      have hr1 : h1 r = RO r k wd (k ^ (wd - 1)) (k ^ wd) := (hfr r (by omega)).trans hR.ro
      refine v_iload C (oX4_closedWord.at 11 rfl) rfl ?_
      refine v_aload_n C (oX4_closedWord.at 12 rfl) rfl ?_
      refine v_getf C (oX4_closedWord.at 13 rfl) fX4_42 hr1 rfl ?_
      refine v_icmp_geN C (oX4_closedWord.at 14 rfl) (tgt := 68) (by decide) (by omega) (by omega) (fun hc => ?_) (fun hc => ?_)
      · have e : v = k ^ (wd - 1) := by omega
        subst e
        rw [if_neg (by omega)] at C
        refine v_iconst C (oX4_closedWord.at 38 rfl) (v := -1) rfl ?_
        exact v_iret C (oX4_closedWord.at 39 rfl) rfl rfl ⟨Nat.le_refl _, Nat.le_refl _⟩ ⟨rfl, ⟨Wf1, hP1⟩, hfr⟩
      · exact absurd hc (by omega)
    | succ d ih =>
      intro v h1 Wf1 l5 hv hP1 hfr hle
      have hr1 : h1 r = RO r k wd (k ^ (wd - 1)) (k ^ wd) := (hfr r (by omega)).trans hR.ro
      have hR1 : RuleOK h1 r k wd T := hR.eq (fun j e1 e2 => hfr j (by omega))
      have hbv := hbd v
      refine v_iload C (oX4_closedWord.at 11 rfl) rfl ?_
      refine v_aload_n C (oX4_closedWord.at 12 rfl) rfl ?_
      refine v_getf C (oX4_closedWord.at 13 rfl) fX4_42 hr1 rfl ?_
      refine v_icmp_geN C (oX4_closedWord.at 14 rfl) (tgt := 68) (by decide) (by omega) (by omega) (fun hc => ?_) (fun hc => ?_)
      · exact absurd hc (by omega)
      · refine v_aload_n C (oX4_closedWord.at 15 rfl) rfl ?_
        refine v_aload_n C (oX4_closedWord.at 16 rfl) rfl ?_
        refine v_iload C (oX4_closedWord.at 17 rfl) rfl ?_
        refine v_iload C (oX4_closedWord.at 18 rfl) rfl ?_
        refine v_callV C (oX4_closedWord.at 19 rfl) cX4_45 hP1.1 (k_countBetween hR1 hs hP1 hsep hlen hlb (first := v) (last := v) (by omega) (by omega)) rfl rfl rfl ⟨rfl, rfl⟩ rfl rfl (fun _ => rfl) (fun h' hp => ?_)
        dsimp only [Option.toList, List.cons_append, List.nil_append]
        obtain ⟨⟨Wf', hP2, hw2'⟩, hfr2⟩ := hp
        have hR2 : RuleOK h' r k wd T := hR1.eq (fun j e1 e2 => hfr2 j (by omega))
        change V X (0, 0) w h' _ _ [.int (nI (clW k (k ^ (wd - 1)) T lb len v))]
        refine v_istore C (oX4_closedWord.at 20 rfl) rfl ?_
        refine v_iload_n C (oX4_closedWord.at 21 rfl) rfl ?_
        refine v_iload C (oX4_closedWord.at 22 rfl) rfl ?_
        dsimp only [sto1, sto2, killL]
        refine v_icmp_geN C (oX4_closedWord.at 23 rfl) (tgt := 57) (by decide) (by omega) (by omega) (fun hc => ?_) (fun hc => ?_)
        · refine v_iload_n C (oX4_closedWord.at 32 rfl) rfl ?_
          refine v_iload C (oX4_closedWord.at 33 rfl) rfl ?_
          refine v_isubN C (oX4_closedWord.at 34 rfl) (by omega) ?_
          refine v_istore_n C (oX4_closedWord.at 35 rfl) rfl ?_
          refine v_iincN C (oX4_closedWord.at 36 rfl) rfl ?_
          refine v_goto C (oX4_closedWord.at 37 rfl) (tgt := 18) (by decide) ?_
          dsimp only [sto1, sto2, killL]
          have := ih (v + 1) h' Wf' (some (.int (nI (clW k (k ^ (wd - 1)) T lb len v)))) (by omega) hP2 (fun j hj => (hfr2 j hj).trans (hfr j hj)) (by rw [sumN]; omega)
          rw [sumN, ← Nat.sub_sub] at this
          exact this
        · have hlt : x < sumN (clW k (k ^ (wd - 1)) T lb len) (v + 1) := by rw [sumN]; omega
          have hsel := sel_eq hle hlt (k ^ (wd - 1) - 1) (by omega)
          have hmono := sumN_mono (clW k (k ^ (wd - 1)) T lb len) (a := v + 1) (b := k ^ (wd - 1)) (by omega)
          rw [if_pos (by omega), clN, hsel] at C
          have hwl : wkW k (k ^ (wd - 1)) T lb len (baT v) len v v (x - sumN (clW k (k ^ (wd - 1)) T lb len) v) < 2 ^ 31 := by
            have h1 := wkW_lt (n := k ^ (wd - 1)) (T := T) (lb := lb) (len := len) (B := baT v) (by omega : 0 < k) len v v (x - sumN (clW k (k ^ (wd - 1)) T lb len) v) (k ^ (wd - 1)) (by omega)
            rw [← Nat.pow_add] at h1
            have h2 := pw14 hk (n := wd - 1 + len) (by omega)
            omega
          refine v_aload_n C (oX4_closedWord.at 24 rfl) rfl ?_
          refine v_aload_n C (oX4_closedWord.at 25 rfl) rfl ?_
          refine v_aload_n C (oX4_closedWord.at 26 rfl) rfl ?_
          refine v_iload C (oX4_closedWord.at 27 rfl) rfl ?_
          refine v_iload_n C (oX4_closedWord.at 28 rfl) rfl ?_
          refine v_callV C (oX4_closedWord.at 29 rfl) cX4_49 hP2.1 (k_walk hR2 hs hP2 hlen hlb (baT_le v) hw2' (by omega) hc) rfl rfl rfl ⟨rfl, rfl⟩ rfl rfl (fun _ => rfl) (fun h' hp => ?_)
          rw [show h' = _ from hp]
          dsimp only [Option.toList, List.cons_append, List.nil_append]
          refine v_callS C (oX4_closedWord.at 30 rfl) cX4_52 (k_withoutEnd hR2.ro hs hwl) rfl rfl rfl ⟨rfl, rfl⟩ rfl rfl (fun _ => rfl) (fun h' hp => ?_)
          rw [show h' = _ from hp]
          dsimp only [Option.toList, List.cons_append, List.nil_append]
          exact v_iret C (oX4_closedWord.at 31 rfl) rfl rfl ⟨Nat.le_refl _, Nat.le_refl _⟩ ⟨rfl, ⟨Wf', hP2⟩, fun j hj => (hfr2 j hj).trans (hfr j hj)⟩
  · exact absurd hc (by omega)
end
section
/-! ===== Paths: forwards ===== -/
/-- what has come to u over the first t edges of those that p lets through -/
def ac (n k : Nat) (p : Nat → Bool) (F : Nat → Nat) : Nat → Nat → Nat
  | 0, _ => 0
  | t + 1, u => ac n k p F t u + (if p t && decide (t % n = u) then F (t / k) else 0)
theorem ac_skip {n k : Nat} {p : Nat → Bool} {F : Nat → Nat} {v u : Nat} (hF : F v = 0) : ∀ s, s ≤ k → ac n k p F (v * k + s) u = ac n k p F (v * k) u
  | 0, _ => rfl
  | s + 1, h => by
    have hk : 0 < k := by omega
    have e : (v * k + s) / k = v := by rw [Nat.mul_comm, Nat.mul_add_div hk, Nat.div_eq_of_lt (by omega), Nat.add_zero]
    rw [← Nat.add_assoc, ac, ac_skip hF s (by omega), e, hF]
    simp
theorem ac_le {n k : Nat} {p : Nat → Bool} {F : Nat → Nat} {M u : Nat} (hn : 0 < n) (hu : u < n) (hF : ∀ v, v < n → F v ≤ M) : ∀ t, t ≤ n * k → ac n k p F t u ≤ (t / n + (if u < t % n then 1 else 0)) * M
  | 0, _ => by simp [ac]
  | t + 1, h => by
    have ih := ac_le (p := p) (k := k) hn hu hF t (by omega)
    have hv : F (t / k) ≤ M := hF _ (by
      rcases Nat.eq_zero_or_pos k with e | e
      · subst e; omega
      · exact (Nat.div_lt_iff_lt_mul e).mpr (by omega))
    have hmod := Nat.mod_lt t hn
    have key : (t + 1) / n + (if u < (t + 1) % n then 1 else 0) = t / n + (if u < t % n then 1 else 0) + (if t % n = u then 1 else 0) := by
      have hdm := Nat.div_add_mod t n
      by_cases e : t % n + 1 = n
      · have e0 : t + 1 = n * (t / n + 1) := by rw [Nat.mul_add]; omega
        have e1 : (t + 1) % n = 0 := by rw [e0]; exact Nat.mul_mod_right _ _
        have e2 : (t + 1) / n = t / n + 1 := by
          conv => lhs; rw [e0]
          exact Nat.mul_div_cancel_left _ hn
        rw [e1, e2]
        by_cases e3 : t % n = u
        · simp [e3]
        · have : u < t % n := by omega
          simp [e3, this]
      · have e1 : (t + 1) % n = t % n + 1 := by
          rw [Nat.add_mod, Nat.mod_eq_of_lt (a := 1) (by omega), Nat.mod_eq_of_lt (by omega)]
        have e2 : (t + 1) / n = t / n := by
          have := Nat.div_add_mod (t + 1) n
          rw [e1] at this
          exact Nat.eq_of_mul_eq_mul_left hn (by omega)
        rw [e1, e2]
        by_cases e3 : t % n = u
        · simp [e3]
        · by_cases e4 : u < t % n
          · simp [e3, e4, Nat.lt_succ_of_lt e4]
          · have : ¬ u < t % n + 1 := by omega
            simp [e3, e4, this]
    rw [ac, key, Nat.add_mul]
    refine Nat.add_le_add ih ?_
    by_cases e3 : t % n = u
    · simp only [e3, decide_true, Bool.and_true, if_true, Nat.one_mul]
      split
      · exact hv
      · exact Nat.zero_le _
    · simp [e3]
theorem ac_full {n k : Nat} {p : Nat → Bool} {F : Nat → Nat} {M u : Nat} (hn : 0 < n) (hu : u < n) (hF : ∀ v, v < n → F v ≤ M) : ac n k p F (n * k) u ≤ k * M := by
  have := ac_le (p := p) (k := k) hn hu hF (n * k) (Nat.le_refl _)
  rw [Nat.mul_div_cancel_left _ hn, Nat.mul_mod_right] at this
  simpa using this
theorem k_stepForward {w : Wt} {h : Hp} {p r k wd len pl lv : Nat} {a b : Int32} {T F : Nat → Nat} {lf : Nat → Int32} {Wf : Nat → Nat → Int32} (hR : RuleOK h r k wd T) (hs : SZ k wd) (hP : PaOK h p a b len lf Wf) (hsep : r + 5 < p) (hpl : pl < 14) (hlv : lf pl = nI lv) (hlv2 : lv < 3) (hF : ∀ v, v < k ^ (wd - 1) → Wf pl v = nI (F v) ∧ F v < 2 ^ 31) : ConN mX4_stepForward 1 (0, 0) w [.ref p, .ref r, .int (nI pl)] h (.inl none) (fun h' => (∃ g, PaOK h' p a b len lf (upW Wf (pl + 1) g) ∧ ∀ u, u < k ^ (wd - 1) → g u = nI (ac (k ^ (wd - 1)) k (fun t => decide (T t = lv)) F (k ^ wd) u)) ∧ ∀ j, (j < p ∨ p + 17 < j) → h' j = h j) := by
  have hn9 := hs.n
  have hn0 := hs.n0
  have hk := hs.k
  have hnk := hs.nk
  have hm := hs.m
  obtain ⟨f, gg, e, v, t, hr, ht, hT, hg, hG, -⟩ := id hR
  generalize hnn : k ^ (wd - 1) = n at *
  refine conI (by decide +kernel) ⟨fun _ => rfl, rfl, by simp⟩ (fun X C => ?_)
  change V X (0, 0) w h 0 [some (.ref p), some (.ref r), some (.int (nI pl)), none, none, none, none, none] []
  refine v_aload_n C (oX4_stepForward.at 0 rfl) rfl ?_
  refine v_getf C (oX4_stepForward.at 1 rfl) fX4_19 hP.1 rfl ?_
  refine v_iload_n C (oX4_stepForward.at 2 rfl) rfl ?_
  refine v_aald C (oX4_stepForward.at 3 rfl) hP.2.2.1 (by decide) rfl (by omega) (rws_at (by omega)) ?_
  refine v_astore_n C (oX4_stepForward.at 4 rfl) rfl ?_
  refine v_aload_n C (oX4_stepForward.at 5 rfl) rfl ?_
  refine v_getf C (oX4_stepForward.at 6 rfl) fX4_19 hP.1 rfl ?_
  refine v_iload_n C (oX4_stepForward.at 7 rfl) rfl ?_
  refine v_iconst C (oX4_stepForward.at 8 rfl) (v := nI 1) rfl ?_
  refine v_iaddN C (oX4_stepForward.at 9 rfl) ?_
  refine v_aald C (oX4_stepForward.at 10 rfl) hP.2.2.1 (by decide) rfl (by omega) (rws_at (by omega)) ?_
  refine v_astore C (oX4_stepForward.at 11 rfl) rfl ?_
  refine v_aload C (oX4_stepForward.at 12 rfl) rfl ?_
  refine v_iconst C (oX4_stepForward.at 13 rfl) (v := nI 0) rfl ?_
  dsimp only [sto1, sto2, killL]
  refine v_callS C (oX4_stepForward.at 14 rfl) cX4_72 (k_fill (hP.2.2.2 (pl + 1) (by omega)) (by decide)) rfl rfl rfl ⟨rfl, rfl⟩ rfl rfl (fun _ => rfl) (fun h' hp => ?_)
  rw [show h' = _ from hp]
  dsimp only [Option.toList, List.cons_append, List.nil_append]
  refine v_iconst C (oX4_stepForward.at 15 rfl) (v := nI 0) rfl ?_
  refine v_istore C (oX4_stepForward.at 16 rfl) rfl ?_
  dsimp only [sto1, sto2, killL]
  suffices H : ∀ d v g l6 l7, v + d = n → (∀ u, u < n → g u = nI (ac n k (fun t => decide (T t = lv)) F (v * k) u)) → V X (0, 0) w (hu h (p + 3 + (pl + 1)) (io 9 g)) 26 [some (.ref p), some (.ref r), some (.int (nI pl)), some (.ref (p + 3 + pl)), some (.ref (p + 3 + (pl + 1))), some (.int (nI v)), l6, l7] [] by
    refine H n 0 _ none none (by omega) (fun u hu => ?_)
    rw [Nat.zero_mul, ac, mix_lt (by omega)]
  intro d
  induction d with
  | zero =>
    intro v g l6 l7 hv hgu
    have hP1 := hP.row (i := pl + 1) g
    refine v_iload C (oX4_stepForward.at 17 rfl) rfl ?_
    refine v_aload_n C (oX4_stepForward.at 18 rfl) rfl ?_
    refine v_getf C (oX4_stepForward.at 19 rfl) fX4_42 ((hu_n _ _ (by omega)).trans hr) rfl ?_
    refine v_icmp_geN C (oX4_stepForward.at 20 rfl) (tgt := 111) (by decide) (by omega) (by omega) (fun hc => ?_) (fun hc => ?_)
    · have e1 : v = n := by omega
      subst e1
      rw [hnk] at hgu
      exact v_vret C (oX4_stepForward.at 63 rfl) rfl rfl ⟨Nat.le_refl _, Nat.le_refl _⟩ ⟨rfl, ⟨g, hP1, hgu⟩, fun j hj => hu_n _ _ (by omega)⟩
    · exact absurd hc (by omega)
  | succ d ih =>
    intro v g l6 l7 hv hgu
    have hvk : (v + 1) * k ≤ n * k := Nat.mul_le_mul_right k (by omega)
    rw [Nat.add_mul, Nat.one_mul] at hvk
    have hFv := hF v (by omega)
    refine v_iload C (oX4_stepForward.at 17 rfl) rfl ?_
    refine v_aload_n C (oX4_stepForward.at 18 rfl) rfl ?_
    refine v_getf C (oX4_stepForward.at 19 rfl) fX4_42 ((hu_n _ _ (by omega)).trans hr) rfl ?_
    refine v_icmp_geN C (oX4_stepForward.at 20 rfl) (tgt := 111) (by decide) (by omega) (by omega) (fun hc => ?_) (fun hc => ?_)
    · exact absurd hc (by omega)
    · refine v_aload_n C (oX4_stepForward.at 21 rfl) rfl ?_
      refine v_iload C (oX4_stepForward.at 22 rfl) rfl ?_
      refine v_iald C (oX4_stepForward.at 23 rfl) ((hu_n _ _ (by omega)).trans (hP.2.2.2 pl (by omega))) (by decide) rfl (by omega) hFv.1 ?_
      refine v_if_eqN C (oX4_stepForward.at 24 rfl) (tgt := 105) (by decide) hFv.2 (fun hc => ?_) (fun hc => ?_)
      · refine v_iincN C (oX4_stepForward.at 61 rfl) rfl ?_
        refine v_goto C (oX4_stepForward.at 62 rfl) (tgt := 26) (by decide) ?_
        dsimp only [sto1, sto2, killL]
        refine ih (v + 1) g l6 l7 (by omega) (fun u hu => ?_)
        rw [Nat.add_mul, Nat.one_mul, ac_skip hc k (Nat.le_refl _)]
        exact hgu u hu
      · refine v_iconst C (oX4_stepForward.at 25 rfl) (v := nI 0) rfl ?_
        refine v_istore C (oX4_stepForward.at 26 rfl) rfl ?_
        dsimp only [sto1, sto2, killL]
        suffices H : ∀ d s g l7, s + d = k → (∀ u, u < n → g u = nI (ac n k (fun t => decide (T t = lv)) F (v * k + s) u)) → V X (0, 0) w (hu h (p + 3 + (pl + 1)) (io 9 g)) 45 [some (.ref p), some (.ref r), some (.int (nI pl)), some (.ref (p + 3 + pl)), some (.ref (p + 3 + (pl + 1))), some (.int (nI v)), some (.int (nI s)), l7] [] from H k 0 g l7 (by omega) hgu
        intro d2
        induction d2 with
        | zero =>
          intro s g l7 hsd hgu
          refine v_iload C (oX4_stepForward.at 27 rfl) rfl ?_
          refine v_aload_n C (oX4_stepForward.at 28 rfl) rfl ?_
          refine v_getf C (oX4_stepForward.at 29 rfl) fX4_63 ((hu_n _ _ (by omega)).trans hr) rfl ?_
          refine v_icmp_geN C (oX4_stepForward.at 30 rfl) (tgt := 105) (by decide) (by omega) (by omega) (fun hc => ?_) (fun hc => ?_)
          · have e1 : s = k := by omega
            subst e1
            refine v_iincN C (oX4_stepForward.at 61 rfl) rfl ?_
            refine v_goto C (oX4_stepForward.at 62 rfl) (tgt := 26) (by decide) ?_
            dsimp only [sto1, sto2, killL]
            refine ih (v + 1) g _ _ (by omega) (fun u hu => ?_)
            rw [Nat.add_mul, Nat.one_mul]
            exact hgu u hu
          · exact absurd hc (by omega)
        | succ d2 ih2 =>
          intro s g l7 hsd hgu
          have hTt := hT (v * k + s) (by omega)
          have hmod : (v * k + s) % n < n := Nat.mod_lt _ hn0
          have hdiv : (v * k + s) / k = v := by rw [Nat.mul_comm, Nat.mul_add_div (by omega), Nat.div_eq_of_lt (by omega), Nat.add_zero]
          refine v_iload C (oX4_stepForward.at 27 rfl) rfl ?_
          refine v_aload_n C (oX4_stepForward.at 28 rfl) rfl ?_
          refine v_getf C (oX4_stepForward.at 29 rfl) fX4_63 ((hu_n _ _ (by omega)).trans hr) rfl ?_
          refine v_icmp_geN C (oX4_stepForward.at 30 rfl) (tgt := 105) (by decide) (by omega) (by omega) (fun hc => ?_) (fun hc => ?_)
          · exact absurd hc (by omega)
          · refine v_iload C (oX4_stepForward.at 31 rfl) rfl ?_
            refine v_aload_n C (oX4_stepForward.at 32 rfl) rfl ?_
            refine v_getf C (oX4_stepForward.at 33 rfl) fX4_63 ((hu_n _ _ (by omega)).trans hr) rfl ?_
            refine v_imulN C (oX4_stepForward.at 34 rfl) ?_
            refine v_iload C (oX4_stepForward.at 35 rfl) rfl ?_
            refine v_iaddN C (oX4_stepForward.at 36 rfl) ?_
            refine v_istore C (oX4_stepForward.at 37 rfl) rfl ?_
            refine v_aload_n C (oX4_stepForward.at 38 rfl) rfl ?_
            refine v_getf C (oX4_stepForward.at 39 rfl) fX4_81 ((hu_n _ _ (by omega)).trans hr) rfl ?_
            refine v_iload C (oX4_stepForward.at 40 rfl) rfl ?_
            refine v_iald C (oX4_stepForward.at 41 rfl) ((hu_n _ _ (by omega)).trans ht) (by decide) rfl (by omega) hTt.1 ?_
            refine v_aload_n C (oX4_stepForward.at 42 rfl) rfl ?_
            refine v_getf C (oX4_stepForward.at 43 rfl) fX4_9 ((hu_n _ _ (by omega)).trans hP.1) rfl ?_
            refine v_iload_n C (oX4_stepForward.at 44 rfl) rfl ?_
            refine v_iald C (oX4_stepForward.at 45 rfl) ((hu_n _ _ (by omega)).trans hP.2.1) (by decide) rfl (by omega) hlv ?_
            dsimp only [sto1, sto2, killL]
            refine v_icmp_neN C (oX4_stepForward.at 46 rfl) (tgt := 99) (by decide) (by omega) (by omega) (fun hc => ?_) (fun hc => ?_)
            · refine v_iincN C (oX4_stepForward.at 59 rfl) rfl ?_
              refine v_goto C (oX4_stepForward.at 60 rfl) (tgt := 45) (by decide) ?_
              dsimp only [sto1, sto2, killL]
              refine ih2 (s + 1) g _ (by omega) (fun u hu => ?_)
              rw [← Nat.add_assoc, ac]
              simp only [hc, decide_false, Bool.false_and, Bool.false_eq_true, if_false, Nat.add_zero]
              exact hgu u hu
            · refine v_aload C (oX4_stepForward.at 47 rfl) rfl ?_
              refine v_aload_n C (oX4_stepForward.at 48 rfl) rfl ?_
              refine v_getf C (oX4_stepForward.at 49 rfl) fX4_69 ((hu_n _ _ (by omega)).trans hr) rfl ?_
              refine v_iload C (oX4_stepForward.at 50 rfl) rfl ?_
              refine v_iald C (oX4_stepForward.at 51 rfl) ((hu_n _ _ (by omega)).trans hg) (by decide) rfl (by omega) (hG _ (by omega)) ?_
              refine v_dup2 C (oX4_stepForward.at 52 rfl) rfl rfl ?_
              refine v_iald C (oX4_stepForward.at 53 rfl) (hu_s _ _ _) (by decide) rfl (by omega) (hgu _ hmod) ?_
              refine v_aload_n C (oX4_stepForward.at 54 rfl) rfl ?_
              refine v_iload C (oX4_stepForward.at 55 rfl) rfl ?_
              refine v_iald C (oX4_stepForward.at 56 rfl) ((hu_n _ _ (by omega)).trans (hP.2.2.2 pl (by omega))) (by decide) rfl (by omega) hFv.1 ?_
              refine v_iaddN C (oX4_stepForward.at 57 rfl) ?_
              refine v_iast C (oX4_stepForward.at 58 rfl) (hu_s _ _ _) (by decide) rfl (by omega) ?_
              rw [hu_hu]
              refine v_iincN C (oX4_stepForward.at 59 rfl) rfl ?_
              refine v_goto C (oX4_stepForward.at 60 rfl) (tgt := 45) (by decide) ?_
              dsimp only [sto1, sto2, killL]
              refine ih2 (s + 1) _ _ (by omega) (fun u hu => ?_)
              rw [← Nat.add_assoc, ac, hdiv]
              by_cases e1 : u = (v * k + s) % n
              · subst e1
                rw [pk_us]
                simp [hc]
              · rw [pk_un e1, hgu u hu]
                simp [Ne.symm e1]
end
section
/-! ===== Paths: surveys ===== -/
theorem hw_app (k : Nat) (c : Nat → Nat) (i a : Nat) : ∀ b, hw k c i (a + b) = hw k c i a * k ^ b + hw k c (i + a) b
  | 0 => by simp [hw]
  | b + 1 => by
    rw [← Nat.add_assoc, hw, hw_app k c i a b, hw, Nat.pow_succ, Nat.add_mul, Nat.mul_assoc, Nat.add_assoc, Nat.add_assoc]
theorem cel_hw {k : Nat} {c : Nat → Nat} {L i : Nat} (hi : i < L) (hc : ∀ j, j < L → c j < k) : cel k L (hw k c 0 L) i = c i := by
  have h1 := hw_app k c 0 (i + 1) (L - 1 - i)
  rw [show i + 1 + (L - 1 - i) = L by omega] at h1
  have h2 := hw_lt (k := k) (c := c) (0 + (i + 1)) (L - 1 - i) (fun j hj => hc _ (by omega))
  have hk : 0 < k := Nat.lt_of_le_of_lt (Nat.zero_le _) (hc i hi)
  unfold cel
  rw [h1, Nat.mul_comm, Nat.mul_add_div (Nat.pow_pos hk), Nat.div_eq_of_lt h2, Nat.add_zero, hw, Nat.zero_add, Nat.mul_comm, Nat.mul_add_mod, Nat.mod_eq_of_lt (hc i hi)]
theorem hw_cel0 {k L x : Nat} (hx : x < k ^ L) : hw k (cel k L x) 0 L = x := by
  rw [hw_cel k L x 0 L (by omega), show L - L - 0 = 0 by omega, Nat.pow_zero, Nat.div_one, Nat.mod_eq_of_lt hx]
theorem hw_zero (k : Nat) (c : Nat → Nat) (i : Nat) : ∀ d, (∀ j, j < d → c (i + j) = 0) → hw k c i d = 0
  | 0, _ => rfl
  | d + 1, h => by rw [hw, hw_zero k c i d (fun j hj => h j (by omega)), h d (by omega)]; simp
theorem hw_nine {k : Nat} (hk : 0 < k) (c : Nat → Nat) (i : Nat) : ∀ d, (∀ j, j < d → c (i + j) = k - 1) → hw k c i d + 1 = k ^ d
  | 0, _ => by simp [hw]
  | d + 1, h => by
    have h1 := hw_nine hk c i d (fun j hj => h j (by omega))
    rw [hw, h d (by omega), Nat.pow_succ, ← h1, Nat.add_mul]
    omega
/-- the word behind x: the digits from i + 1 on are the last state's, that at i is not -/
theorem cel_next {k L x i : Nat} (hk : 0 < k) (hx : x < k ^ L) (hi : i < L) (h1 : cel k L x i + 1 < k) (h2 : ∀ j, i < j → j < L → cel k L x j = k - 1) : ∀ j, j < L → cel k L (x + 1) j = if j < i then cel k L x j else if j = i then cel k L x i + 1 else 0 := by
  let c' : Nat → Nat := fun j => if j < i then cel k L x j else if j = i then cel k L x i + 1 else 0
  have hc' : ∀ j, j < L → c' j < k := fun j _ => by
    show (if j < i then cel k L x j else if j = i then cel k L x i + 1 else 0) < k
    split
    · exact cel_lt hk
    · split <;> omega
  have e0 : hw k c' 0 L = x + 1 := by
    have a1 := hw_app k c' 0 (i + 1) (L - 1 - i)
    have a2 := hw_app k (cel k L x) 0 (i + 1) (L - 1 - i)
    rw [show i + 1 + (L - 1 - i) = L by omega] at a1 a2
    rw [hw_cel0 hx] at a2
    have a3 := hw_nine hk (cel k L x) (0 + (i + 1)) (L - 1 - i) (fun j hj => h2 _ (by omega) (by omega))
    have a4 := hw_zero k c' (0 + (i + 1)) (L - 1 - i) (fun j hj => by
      show (if 0 + (i + 1) + j < i then _ else if 0 + (i + 1) + j = i then _ else 0) = 0
      rw [if_neg (by omega), if_neg (by omega)])
    have a5 : hw k c' 0 i = hw k (cel k L x) 0 i := hw_congr i (fun j hj => by
      show (if 0 + j < i then _ else _) = _
      rw [if_pos (by omega)])
    have a6 : c' (0 + i) = cel k L x (0 + i) + 1 := by
      show (if 0 + i < i then _ else if 0 + i = i then _ else 0) = _
      rw [if_neg (by omega), if_pos (by omega), Nat.zero_add]
    have a7 : hw k c' 0 (i + 1) = hw k (cel k L x) 0 (i + 1) + 1 := by
      rw [hw, hw, a5, a6, Nat.add_assoc]
    rw [a1, a4, a7, Nat.add_zero, Nat.add_mul, Nat.one_mul]
    omega
  intro j hj
  have := cel_hw (k := k) (c := c') hj hc'
  rw [e0] at this
  exact this
theorem cel_last {k L x : Nat} (hk : 0 < k) (hx : x < k ^ L) (h2 : ∀ j, j < L → cel k L x j = k - 1) : x + 1 = k ^ L := by
  have := hw_nine hk (cel k L x) 0 L (fun j hj => h2 _ (by omega))
  rw [hw_cel0 hx] at this
  exact this
theorem k_moveToNextWord {w : Wt} {h : Hp} {p r k wd len L x : Nat} {a b : Int32} {T : Nat → Nat} {lf : Nat → Int32} {Wf : Nat → Nat → Int32} (hR : RuleOK h r k wd T) (hs : SZ k wd) (hP : PaOK h p a b len lf Wf) (hsep : r + 5 < p) (hL : L ≤ 14) (hx : x < k ^ L) (hlb : ∀ i, i < L → lf i = nI (cel k L x i)) (fc : Nat) (hfc : (x + 1 = k ^ L ∧ fc = 0) ∨ (x + 1 < k ^ L ∧ fc < L ∧ cel k L x fc + 1 < k ∧ ∀ j, fc < j → j < L → cel k L x j = k - 1)) : ConN mX4_moveToNextWord 0 (0, 0) w [.ref p, .ref r, .int (nI L)] h (.inl (some (.int (nI fc)))) (fun h' => (∃ lf', PaOK h' p a b len lf' Wf ∧ (x + 1 < k ^ L → ∀ i, i < L → lf' i = nI (cel k L (x + 1) i))) ∧ ∀ j, (j < p ∨ p + 17 < j) → h' j = h j) := by
  have hr := hR.ro
  have hk := hs.k
  have hcl : ∀ i, cel k L x i < k := fun i => cel_lt (by omega)
  refine conI (by decide +kernel) ⟨fun _ => rfl, rfl, by simp⟩ (fun X C => ?_)
  change V X (0, 0) w h 0 [some (.ref p), some (.ref r), some (.int (nI L)), none] []
  refine v_iload_n C (oX4_moveToNextWord.at 0 rfl) rfl ?_
  refine v_iconst C (oX4_moveToNextWord.at 1 rfl) (v := nI 1) rfl ?_
  refine v_isubP C (oX4_moveToNextWord.at 2 rfl) ?_
  refine v_istore_n C (oX4_moveToNextWord.at 3 rfl) rfl ?_
  dsimp only [sto1, sto2, killL]
  suffices H : ∀ ai h1 lf1, ai ≤ L → PaOK h1 p a b len lf1 Wf → (∀ j, (j < p ∨ p + 17 < j) → h1 j = h j) → (∀ j, j < ai → lf1 j = nI (cel k L x j)) → (∀ j, ai ≤ j → j < L → lf1 j = nI 0 ∧ cel k L x j = k - 1) → V X (0, 0) w h1 4 [some (.ref p), some (.ref r), some (.int (nI L)), some (.int (pI ai))] [] from H L h lf (Nat.le_refl _) hP (fun _ _ => rfl) hlb (fun j e1 e2 => absurd e1 (by omega))
  intro ai
  induction ai with
  | zero =>
    intro h1 lf1 hai hP1 hfr hla hlz
    have e1 : x + 1 = k ^ L := cel_last (by omega) hx (fun j hj => (hlz j (Nat.zero_le _) hj).2)
    have e2 : fc = 0 := by
      rcases hfc with ⟨_, h0⟩ | ⟨h0, _⟩
      · exact h0
      · omega
    subst e2
    refine v_iload_n C (oX4_moveToNextWord.at 4 rfl) rfl ?_
    refine v_if_ltP C (oX4_moveToNextWord.at 5 rfl) (tgt := 48) (by decide) (by omega) (fun hc => ?_) (fun b hc => ?_)
    · refine v_iconst C (oX4_moveToNextWord.at 32 rfl) (v := nI 0) rfl ?_
      exact v_iret C (oX4_moveToNextWord.at 33 rfl) rfl rfl ⟨Nat.le_refl _, Nat.le_refl _⟩ ⟨rfl, ⟨lf1, hP1, fun h0 => absurd h0 (by omega)⟩, hfr⟩
    · cases hc
  | succ ai ih =>
    intro h1 lf1 hai hP1 hfr hla hlz
    have hr1 : h1 r = RO r k wd (k ^ (wd - 1)) (k ^ wd) := (hfr r (by omega)).trans hr
    have hci := hcl ai
    refine v_iload_n C (oX4_moveToNextWord.at 4 rfl) rfl ?_
    refine v_if_ltP C (oX4_moveToNextWord.at 5 rfl) (tgt := 48) (by decide) (by omega) (fun hc => ?_) (fun b hc => ?_)
    · cases hc
    · cases hc
      rw [pI_succ]
      refine v_aload_n C (oX4_moveToNextWord.at 6 rfl) rfl ?_
      refine v_getf C (oX4_moveToNextWord.at 7 rfl) fX4_9 hP1.1 rfl ?_
      refine v_iload_n C (oX4_moveToNextWord.at 8 rfl) rfl ?_
      refine v_iald C (oX4_moveToNextWord.at 9 rfl) hP1.2.1 (by decide) rfl (by omega) (hla _ (by omega)) ?_
      refine v_aload_n C (oX4_moveToNextWord.at 10 rfl) rfl ?_
      refine v_getf C (oX4_moveToNextWord.at 11 rfl) fX4_63 hr1 rfl ?_
      refine v_iconst C (oX4_moveToNextWord.at 12 rfl) (v := nI 1) rfl ?_
      refine v_isubN C (oX4_moveToNextWord.at 13 rfl) (by omega) ?_
      refine v_icmp_geN C (oX4_moveToNextWord.at 14 rfl) (tgt := 35) (by decide) (by omega) (by omega) (fun hc => ?_) (fun hc => ?_)
      · refine v_aload_n C (oX4_moveToNextWord.at 25 rfl) rfl ?_
        refine v_getf C (oX4_moveToNextWord.at 26 rfl) fX4_9 hP1.1 rfl ?_
        refine v_iload_n C (oX4_moveToNextWord.at 27 rfl) rfl ?_
        refine v_iconst C (oX4_moveToNextWord.at 28 rfl) (v := nI 0) rfl ?_
        refine v_iast C (oX4_moveToNextWord.at 29 rfl) hP1.2.1 (by decide) rfl (by omega) ?_
        refine v_idecP C (oX4_moveToNextWord.at 30 rfl) rfl ?_
        refine v_goto C (oX4_moveToNextWord.at 31 rfl) (tgt := 4) (by decide) ?_
        dsimp only [sto1, sto2, killL]
        refine ih _ (upd lf1 ai (nI 0)) (by omega) ⟨(hu_n _ _ (by omega)).trans hP1.1, hu_s _ _ _, (hu_n _ _ (by omega)).trans hP1.2.2.1, fun i hi => (hu_n _ _ (by omega)).trans (hP1.2.2.2 i hi)⟩ (fun j hj => (hu_n _ _ (by omega)).trans (hfr j hj)) (fun j hj => ?_) (fun j e1 e2 => ?_)
        · rw [pk_un (by omega)]; exact hla j (by omega)
        · by_cases e3 : j = ai
          · subst e3; rw [pk_us]; exact ⟨rfl, by omega⟩
          · rw [pk_un e3]; exact hlz j (by omega) e2
      · have e0 : x + 1 < k ^ L ∧ fc = ai := by
          rcases hfc with ⟨e1, e2⟩ | ⟨e1, e2, e3, e4⟩
          · exfalso
            have : ∀ j, j < L → cel k L x j = k - 1 := fun j hj => by
              have a3 := hw_nine (k := k) (by omega) (fun _ => k - 1) 0 L (fun _ _ => rfl)
              have a4 : x = hw k (fun _ => k - 1) 0 L := by omega
              rw [a4]
              exact cel_hw (c := fun _ => k - 1) hj (fun _ _ => by omega)
            have := this ai (by omega)
            omega
          · refine ⟨e1, ?_⟩
            rcases Nat.lt_trichotomy fc ai with e5 | e5 | e5
            · have := e4 ai e5 (by omega)
              omega
            · exact e5
            · have := (hlz fc (by omega) e2).2
              omega
        obtain ⟨e1, e2⟩ := e0
        subst e2
        have hnx := cel_next (i := fc) (by omega) hx (by omega) (by omega) (fun j h1 h2 => (hlz j (by omega) h2).2)
        refine v_aload_n C (oX4_moveToNextWord.at 15 rfl) rfl ?_
        refine v_getf C (oX4_moveToNextWord.at 16 rfl) fX4_9 hP1.1 rfl ?_
        refine v_iload_n C (oX4_moveToNextWord.at 17 rfl) rfl ?_
        refine v_dup2 C (oX4_moveToNextWord.at 18 rfl) rfl rfl ?_
        refine v_iald C (oX4_moveToNextWord.at 19 rfl) hP1.2.1 (by decide) rfl (by omega) (hla _ (by omega)) ?_
        refine v_iconst C (oX4_moveToNextWord.at 20 rfl) (v := nI 1) rfl ?_
        refine v_iaddN C (oX4_moveToNextWord.at 21 rfl) ?_
        refine v_iast C (oX4_moveToNextWord.at 22 rfl) hP1.2.1 (by decide) rfl (by omega) ?_
        refine v_iload_n C (oX4_moveToNextWord.at 23 rfl) rfl ?_
        exact v_iret C (oX4_moveToNextWord.at 24 rfl) rfl rfl ⟨Nat.le_refl _, Nat.le_refl _⟩ ⟨rfl, ⟨upd lf1 fc (nI (cel k L x fc + 1)), ⟨(hu_n _ _ (by omega)).trans hP1.1, hu_s _ _ _, (hu_n _ _ (by omega)).trans hP1.2.2.1, fun i hi => (hu_n _ _ (by omega)).trans (hP1.2.2.2 i hi)⟩, fun _ i hi => by rw [hnx i hi]; by_cases e3 : i = fc; (subst e3; rw [pk_us, if_neg (by omega), if_pos rfl]); (rw [pk_un e3]; by_cases e4 : i < fc; (rw [if_pos e4]; exact hla i (by omega)); (rw [if_neg e4, if_neg e3]; exact (hlz i (by omega) hi).1))⟩, fun j hj => (hu_n _ _ (by omega)).trans (hfr j hj)⟩
/-- the rows forwards by the labels c -/
def fwR (n k : Nat) (T c : Nat → Nat) : Nat → Nat → Nat
  | 0, _ => 1
  | j + 1, u => ac n k (fun t => decide (T t = c j)) (fwR n k T c j) (n * k) u
theorem fwR_congr {n k : Nat} {T c c' : Nat → Nat} : ∀ j, (∀ i, i < j → c i = c' i) → fwR n k T c j = fwR n k T c' j
  | 0, _ => rfl
  | j + 1, h => by
    funext u
    rw [fwR, fwR, fwR_congr j (fun i hi => h i (by omega)), h j (by omega)]
theorem fwR_le {n k : Nat} (hn : 0 < n) {T c : Nat → Nat} : ∀ j v, v < n → fwR n k T c j v ≤ k ^ j
  | 0, v, _ => by simp [fwR]
  | j + 1, v, h => by
    rw [fwR, Nat.pow_succ, Nat.mul_comm (k ^ j)]
    exact ac_full hn h (fun u hu => fwR_le hn j u hu)
def pcN (n k : Nat) (T : Nat → Nat) (L x : Nat) : Nat := sumN (fwR n k T (cel k L x) L) n
def maxN (f : Nat → Nat) : Nat → Nat
  | 0 => 0
  | n + 1 => max (maxN f n) (f n)
theorem k_surveyWords {w : Wt} {h : Hp} {p r k wd len L : Nat} {a b wt : Int32} {T : Nat → Nat} {lf : Nat → Int32} {Wf : Nat → Nat → Int32} (hR : RuleOK h r k wd T) (hs : SZ k wd) (hP : PaOK h p a b len lf Wf) (hsep : r + 5 < p) (hL : L ≤ 7) : ConN mX4_surveyWords 2 (0, 0) w [.ref p, .ref r, .int (nI L), .int wt] h (.inl none) (fun h' => (∃ lf' Wf', PaOK h' p (nI (cnt (fun x => decide (nI (pcN (k ^ (wd - 1)) k T L x) = wt)) (k ^ L))) (nI (maxN (pcN (k ^ (wd - 1)) k T L) (k ^ L))) len lf' Wf') ∧ ∀ j, (j < p ∨ p + 17 < j) → h' j = h j) := by
  have hr := hR.ro
  have hk := hs.k
  have hn9 := hs.n
  have hn0 := hs.n0
  have hnk := hs.nk
  have hkL : k ^ L ≤ 2187 := pw_le hk (b := 7) hL
  have hfb : ∀ c j v, j ≤ 7 → v < k ^ (wd - 1) → fwR (k ^ (wd - 1)) k T c j v ≤ 2187 := fun c j v hj hv => Nat.le_trans (fwR_le hn0 j v hv) (pw_le hk (b := 7) hj)
  have hpb : ∀ x, pcN (k ^ (wd - 1)) k T L x ≤ 9 * 2187 := fun x => Nat.le_trans (sumN_le _ (fun i hi => hfb _ L i hL hi)) (Nat.mul_le_mul_right _ hn9)
  have hmb : ∀ q, maxN (pcN (k ^ (wd - 1)) k T L) q ≤ 9 * 2187 := fun q => by
    induction q with
    | zero => exact Nat.zero_le _
    | succ q ih => rw [maxN]; exact Nat.max_le.mpr ⟨ih, hpb q⟩
  generalize hnn : k ^ (wd - 1) = n at *
  refine conI (by decide +kernel) ⟨fun _ => rfl, rfl, by simp⟩ (fun X C => ?_)
  change V X (0, 0) w h 0 [some (.ref p), some (.ref r), some (.int (nI L)), some (.int wt), none, none, none, none] []
  refine v_aload_n C (oX4_surveyWords.at 0 rfl) rfl ?_
  refine v_iconst C (oX4_surveyWords.at 1 rfl) (v := nI 0) rfl ?_
  refine v_putI C (oX4_surveyWords.at 2 rfl) fX4_84 p4_0 hP.1 rfl ?_
  refine v_aload_n C (oX4_surveyWords.at 3 rfl) rfl ?_
  refine v_iconst C (oX4_surveyWords.at 4 rfl) (v := nI 0) rfl ?_
  refine v_putI C (oX4_surveyWords.at 5 rfl) fX4_87 p4_1 (hu_s _ _ _) rfl ?_
  simp only [hu_hu, List.set]
  have hP1 : PaOK (hu h p (PO p (nI 0) (nI 0) len)) p (nI 0) (nI 0) len lf Wf := ⟨hu_s _ _ _, (hu_n _ _ (by omega)).trans hP.2.1, (hu_n _ _ (by omega)).trans hP.2.2.1, fun i hi => (hu_n _ _ (by omega)).trans (hP.2.2.2 i hi)⟩
  have hf1 : ∀ j, (j < p ∨ p + 17 < j) → (hu h p (PO p (nI 0) (nI 0) len)) j = h j := fun j hj => hu_n _ _ (by omega)
  generalize hu h p (PO p (nI 0) (nI 0) len) = h1 at *
  refine v_aload_n C (oX4_surveyWords.at 6 rfl) rfl ?_
  refine v_getf C (oX4_surveyWords.at 7 rfl) fX4_9 hP1.1 rfl ?_
  refine v_iconst C (oX4_surveyWords.at 8 rfl) (v := nI 0) rfl ?_
  refine v_callS C (oX4_surveyWords.at 9 rfl) cX4_72 (k_fill hP1.2.1 (by decide)) rfl rfl rfl ⟨rfl, rfl⟩ rfl rfl (fun _ => rfl) (fun h' hp => ?_)
  rw [show h' = _ from hp]
  dsimp only [Option.toList, List.cons_append, List.nil_append]
  have hP2 : PaOK (hu h1 (p + 1) (io 14 (mix lf (fun _ => nI 0) 14))) p (nI 0) (nI 0) len (mix lf (fun _ => nI 0) 14) Wf := ⟨(hu_n _ _ (by omega)).trans hP1.1, hu_s _ _ _, (hu_n _ _ (by omega)).trans hP1.2.2.1, fun i hi => (hu_n _ _ (by omega)).trans (hP1.2.2.2 i hi)⟩
  have hf2 : ∀ j, (j < p ∨ p + 17 < j) → (hu h1 (p + 1) (io 14 (mix lf (fun _ => nI 0) 14))) j = h j := fun j hj => (hu_n _ _ (by omega)).trans (hf1 j hj)
  generalize hu h1 (p + 1) (io 14 (mix lf (fun _ => nI 0) 14)) = h2 at *
  refine v_aload_n C (oX4_surveyWords.at 10 rfl) rfl ?_
  refine v_getf C (oX4_surveyWords.at 11 rfl) fX4_19 hP2.1 rfl ?_
  refine v_iconst C (oX4_surveyWords.at 12 rfl) (v := nI 0) rfl ?_
  refine v_aald C (oX4_surveyWords.at 13 rfl) hP2.2.2.1 (by decide) rfl (by omega) (rws_at (by omega)) ?_
  refine v_iconst C (oX4_surveyWords.at 14 rfl) (v := nI 1) rfl ?_
  refine v_callS C (oX4_surveyWords.at 15 rfl) cX4_72 (k_fill (hP2.2.2.2 0 (by omega)) (by decide)) rfl rfl rfl ⟨rfl, rfl⟩ rfl rfl (fun _ => rfl) (fun h' hp => ?_)
  rw [show h' = _ from hp]
  dsimp only [Option.toList, List.cons_append, List.nil_append]
  have hP3 := hP2.row (i := 0) (mix (Wf 0) (fun _ => nI 1) 9)
  have hf3 : ∀ j, (j < p ∨ p + 17 < j) → (hu h2 (p + 3 + 0) (io 9 (mix (Wf 0) (fun _ => nI 1) 9))) j = h j := fun j hj => (hu_n _ _ (by omega)).trans (hf2 j hj)
  have hr3 : (hu h2 (p + 3 + 0) (io 9 (mix (Wf 0) (fun _ => nI 1) 9))) r = RO r k wd n (k ^ wd) := (hf3 r (by omega)).trans hr
  have hz3 : ∀ v, v < n → upW Wf 0 (mix (Wf 0) (fun _ => nI 1) 9) 0 v = nI 1 := fun v hv => by
    unfold upW; rw [if_pos rfl, mix_lt (by omega)]
  generalize hu h2 (p + 3 + 0) (io 9 (mix (Wf 0) (fun _ => nI 1) 9)) = h3 at *
  generalize upW Wf 0 (mix (Wf 0) (fun _ => nI 1) 9) = Wf3 at *
  refine v_aload_n C (oX4_surveyWords.at 16 rfl) rfl ?_
  refine v_iload_n C (oX4_surveyWords.at 17 rfl) rfl ?_
  refine v_callV C (oX4_surveyWords.at 18 rfl) cX4_90 hr3 (k_countOfWords hr3 (by omega)) rfl rfl rfl ⟨rfl, rfl⟩ rfl rfl (fun _ => rfl) (fun h' hp => ?_)
  rw [show h' = _ from hp]
  dsimp only [Option.toList, List.cons_append, List.nil_append]
  refine v_istore C (oX4_surveyWords.at 19 rfl) rfl ?_
  refine v_iconst C (oX4_surveyWords.at 20 rfl) (v := nI 0) rfl ?_
  refine v_istore C (oX4_surveyWords.at 21 rfl) rfl ?_
  refine v_iconst C (oX4_surveyWords.at 22 rfl) (v := nI 0) rfl ?_
  refine v_istore C (oX4_surveyWords.at 23 rfl) rfl ?_
  dsimp only [sto1, sto2, killL]
  suffices H : ∀ d x h1 lf1 Wf1 fc l7, x + d = k ^ L → fc ≤ L → PaOK h1 p (nI (cnt (fun x => decide (nI (pcN n k T L x) = wt)) x)) (nI (maxN (pcN n k T L) x)) len lf1 Wf1 → (∀ j, (j < p ∨ p + 17 < j) → h1 j = h j) → (x < k ^ L → ∀ i, i < L → lf1 i = nI (cel k L x i)) → (x < k ^ L → ∀ j v, j ≤ fc → v < n → Wf1 j v = nI (fwR n k T (cel k L x) j v)) → V X (0, 0) w h1 41 [some (.ref p), some (.ref r), some (.int (nI L)), some (.int wt), some (.int (nI (k ^ L))), some (.int (nI fc)), some (.int (nI x)), l7] [] by
    refine H (k ^ L) 0 h3 (mix lf (fun _ => nI 0) 14) Wf3 0 none (by omega) (Nat.zero_le _) hP3 hf3 (fun _ i hi => ?_) (fun _ j v hj hv => ?_)
    · rw [mix_lt (by omega)]; unfold cel; simp
    · have e : j = 0 := by omega
      subst e
      exact hz3 v hv
  intro d
  induction d with
  | zero =>
    intro x h1 lf1 Wf1 fc l7 hx hfc hP1 hfr hla hro
    refine v_iload C (oX4_surveyWords.at 24 rfl) rfl ?_
    refine v_iload C (oX4_surveyWords.at 25 rfl) rfl ?_
    refine v_icmp_geN C (oX4_surveyWords.at 26 rfl) (tgt := 130) (by decide) (by omega) (by omega) (fun hc => ?_) (fun hc => ?_)
    · have e : x = k ^ L := by omega
      subst e
      exact v_vret C (oX4_surveyWords.at 69 rfl) rfl rfl ⟨Nat.le_refl _, Nat.le_refl _⟩ ⟨rfl, ⟨lf1, Wf1, hP1⟩, hfr⟩
    · exact absurd hc (by omega)
  | succ d ih =>
    intro x h1 lf1 Wf1 fc l7 hx hfc hP1 hfr hla hro
    have hxl : x < k ^ L := by omega
    replace hla := hla hxl
    replace hro := hro hxl
    refine v_iload C (oX4_surveyWords.at 24 rfl) rfl ?_
    refine v_iload C (oX4_surveyWords.at 25 rfl) rfl ?_
    refine v_icmp_geN C (oX4_surveyWords.at 26 rfl) (tgt := 130) (by decide) (by omega) (by omega) (fun hc => ?_) (fun hc => ?_)
    · exact absurd hc (by omega)
    · refine v_iload C (oX4_surveyWords.at 27 rfl) rfl ?_
      refine v_istore C (oX4_surveyWords.at 28 rfl) rfl ?_
      dsimp only [sto1, sto2, killL]
      suffices H : ∀ d j h1 Wf1, j + d = L → PaOK h1 p (nI (cnt (fun x => decide (nI (pcN n k T L x) = wt)) x)) (nI (maxN (pcN n k T L) x)) len lf1 Wf1 → (∀ j, (j < p ∨ p + 17 < j) → h1 j = h j) → (∀ i v, i ≤ j → v < n → Wf1 i v = nI (fwR n k T (cel k L x) i v)) → V X (0, 0) w h1 52 [some (.ref p), some (.ref r), some (.int (nI L)), some (.int wt), some (.int (nI (k ^ L))), some (.int (nI fc)), some (.int (nI x)), some (.int (nI j))] [] from H (L - fc) fc h1 Wf1 (by omega) hP1 hfr hro
      clear hro hfr hP1 Wf1 h1
      intro d2
      induction d2 with
      | succ d2 ih2 =>
        intro j h1 Wf1 hj hP1 hfr hro
        have hR1 : RuleOK h1 r k wd T := hR.eq (fun q e1 e2 => hfr q (by omega))
        refine v_iload C (oX4_surveyWords.at 29 rfl) rfl ?_
        refine v_iload_n C (oX4_surveyWords.at 30 rfl) rfl ?_
        refine v_icmp_geN C (oX4_surveyWords.at 31 rfl) (tgt := 71) (by decide) (by omega) (by omega) (fun hc => ?_) (fun hc => ?_)
        · exact absurd hc (by omega)
        · have hcl : cel k L x j < k := cel_lt (by omega)
          refine v_aload_n C (oX4_surveyWords.at 32 rfl) rfl ?_
          refine v_aload_n C (oX4_surveyWords.at 33 rfl) rfl ?_
          refine v_iload C (oX4_surveyWords.at 34 rfl) rfl ?_
          refine v_callV C (oX4_surveyWords.at 35 rfl) cX4_93 hP1.1 (k_stepForward (lv := cel k L x j) (F := fwR n k T (cel k L x) j) hR1 hs hP1 hsep (by omega) (hla j (by omega)) (by omega) (fun v hv => ⟨hro j v (Nat.le_refl _) (by omega), by have := hfb (cel k L x) j v (by omega) (by omega); omega⟩)) rfl rfl rfl ⟨rfl, rfl⟩ rfl rfl (fun _ => rfl) (fun h' hp => ?_)
          dsimp only [Option.toList, List.cons_append, List.nil_append]
          obtain ⟨⟨g, hP4, hg⟩, hf4⟩ := hp
          refine v_iincN C (oX4_surveyWords.at 36 rfl) rfl ?_
          refine v_goto C (oX4_surveyWords.at 37 rfl) (tgt := 52) (by decide) ?_
          dsimp only [sto1, sto2, killL]
          refine ih2 (j + 1) h' _ (by omega) hP4 (fun q hq => (hf4 q hq).trans (hfr q hq)) (fun i v hi hv => ?_)
          unfold upW
          by_cases e : i = j + 1
          · subst e
            rw [if_pos rfl, hg v (by omega), fwR, hnn, hnk]
          · rw [if_neg e]
            exact hro i v (by omega) hv
      | zero =>
        intro j h1 Wf1 hj hP1 hfr hro
        have hR1 : RuleOK h1 r k wd T := hR.eq (fun q e1 e2 => hfr q (by omega))
        have hr1 := hR1.ro
        rw [hnn] at hr1
        have e : j = L := by omega
        subst e
        refine v_iload C (oX4_surveyWords.at 29 rfl) rfl ?_
        refine v_iload_n C (oX4_surveyWords.at 30 rfl) rfl ?_
        refine v_icmp_geN C (oX4_surveyWords.at 31 rfl) (tgt := 71) (by decide) (by omega) (by omega) (fun hc => ?_) (fun hc => ?_)
        · have hpx := hpb x
          have hmx := hmb x
          have key : ∀ y : Nat, nI y = nI (if decide (nI (pcN n k T j x) = wt) then 1 else 0) → V X (0, 0) w h1 99 [some (.ref p), some (.ref r), some (.int (nI j)), some (.int wt), some (.int (nI (k ^ j))), some (.int (nI fc)), some (.int (nI x)), some (.int (nI (pcN n k T j x)))] [.int (nI y), .int (nI (cnt (fun x => decide (nI (pcN n k T j x) = wt)) x)), .ref p] := by
            intro y hy
            rw [hy]
            refine v_iaddN C (oX4_surveyWords.at 54 rfl) ?_
            refine v_putI C (oX4_surveyWords.at 55 rfl) fX4_84 p4_0 hP1.1 rfl ?_
            simp only [List.set]
            refine v_aload_n C (oX4_surveyWords.at 56 rfl) rfl ?_
            refine v_aload_n C (oX4_surveyWords.at 57 rfl) rfl ?_
            refine v_getf C (oX4_surveyWords.at 58 rfl) fX4_87 (hu_s _ _ _) rfl ?_
            refine v_iload C (oX4_surveyWords.at 59 rfl) rfl ?_
            refine v_callS C (oX4_surveyWords.at 60 rfl) cX4_96 (k_max (by omega) (by omega)) rfl rfl rfl ⟨rfl, rfl⟩ rfl rfl (fun _ => rfl) (fun h' hp => ?_)
            rw [show h' = _ from hp]
            dsimp only [Option.toList, List.cons_append, List.nil_append]
            refine v_putI C (oX4_surveyWords.at 61 rfl) fX4_87 p4_1 (hu_s _ _ _) rfl ?_
            simp only [hu_hu, List.set]
            have hP5 : PaOK (hu h1 p (PO p (nI (cnt (fun x => decide (nI (pcN n k T j x) = wt)) (x + 1))) (nI (maxN (pcN n k T j) (x + 1))) len)) p (nI (cnt (fun x => decide (nI (pcN n k T j x) = wt)) (x + 1))) (nI (maxN (pcN n k T j) (x + 1))) len lf1 Wf1 := ⟨hu_s _ _ _, (hu_n _ _ (by omega)).trans hP1.2.1, (hu_n _ _ (by omega)).trans hP1.2.2.1, fun i hi => (hu_n _ _ (by omega)).trans (hP1.2.2.2 i hi)⟩
            have hf5 : ∀ q, (q < p ∨ p + 17 < q) → (hu h1 p (PO p (nI (cnt (fun x => decide (nI (pcN n k T j x) = wt)) (x + 1))) (nI (maxN (pcN n k T j) (x + 1))) len)) q = h q := fun q hq => (hu_n _ _ (by omega)).trans (hfr q hq)
            change V X (0, 0) w (hu h1 p (PO p (nI (cnt (fun x => decide (nI (pcN n k T j x) = wt)) (x + 1))) (nI (maxN (pcN n k T j) (x + 1))) len)) _ _ _
            generalize hu h1 p (PO p (nI (cnt (fun x => decide (nI (pcN n k T j x) = wt)) (x + 1))) (nI (maxN (pcN n k T j) (x + 1))) len) = h5 at *
            have hR5 : RuleOK h5 r k wd T := hR.eq (fun q e1 e2 => hf5 q (by omega))
            have hfx : ∃ fc' : Nat, (x + 1 = k ^ j ∧ fc' = 0) ∨ (x + 1 < k ^ j ∧ fc' < j ∧ cel k j x fc' + 1 < k ∧ ∀ i, fc' < i → i < j → cel k j x i = k - 1) := by
              by_cases e9 : x + 1 = k ^ j
              · exact ⟨0, Or.inl ⟨e9, rfl⟩⟩
              · have hex : ∃ q, q < j ∧ cel k j x (j - 1 - q) ≠ k - 1 := by
                  apply Classical.byContradiction
                  intro hn
                  refine e9 (cel_last (by omega) hxl (fun i hi => ?_))
                  apply Classical.byContradiction
                  intro h9
                  exact hn ⟨j - 1 - i, by omega, by rw [show j - 1 - (j - 1 - i) = i by omega]; exact h9⟩
                obtain ⟨q, ⟨hq1, hq2⟩, hq3⟩ := pk_least (fun q => q < j ∧ cel k j x (j - 1 - q) ≠ k - 1) hex
                have hcq : cel k j x (j - 1 - q) < k := cel_lt (by omega)
                refine ⟨j - 1 - q, Or.inr ⟨by omega, by omega, by omega, fun i h8 h9 => ?_⟩⟩
                apply Classical.byContradiction
                intro h10
                exact hq3 (j - 1 - i) (by omega) ⟨by omega, by rw [show j - 1 - (j - 1 - i) = i by omega]; exact h10⟩
            obtain ⟨fc', hfc'⟩ := hfx
            refine v_aload_n C (oX4_surveyWords.at 62 rfl) rfl ?_
            refine v_aload_n C (oX4_surveyWords.at 63 rfl) rfl ?_
            refine v_iload_n C (oX4_surveyWords.at 64 rfl) rfl ?_
            refine v_callV C (oX4_surveyWords.at 65 rfl) cX4_102 hP5.1 (k_moveToNextWord hR5 hs hP5 hsep (by omega) hxl hla fc' hfc') rfl rfl rfl ⟨rfl, rfl⟩ rfl rfl (fun _ => rfl) (fun h' hp => ?_)
            dsimp only [Option.toList, List.cons_append, List.nil_append]
            obtain ⟨⟨lf6, hP6, hl6⟩, hf6⟩ := hp
            refine v_istore C (oX4_surveyWords.at 66 rfl) rfl ?_
            refine v_iincN C (oX4_surveyWords.at 67 rfl) rfl ?_
            refine v_goto C (oX4_surveyWords.at 68 rfl) (tgt := 41) (by decide) ?_
            dsimp only [sto1, sto2, killL]
            refine ih (x + 1) h' lf6 Wf1 fc' _ (by omega) (by omega) hP6 (fun q hq => (hf6 q hq).trans (hf5 q hq)) hl6 (fun h9 i v hi hv => ?_)
            have e10 : fwR n k T (cel k j x) i = fwR n k T (cel k j (x + 1)) i := fwR_congr i (fun q hq => by
              rcases hfc' with ⟨h8, _⟩ | ⟨h8, h9, h10, h11⟩
              · omega
              · rw [cel_next (by omega) hxl h9 h10 h11 q (by omega), if_pos (by omega)])
            rw [hro i v (by omega) hv, e10]
          refine v_aload_n C (oX4_surveyWords.at 38 rfl) rfl ?_
          refine v_aload_n C (oX4_surveyWords.at 39 rfl) rfl ?_
          refine v_getf C (oX4_surveyWords.at 40 rfl) fX4_19 hP1.1 rfl ?_
          refine v_iload_n C (oX4_surveyWords.at 41 rfl) rfl ?_
          refine v_aald C (oX4_surveyWords.at 42 rfl) hP1.2.2.1 (by decide) rfl (by omega) (rws_at (by omega)) ?_
          refine v_callS C (oX4_surveyWords.at 43 rfl) cX4_34 (k_sumOf hr1 hn9 (hP1.2.2.2 j (by omega)) (fun v hv => hro j v (Nat.le_refl _) hv)) rfl rfl rfl ⟨rfl, rfl⟩ rfl rfl (fun _ => rfl) (fun h' hp => ?_)
          rw [show h' = _ from hp]
          dsimp only [Option.toList, List.cons_append, List.nil_append]
          refine v_istore C (oX4_surveyWords.at 44 rfl) rfl ?_
          dsimp only [sto1, sto2, killL]
          change V X (0, 0) w h1 83 [some (.ref p), some (.ref r), some (.int (nI j)), some (.int wt), some (.int (nI (k ^ j))), some (.int (nI fc)), some (.int (nI x)), some (.int (nI (pcN n k T j x)))] []
          refine v_aload_n C (oX4_surveyWords.at 45 rfl) rfl ?_
          refine v_dup C (oX4_surveyWords.at 46 rfl) rfl ?_
          refine v_getf C (oX4_surveyWords.at 47 rfl) fX4_84 hP1.1 rfl ?_
          refine v_iload C (oX4_surveyWords.at 48 rfl) rfl ?_
          refine v_iload_n C (oX4_surveyWords.at 49 rfl) rfl ?_
          refine v_icmp_ne C (oX4_surveyWords.at 50 rfl) (tgt := 98) (by decide) (fun hc => ?_) (fun hc => ?_)
          · refine v_iconst C (oX4_surveyWords.at 53 rfl) (v := nI 0) rfl ?_
            exact key 0 (by simp [hc])
          · refine v_iconst C (oX4_surveyWords.at 51 rfl) (v := nI 1) rfl ?_
            refine v_goto C (oX4_surveyWords.at 52 rfl) (tgt := 99) (by decide) ?_
            exact key 1 (by simp [hc])
        · exact absurd hc (by omega)
end
section
/-! ===== Paths: words that are their own cyclic images ===== -/
theorem k_stepAlongFixed {w : Wt} {h : Hp} {r k wd q p : Nat} {T F : Nat → Nat} {fr g0 : Nat → Int32} (hR : RuleOK h r k wd T) (hs : SZ k wd) (hq : h q = io 9 fr) (hp : h p = io 9 g0) (hqp : q ≠ p) (hpr : r + 5 < p) (hF : ∀ v, v < k ^ (wd - 1) → fr v = nI (F v)) : ConN mX4_stepAlongFixed 1 (0, 0) w [.ref r, .ref q, .ref p] h (.inl none) (fun h' => ∃ g, h' = hu h p (io 9 g) ∧ ∀ u, u < k ^ (wd - 1) → g u = nI (ac (k ^ (wd - 1)) k (fun t => decide (T t = t / k ^ (wd - 1))) F (k ^ wd) u)) := by
  have hn9 := hs.n
  have hn0 := hs.n0
  have hk := hs.k
  have hnk := hs.nk
  have hm := hs.m
  obtain ⟨f, gg, e, v, t, hr, ht, hT, hg, hG, he, hE, -⟩ := id hR
  generalize hnn : k ^ (wd - 1) = n at *
  refine conI (by decide +kernel) ⟨fun _ => rfl, rfl, by simp⟩ (fun X C => ?_)
  change V X (0, 0) w h 0 [some (.ref r), some (.ref q), some (.ref p), none, none, none] []
  refine v_aload_n C (oX4_stepAlongFixed.at 0 rfl) rfl ?_
  refine v_iconst C (oX4_stepAlongFixed.at 1 rfl) (v := nI 0) rfl ?_
  refine v_callS C (oX4_stepAlongFixed.at 2 rfl) cX4_72 (k_fill hp (by decide)) rfl rfl rfl ⟨rfl, rfl⟩ rfl rfl (fun _ => rfl) (fun h' hp => ?_)
  rw [show h' = _ from hp]
  dsimp only [Option.toList, List.cons_append, List.nil_append]
  refine v_iconst C (oX4_stepAlongFixed.at 3 rfl) (v := nI 0) rfl ?_
  refine v_istore_n C (oX4_stepAlongFixed.at 4 rfl) rfl ?_
  dsimp only [sto1, sto2, killL]
  suffices H : ∀ d v g l4 l5, v + d = n → (∀ u, u < n → g u = nI (ac n k (fun t => decide (T t = t / n)) F (v * k) u)) → V X (0, 0) w (hu h p (io 9 g)) 7 [some (.ref r), some (.ref q), some (.ref p), some (.int (nI v)), l4, l5] [] by
    refine H n 0 _ none none (by omega) (fun u hu => ?_)
    rw [Nat.zero_mul, ac, mix_lt (by omega)]
  intro d
  induction d with
  | zero =>
    intro v g l4 l5 hv hgu
    refine v_iload_n C (oX4_stepAlongFixed.at 5 rfl) rfl ?_
    refine v_aload_n C (oX4_stepAlongFixed.at 6 rfl) rfl ?_
    refine v_getf C (oX4_stepAlongFixed.at 7 rfl) fX4_42 ((hu_n _ _ (by omega)).trans hr) rfl ?_
    refine v_icmp_geN C (oX4_stepAlongFixed.at 8 rfl) (tgt := 82) (by decide) (by omega) (by omega) (fun hc => ?_) (fun hc => ?_)
    · have e1 : v = n := by omega
      subst e1
      rw [hnk] at hgu
      exact v_vret C (oX4_stepAlongFixed.at 47 rfl) rfl rfl ⟨Nat.le_refl _, Nat.le_refl _⟩ ⟨rfl, g, rfl, hgu⟩
    · exact absurd hc (by omega)
  | succ d ih =>
    intro v g l4 l5 hv hgu
    have hvk : (v + 1) * k ≤ n * k := Nat.mul_le_mul_right k (by omega)
    rw [Nat.add_mul, Nat.one_mul] at hvk
    refine v_iload_n C (oX4_stepAlongFixed.at 5 rfl) rfl ?_
    refine v_aload_n C (oX4_stepAlongFixed.at 6 rfl) rfl ?_
    refine v_getf C (oX4_stepAlongFixed.at 7 rfl) fX4_42 ((hu_n _ _ (by omega)).trans hr) rfl ?_
    refine v_icmp_geN C (oX4_stepAlongFixed.at 8 rfl) (tgt := 82) (by decide) (by omega) (by omega) (fun hc => ?_) (fun hc => ?_)
    · exact absurd hc (by omega)
    · refine v_iconst C (oX4_stepAlongFixed.at 9 rfl) (v := nI 0) rfl ?_
      refine v_istore C (oX4_stepAlongFixed.at 10 rfl) rfl ?_
      dsimp only [sto1, sto2, killL]
      suffices H : ∀ d s g l5, s + d = k → (∀ u, u < n → g u = nI (ac n k (fun t => decide (T t = t / n)) F (v * k + s) u)) → V X (0, 0) w (hu h p (io 9 g)) 18 [some (.ref r), some (.ref q), some (.ref p), some (.int (nI v)), some (.int (nI s)), l5] [] from H k 0 g l5 (by omega) hgu
      intro d2
      induction d2 with
      | zero =>
        intro s g l5 hsd hgu
        refine v_iload C (oX4_stepAlongFixed.at 11 rfl) rfl ?_
        refine v_aload_n C (oX4_stepAlongFixed.at 12 rfl) rfl ?_
        refine v_getf C (oX4_stepAlongFixed.at 13 rfl) fX4_63 ((hu_n _ _ (by omega)).trans hr) rfl ?_
        refine v_icmp_geN C (oX4_stepAlongFixed.at 14 rfl) (tgt := 76) (by decide) (by omega) (by omega) (fun hc => ?_) (fun hc => ?_)
        · have e1 : s = k := by omega
          subst e1
          refine v_iincN C (oX4_stepAlongFixed.at 45 rfl) rfl ?_
          refine v_goto C (oX4_stepAlongFixed.at 46 rfl) (tgt := 7) (by decide) ?_
          dsimp only [sto1, sto2, killL]
          refine ih (v + 1) g _ _ (by omega) (fun u hu => ?_)
          rw [Nat.add_mul, Nat.one_mul]
          exact hgu u hu
        · exact absurd hc (by omega)
      | succ d2 ih2 =>
        intro s g l5 hsd hgu
        have hTt := hT (v * k + s) (by omega)
        have hmod : (v * k + s) % n < n := Nat.mod_lt _ hn0
        have hdn : (v * k + s) / n < k := (Nat.div_lt_iff_lt_mul hn0).mpr (by rw [Nat.mul_comm k n]; omega)
        have hdiv : (v * k + s) / k = v := by rw [Nat.mul_comm, Nat.mul_add_div (by omega), Nat.div_eq_of_lt (by omega), Nat.add_zero]
        refine v_iload C (oX4_stepAlongFixed.at 11 rfl) rfl ?_
        refine v_aload_n C (oX4_stepAlongFixed.at 12 rfl) rfl ?_
        refine v_getf C (oX4_stepAlongFixed.at 13 rfl) fX4_63 ((hu_n _ _ (by omega)).trans hr) rfl ?_
        refine v_icmp_geN C (oX4_stepAlongFixed.at 14 rfl) (tgt := 76) (by decide) (by omega) (by omega) (fun hc => ?_) (fun hc => ?_)
        · exact absurd hc (by omega)
        · refine v_iload_n C (oX4_stepAlongFixed.at 15 rfl) rfl ?_
          refine v_aload_n C (oX4_stepAlongFixed.at 16 rfl) rfl ?_
          refine v_getf C (oX4_stepAlongFixed.at 17 rfl) fX4_63 ((hu_n _ _ (by omega)).trans hr) rfl ?_
          refine v_imulN C (oX4_stepAlongFixed.at 18 rfl) ?_
          refine v_iload C (oX4_stepAlongFixed.at 19 rfl) rfl ?_
          refine v_iaddN C (oX4_stepAlongFixed.at 20 rfl) ?_
          refine v_istore C (oX4_stepAlongFixed.at 21 rfl) rfl ?_
          refine v_aload_n C (oX4_stepAlongFixed.at 22 rfl) rfl ?_
          refine v_getf C (oX4_stepAlongFixed.at 23 rfl) fX4_81 ((hu_n _ _ (by omega)).trans hr) rfl ?_
          refine v_iload C (oX4_stepAlongFixed.at 24 rfl) rfl ?_
          refine v_iald C (oX4_stepAlongFixed.at 25 rfl) ((hu_n _ _ (by omega)).trans ht) (by decide) rfl (by omega) hTt.1 ?_
          refine v_aload_n C (oX4_stepAlongFixed.at 26 rfl) rfl ?_
          refine v_getf C (oX4_stepAlongFixed.at 27 rfl) fX4_109 ((hu_n _ _ (by omega)).trans hr) rfl ?_
          refine v_iload C (oX4_stepAlongFixed.at 28 rfl) rfl ?_
          refine v_iald C (oX4_stepAlongFixed.at 29 rfl) ((hu_n _ _ (by omega)).trans he) (by decide) rfl (by omega) (hE _ (by omega)) ?_
          dsimp only [sto1, sto2, killL]
          refine v_icmp_neN C (oX4_stepAlongFixed.at 30 rfl) (tgt := 70) (by decide) (by omega) (by omega) (fun hc => ?_) (fun hc => ?_)
          · refine v_iincN C (oX4_stepAlongFixed.at 43 rfl) rfl ?_
            refine v_goto C (oX4_stepAlongFixed.at 44 rfl) (tgt := 18) (by decide) ?_
            dsimp only [sto1, sto2, killL]
            refine ih2 (s + 1) g _ (by omega) (fun u hu => ?_)
            rw [← Nat.add_assoc, ac]
            simp only [hc, decide_false, Bool.false_and, Bool.false_eq_true, if_false, Nat.add_zero]
            exact hgu u hu
          · refine v_aload_n C (oX4_stepAlongFixed.at 31 rfl) rfl ?_
            refine v_aload_n C (oX4_stepAlongFixed.at 32 rfl) rfl ?_
            refine v_getf C (oX4_stepAlongFixed.at 33 rfl) fX4_69 ((hu_n _ _ (by omega)).trans hr) rfl ?_
            refine v_iload C (oX4_stepAlongFixed.at 34 rfl) rfl ?_
            refine v_iald C (oX4_stepAlongFixed.at 35 rfl) ((hu_n _ _ (by omega)).trans hg) (by decide) rfl (by omega) (hG _ (by omega)) ?_
            refine v_dup2 C (oX4_stepAlongFixed.at 36 rfl) rfl rfl ?_
            refine v_iald C (oX4_stepAlongFixed.at 37 rfl) (hu_s _ _ _) (by decide) rfl (by omega) (hgu _ hmod) ?_
            refine v_aload_n C (oX4_stepAlongFixed.at 38 rfl) rfl ?_
            refine v_iload_n C (oX4_stepAlongFixed.at 39 rfl) rfl ?_
            refine v_iald C (oX4_stepAlongFixed.at 40 rfl) ((hu_n _ _ hqp).trans hq) (by decide) rfl (by omega) (hF _ (by omega)) ?_
            refine v_iaddN C (oX4_stepAlongFixed.at 41 rfl) ?_
            refine v_iast C (oX4_stepAlongFixed.at 42 rfl) (hu_s _ _ _) (by decide) rfl (by omega) ?_
            rw [hu_hu]
            refine v_iincN C (oX4_stepAlongFixed.at 43 rfl) rfl ?_
            refine v_goto C (oX4_stepAlongFixed.at 44 rfl) (tgt := 18) (by decide) ?_
            dsimp only [sto1, sto2, killL]
            refine ih2 (s + 1) _ _ (by omega) (fun u hu => ?_)
            rw [← Nat.add_assoc, ac, hdiv]
            by_cases e1 : u = (v * k + s) % n
            · subst e1
              rw [pk_us]
              simp [hc]
            · rw [pk_un e1, hgu u hu]
              simp [Ne.symm e1]
def fxW (n k : Nat) (T : Nat → Nat) (v0 : Nat) : Nat → Nat → Nat
  | 0, u => baT v0 u
  | i + 1, u => ac n k (fun t => decide (T t = t / n)) (fxW n k T v0 i) (n * k) u
theorem k_countFixed {w : Wt} {h : Hp} {p r k wd len L : Nat} {a b : Int32} {T : Nat → Nat} {lf : Nat → Int32} {Wf : Nat → Nat → Int32} (hR : RuleOK h r k wd T) (hs : SZ k wd) (hP : PaOK h p a b len lf Wf) (hsep : r + 5 < p) (hL : L ≤ 8) : ConN mX4_countFixed 2 (0, 0) w [.ref p, .ref r, .int (nI L)] h (.inl (some (.int (nI (sumN (fun v => fxW (k ^ (wd - 1)) k T v L v) (k ^ (wd - 1))))))) (PaCh h p a b len lf) := by
  have hr := hR.ro
  have hk := hs.k
  have hn9 := hs.n
  have hn0 := hs.n0
  have hnk := hs.nk
  generalize hnn : k ^ (wd - 1) = n at *
  refine conI (by decide +kernel) ⟨fun _ => rfl, rfl, by simp⟩ (fun X C => ?_)
  change V X (0, 0) w h 0 [some (.ref p), some (.ref r), some (.int (nI L)), none, none, none] []
  refine v_iconst C (oX4_countFixed.at 0 rfl) (v := nI 0) rfl ?_
  refine v_istore_n C (oX4_countFixed.at 1 rfl) rfl ?_
  refine v_iconst C (oX4_countFixed.at 2 rfl) (v := nI 0) rfl ?_
  refine v_istore C (oX4_countFixed.at 3 rfl) rfl ?_
  dsimp only [sto1, sto2, killL]
  suffices H : ∀ d v h1 Wf1 l5, v + d = n → PaOK h1 p a b len lf Wf1 → (∀ j, (j < p ∨ p + 17 < j) → h1 j = h j) → V X (0, 0) w h1 5 [some (.ref p), some (.ref r), some (.int (nI L)), some (.int (nI (sumN (fun v => fxW n k T v L v) v))), some (.int (nI v)), l5] [] from H n 0 h Wf none (by omega) hP (fun _ _ => rfl)
  intro d
  induction d with
  | zero =>
    intro v h1 Wf1 l5 hv hP1 hfr
    have hr1 : h1 r = RO r k wd n (k ^ wd) := (hfr r (by omega)).trans hr
    refine v_iload C (oX4_countFixed.at 4 rfl) rfl ?_
    refine v_aload_n C (oX4_countFixed.at 5 rfl) rfl ?_
    refine v_getf C (oX4_countFixed.at 6 rfl) fX4_42 hr1 rfl ?_
    refine v_icmp_geN C (oX4_countFixed.at 7 rfl) (tgt := 87) (by decide) (by omega) (by omega) (fun hc => ?_) (fun hc => ?_)
    · have e : v = n := by omega
      subst e
      refine v_iload_n C (oX4_countFixed.at 51 rfl) rfl ?_
      exact v_iret C (oX4_countFixed.at 52 rfl) rfl rfl ⟨Nat.le_refl _, Nat.le_refl _⟩ ⟨rfl, ⟨Wf1, hP1⟩, hfr⟩
    · exact absurd hc (by omega)
  | succ d ih =>
    intro v h1 Wf1 l5 hv hP1 hfr
    have hr1 : h1 r = RO r k wd n (k ^ wd) := (hfr r (by omega)).trans hr
    refine v_iload C (oX4_countFixed.at 4 rfl) rfl ?_
    refine v_aload_n C (oX4_countFixed.at 5 rfl) rfl ?_
    refine v_getf C (oX4_countFixed.at 6 rfl) fX4_42 hr1 rfl ?_
    refine v_icmp_geN C (oX4_countFixed.at 7 rfl) (tgt := 87) (by decide) (by omega) (by omega) (fun hc => ?_) (fun hc => ?_)
    · exact absurd hc (by omega)
    · refine v_aload_n C (oX4_countFixed.at 8 rfl) rfl ?_
      refine v_getf C (oX4_countFixed.at 9 rfl) fX4_19 hP1.1 rfl ?_
      refine v_iconst C (oX4_countFixed.at 10 rfl) (v := nI 0) rfl ?_
      refine v_aald C (oX4_countFixed.at 11 rfl) hP1.2.2.1 (by decide) rfl (by omega) (rws_at (by omega)) ?_
      refine v_iconst C (oX4_countFixed.at 12 rfl) (v := nI 0) rfl ?_
      refine v_callS C (oX4_countFixed.at 13 rfl) cX4_72 (k_fill (hP1.2.2.2 0 (by omega)) (by decide)) rfl rfl rfl ⟨rfl, rfl⟩ rfl rfl (fun _ => rfl) (fun h' hp => ?_)
      rw [show h' = _ from hp]
      dsimp only [Option.toList, List.cons_append, List.nil_append]
      have hP2 := hP1.row (i := 0) (mix (Wf1 0) (fun _ => nI 0) 9)
      refine v_aload_n C (oX4_countFixed.at 14 rfl) rfl ?_
      refine v_getf C (oX4_countFixed.at 15 rfl) fX4_19 hP2.1 rfl ?_
      refine v_iconst C (oX4_countFixed.at 16 rfl) (v := nI 0) rfl ?_
      refine v_aald C (oX4_countFixed.at 17 rfl) hP2.2.2.1 (by decide) rfl (by omega) (rws_at (by omega)) ?_
      refine v_iload C (oX4_countFixed.at 18 rfl) rfl ?_
      refine v_iconst C (oX4_countFixed.at 19 rfl) (v := nI 1) rfl ?_
      refine v_iast C (oX4_countFixed.at 20 rfl) (hu_s _ _ _) (by decide) rfl (by omega) ?_
      refine v_iconst C (oX4_countFixed.at 21 rfl) (v := nI 0) rfl ?_
      refine v_istore C (oX4_countFixed.at 22 rfl) rfl ?_
      dsimp only [sto1, sto2, killL]
      rw [hu_hu]
      have hP3 := hP1.row (i := 0) (upd (mix (Wf1 0) (fun _ => nI 0) 9) v (nI 1))
      suffices H : ∀ d i h2 Wf2, i + d = L → PaOK h2 p a b len lf Wf2 → (∀ j, (j < p ∨ p + 17 < j) → h2 j = h j) → (∀ u, u < n → Wf2 i u = nI (fxW n k T v i u)) → V X (0, 0) w h2 37 [some (.ref p), some (.ref r), some (.int (nI L)), some (.int (nI (sumN (fun v => fxW n k T v L v) v))), some (.int (nI v)), some (.int (nI i))] [] by
        refine H L 0 _ _ (by omega) hP3 (fun j hj => (hu_n _ _ (by omega)).trans (hfr j hj)) (fun u hu => ?_)
        unfold upW
        rw [if_pos rfl, fxW]
        unfold baT
        by_cases e : u = v
        · subst e; rw [pk_us, if_pos rfl]
        · rw [pk_un e, if_neg e, mix_lt (by omega)]
      clear hP3 hP2 hP1 hfr hr1
      intro d2
      induction d2 with
      | zero =>
        intro i h2 Wf2 hi hP2 hf2 hw2
        have e : i = L := by omega
        subst e
        refine v_iload C (oX4_countFixed.at 23 rfl) rfl ?_
        refine v_iload_n C (oX4_countFixed.at 24 rfl) rfl ?_
        refine v_icmp_geN C (oX4_countFixed.at 25 rfl) (tgt := 69) (by decide) (by omega) (by omega) (fun hc => ?_) (fun hc => ?_)
        · refine v_iload_n C (oX4_countFixed.at 40 rfl) rfl ?_
          refine v_aload_n C (oX4_countFixed.at 41 rfl) rfl ?_
          refine v_getf C (oX4_countFixed.at 42 rfl) fX4_19 hP2.1 rfl ?_
          refine v_iload_n C (oX4_countFixed.at 43 rfl) rfl ?_
          refine v_aald C (oX4_countFixed.at 44 rfl) hP2.2.2.1 (by decide) rfl (by omega) (rws_at (by omega)) ?_
          refine v_iload C (oX4_countFixed.at 45 rfl) rfl ?_
          refine v_iald C (oX4_countFixed.at 46 rfl) (hP2.2.2.2 _ (by omega)) (by decide) rfl (by omega) (hw2 _ (by omega)) ?_
          refine v_iaddN C (oX4_countFixed.at 47 rfl) ?_
          refine v_istore_n C (oX4_countFixed.at 48 rfl) rfl ?_
          refine v_iincN C (oX4_countFixed.at 49 rfl) rfl ?_
          refine v_goto C (oX4_countFixed.at 50 rfl) (tgt := 5) (by decide) ?_
          dsimp only [sto1, sto2, killL]
          exact ih (v + 1) h2 Wf2 _ (by omega) hP2 hf2
        · exact absurd hc (by omega)
      | succ d2 ih2 =>
        intro i h2 Wf2 hi hP2 hf2 hw2
        have hR2 : RuleOK h2 r k wd T := hR.eq (fun q e1 e2 => hf2 q (by omega))
        refine v_iload C (oX4_countFixed.at 23 rfl) rfl ?_
        refine v_iload_n C (oX4_countFixed.at 24 rfl) rfl ?_
        refine v_icmp_geN C (oX4_countFixed.at 25 rfl) (tgt := 69) (by decide) (by omega) (by omega) (fun hc => ?_) (fun hc => ?_)
        · exact absurd hc (by omega)
        · refine v_aload_n C (oX4_countFixed.at 26 rfl) rfl ?_
          refine v_aload_n C (oX4_countFixed.at 27 rfl) rfl ?_
          refine v_getf C (oX4_countFixed.at 28 rfl) fX4_19 hP2.1 rfl ?_
          refine v_iload C (oX4_countFixed.at 29 rfl) rfl ?_
          refine v_aald C (oX4_countFixed.at 30 rfl) hP2.2.2.1 (by decide) rfl (by omega) (rws_at (by omega)) ?_
          refine v_aload_n C (oX4_countFixed.at 31 rfl) rfl ?_
          refine v_getf C (oX4_countFixed.at 32 rfl) fX4_19 hP2.1 rfl ?_
          refine v_iload C (oX4_countFixed.at 33 rfl) rfl ?_
          refine v_iconst C (oX4_countFixed.at 34 rfl) (v := nI 1) rfl ?_
          refine v_iaddN C (oX4_countFixed.at 35 rfl) ?_
          refine v_aald C (oX4_countFixed.at 36 rfl) hP2.2.2.1 (by decide) rfl (by omega) (rws_at (by omega)) ?_
          refine v_callS C (oX4_countFixed.at 37 rfl) cX4_105 (k_stepAlongFixed (F := fxW n k T v i) hR2 hs (hP2.2.2.2 i (by omega)) (hP2.2.2.2 (i + 1) (by omega)) (by omega) (by omega) (fun u hu => hw2 u (by omega))) rfl rfl rfl ⟨rfl, rfl⟩ rfl rfl (fun _ => rfl) (fun h' hp => ?_)
          dsimp only [Option.toList, List.cons_append, List.nil_append]
          obtain ⟨g, hh, hg⟩ := hp
          rw [hh]
          refine v_iincN C (oX4_countFixed.at 38 rfl) rfl ?_
          refine v_goto C (oX4_countFixed.at 39 rfl) (tgt := 37) (by decide) ?_
          dsimp only [sto1, sto2, killL]
          refine ih2 (i + 1) _ _ (by omega) (hP2.row g) (fun j hj => (hu_n _ _ (by omega)).trans (hf2 j hj)) (fun u hu => ?_)
          unfold upW
          rw [if_pos rfl, hg u (by omega), fxW, hnn, hnk]
end
section
/-! ===== bits ===== -/
theorem vk_div {v k c : Nat} (h : c < k) : (v * k + c) / k = v := by rw [Nat.mul_comm, Nat.mul_add_div (by omega), Nat.div_eq_of_lt h, Nat.add_zero]
theorem vk_mod {v k c : Nat} (h : c < k) : (v * k + c) % k = c := by rw [Nat.mul_comm, Nat.mul_add_mod, Nat.mod_eq_of_lt h]
theorem bv_nI (n : Nat) : (nI n).toBitVec = BitVec.ofNat 32 n := rfl
theorem nI_or (a b : Nat) : nI a ||| nI b = nI (a ||| b) := by
  apply Int32.toBitVec_inj.mp
  rw [Int32.toBitVec_or, bv_nI, bv_nI, bv_nI, BitVec.ofNat_or]
theorem nI_and (a b : Nat) : nI a &&& nI b = nI (a &&& b) := by
  apply Int32.toBitVec_inj.mp
  rw [Int32.toBitVec_and, bv_nI, bv_nI, bv_nI, BitVec.ofNat_and]
theorem sh31 : ∀ n, n < 32 → ((nI n &&& 31).toBitVec.smod 32).toNat = n := by decide +kernel
theorem sh31u : ∀ n, n < 32 → (((nI n).toUInt32 &&& Int32.toUInt32 31).toBitVec % 32).toNat = n := by decide +kernel
section VBN
variable {X : CT} {μ : Mi} {tab : List ExceptionTableEntry} {d : Nat} {zR : Nat × Nat} {o : Oc} {P : Wt → Hp → Prop} {z : Nat × Nat} {w : Wt} {h : Hp} {pc : Nat} {L : List (Option Value)} {st : List Value}
theorem v_iorN (C : Cx X μ tab d zR o P) {a b : Nat} (hd : decode μ.2.1 pc = .ok (.ior, 1)) (k : V X z w h (pc + 1) L (.int (nI (a ||| b)) :: st)) : V X z w h pc L (.int (nI b) :: .int (nI a) :: st) := v_ior C hd (by rw [nI_or]; exact k)
theorem v_iandN (C : Cx X μ tab d zR o P) {a b : Nat} (hd : decode μ.2.1 pc = .ok (.iand, 1)) (k : V X z w h (pc + 1) L (.int (nI (a &&& b)) :: st)) : V X z w h pc L (.int (nI b) :: .int (nI a) :: st) := v_iand C hd (by rw [nI_and]; exact k)
theorem v_ishlN (C : Cx X μ tab d zR o P) {a b : Nat} (hd : decode μ.2.1 pc = .ok (.ishl, 1)) (hb : b < 32) (hab : a * 2 ^ b < 2 ^ 32) (k : V X z w h (pc + 1) L (.int (nI (a * 2 ^ b)) :: st)) : V X z w h pc L (.int (nI b) :: .int (nI a) :: st) := v_ishl C hd (by rw [pk_shlN _ b (sh31 b hb) hab]; exact k)
theorem v_ishrN (C : Cx X μ tab d zR o P) {a b : Nat} (hd : decode μ.2.1 pc = .ok (.ishr, 1)) (hb : b < 32) (ha : a < 2 ^ 31) (k : V X z w h (pc + 1) L (.int (nI (a / 2 ^ b)) :: st)) : V X z w h pc L (.int (nI b) :: .int (nI a) :: st) := v_ishr C hd (by rw [pk_shrN ha _ b (sh31 b hb)]; exact k)
theorem v_iushrN (C : Cx X μ tab d zR o P) {a b : Nat} (hd : decode μ.2.1 pc = .ok (.iushr, 1)) (hb : b < 32) (ha : a < 2 ^ 31) (k : V X z w h (pc + 1) L (.int (nI (a / 2 ^ b)) :: st)) : V X z w h pc L (.int (nI b) :: .int (nI a) :: st) := v_iushr C hd (by rw [pk_ushrN (by omega) _ b (sh31u b hb)]; exact k)
end VBN
def orN (f : Nat → Nat) : Nat → Nat
  | 0 => 0
  | n + 1 => orN f n ||| f n
theorem orN_lt {f : Nat → Nat} {b : Nat} : ∀ n, (∀ i, i < n → f i < 2 ^ b) → orN f n < 2 ^ b
  | 0, _ => Nat.pow_pos (by decide)
  | n + 1, h => Nat.or_lt_two_pow (orN_lt n (fun i hi => h i (by omega))) (h n (by omega))
theorem bit1 (a b : Nat) : (a / 2 ^ b &&& 1 = 0) ↔ a.testBit b = false := by
  rw [Nat.and_one_is_mod, Nat.testBit_eq_decide_div_mod_eq]
  simp
/-- the successors of the node v alone by the state c -/
def sgl (k n : Nat) (T : Nat → Nat) (v c : Nat) : Nat := orN (fun s => if T (v * k + s) = c then 2 ^ ((v * k + s) % n) else 0) k
def suc (k n : Nat) (T : Nat → Nat) (S c : Nat) : Nat := orN (fun v => if S.testBit v then sgl k n T v c else 0) n
theorem pow_le9 {i : Nat} (h : i ≤ 9) : 2 ^ i ≤ 512 := Nat.pow_le_pow_right (by decide) h
theorem sgl_lt {k n : Nat} {T : Nat → Nat} {v c : Nat} (hn : 0 < n) : sgl k n T v c < 2 ^ n := orN_lt k (fun s _ => by
  split
  · exact Nat.pow_lt_pow_right (by decide) (Nat.mod_lt _ hn)
  · exact Nat.pow_pos (by decide))
theorem suc_lt {k n : Nat} {T : Nat → Nat} {S c : Nat} (hn : 0 < n) : suc k n T S c < 2 ^ n := orN_lt n (fun s _ => by
  split
  · exact sgl_lt hn
  · exact Nat.pow_pos (by decide))
/-- a subset automaton in the heap: eight rows behind the object -/
abbrev SO (p fnd : Nat) : PE := ob 7 [.int (nI fnd), .ref (p + 1), .ref (p + 2), .ref (p + 3), .ref (p + 4), .ref (p + 5), .ref (p + 6), .ref (p + 7), .ref (p + 8)]
def sa (i : Nat) : Nat := if i = 5 then 1536 else if i = 6 then 27 else 512
def SaOK (h : Hp) (p fnd : Nat) (A : Nat → Nat → Int32) : Prop := h p = SO p fnd ∧ ∀ i, 1 ≤ i → i ≤ 8 → h (p + i) = io (sa i) (A i)
theorem SaOK.eq {h h' : Hp} {p fnd : Nat} {A : Nat → Nat → Int32} (hA : SaOK h p fnd A) (he : ∀ j, p ≤ j → j ≤ p + 8 → h' j = h j) : SaOK h' p fnd A := ⟨(he _ (by omega) (by omega)).trans hA.1, fun i h1 h2 => (he _ (by omega) (by omega)).trans (hA.2 i h1 h2)⟩
theorem SaOK.up {h : Hp} {p fnd : Nat} {A : Nat → Nat → Int32} (hA : SaOK h p fnd A) (i : Nat) (h1 : 1 ≤ i) (g : Nat → Int32) : SaOK (hu h (p + i) (io (sa i) g)) p fnd (upW A i g) := by
  refine ⟨(hu_n _ _ (by omega)).trans hA.1, fun j a b => ?_⟩
  unfold upW
  by_cases e : j = i
  · subst e; rw [if_pos rfl, hu_s]
  · rw [if_neg e, hu_n _ _ (by omega)]; exact hA.2 j a b
theorem SaOK.fnd {h : Hp} {p fnd fnd' : Nat} {A : Nat → Nat → Int32} (hA : SaOK h p fnd A) : SaOK (hu h p (SO p fnd')) p fnd' A := ⟨hu_s _ _ _, fun j a b => (hu_n _ _ (by omega)).trans (hA.2 j a b)⟩
theorem SaOK.a1 {h : Hp} {p fnd : Nat} {A : Nat → Nat → Int32} (hA : SaOK h p fnd A) : h (p + 1) = io 512 (A 1) := hA.2 1 (by decide) (by decide)
theorem SaOK.a2 {h : Hp} {p fnd : Nat} {A : Nat → Nat → Int32} (hA : SaOK h p fnd A) : h (p + 2) = io 512 (A 2) := hA.2 2 (by decide) (by decide)
theorem SaOK.a3 {h : Hp} {p fnd : Nat} {A : Nat → Nat → Int32} (hA : SaOK h p fnd A) : h (p + 3) = io 512 (A 3) := hA.2 3 (by decide) (by decide)
theorem SaOK.a4 {h : Hp} {p fnd : Nat} {A : Nat → Nat → Int32} (hA : SaOK h p fnd A) : h (p + 4) = io 512 (A 4) := hA.2 4 (by decide) (by decide)
theorem SaOK.a5 {h : Hp} {p fnd : Nat} {A : Nat → Nat → Int32} (hA : SaOK h p fnd A) : h (p + 5) = io 1536 (A 5) := hA.2 5 (by decide) (by decide)
theorem SaOK.a6 {h : Hp} {p fnd : Nat} {A : Nat → Nat → Int32} (hA : SaOK h p fnd A) : h (p + 6) = io 27 (A 6) := hA.2 6 (by decide) (by decide)
theorem SaOK.a7 {h : Hp} {p fnd : Nat} {A : Nat → Nat → Int32} (hA : SaOK h p fnd A) : h (p + 7) = io 512 (A 7) := hA.2 7 (by decide) (by decide)
theorem SaOK.a8 {h : Hp} {p fnd : Nat} {A : Nat → Nat → Int32} (hA : SaOK h p fnd A) : h (p + 8) = io 512 (A 8) := hA.2 8 (by decide) (by decide)
theorem k_readSingle {w : Wt} {h : Hp} {p r k wd fnd : Nat} {T : Nat → Nat} {A : Nat → Nat → Int32} (hR : RuleOK h r k wd T) (hs : SZ k wd) (hA : SaOK h p fnd A) (hsep : r + 5 < p) : ConN mX7_readSingle 1 (0, 0) w [.ref p, .ref r] h (.inl none) (fun h' => ∃ g, h' = hu h (p + 6) (io 27 g) ∧ ∀ v c, v < k ^ (wd - 1) → c < k → g (v * k + c) = nI (sgl k (k ^ (wd - 1)) T v c)) := by
  have hn9 := hs.n
  have hn0 := hs.n0
  have hk := hs.k
  have hnk := hs.nk
  have hm := hs.m
  obtain ⟨f, gg, e, v, t, hr, ht, hT, hg, hG, he, hE, -⟩ := id hR
  generalize hnn : k ^ (wd - 1) = n at *
  refine conI (by decide +kernel) ⟨fun _ => rfl, rfl, by simp⟩ (fun X C => ?_)
  change V X (0, 0) w h 0 [some (.ref p), some (.ref r), none, none, none] []
  refine v_aload_n C (oX7_readSingle.at 0 rfl) rfl ?_
  refine v_getf C (oX7_readSingle.at 1 rfl) fX7_31 hA.1 rfl ?_
  refine v_iconst C (oX7_readSingle.at 2 rfl) (v := nI 0) rfl ?_
  refine v_callS C (oX7_readSingle.at 3 rfl) cX7_44 (k_fill hA.a6 (by decide)) rfl rfl rfl ⟨rfl, rfl⟩ rfl rfl (fun _ => rfl) (fun h' hp => ?_)
  rw [show h' = _ from hp]
  dsimp only [Option.toList, List.cons_append, List.nil_append]
  refine v_iconst C (oX7_readSingle.at 4 rfl) (v := nI 0) rfl ?_
  refine v_istore_n C (oX7_readSingle.at 5 rfl) rfl ?_
  dsimp only [sto1, sto2, killL]
  suffices H : ∀ d v g l3 l4, v + d = n → (∀ u c, u < n → c < k → g (u * k + c) = nI (if u < v then sgl k n T u c else 0)) → V X (0, 0) w (hu h (p + 6) (io 27 g)) 10 [some (.ref p), some (.ref r), some (.int (nI v)), l3, l4] [] by
    refine H n 0 _ none none (by omega) (fun u c hu hc => ?_)
    have h1 : (u + 1) * k ≤ n * k := Nat.mul_le_mul_right k hu
    rw [Nat.add_mul, Nat.one_mul] at h1
    rw [if_neg (by omega), mix_lt (by omega)]
  intro d
  induction d with
  | zero =>
    intro v g l3 l4 hv hgu
    refine v_iload_n C (oX7_readSingle.at 6 rfl) rfl ?_
    refine v_aload_n C (oX7_readSingle.at 7 rfl) rfl ?_
    refine v_getf C (oX7_readSingle.at 8 rfl) fX7_50 ((hu_n _ _ (by omega)).trans hr) rfl ?_
    refine v_icmp_geN C (oX7_readSingle.at 9 rfl) (tgt := 81) (by decide) (by omega) (by omega) (fun hc => ?_) (fun hc => ?_)
    · exact v_vret C (oX7_readSingle.at 48 rfl) rfl rfl ⟨Nat.le_refl _, Nat.le_refl _⟩ ⟨rfl, g, rfl, fun u c hu hc2 => by rw [hgu u c hu hc2, if_pos (by omega)]⟩
    · exact absurd hc (by omega)
  | succ d ih =>
    intro v g l3 l4 hv hgu
    have hvk : (v + 1) * k ≤ n * k := Nat.mul_le_mul_right k (by omega)
    rw [Nat.add_mul, Nat.one_mul] at hvk
    refine v_iload_n C (oX7_readSingle.at 6 rfl) rfl ?_
    refine v_aload_n C (oX7_readSingle.at 7 rfl) rfl ?_
    refine v_getf C (oX7_readSingle.at 8 rfl) fX7_50 ((hu_n _ _ (by omega)).trans hr) rfl ?_
    refine v_icmp_geN C (oX7_readSingle.at 9 rfl) (tgt := 81) (by decide) (by omega) (by omega) (fun hc => ?_) (fun hc => ?_)
    · exact absurd hc (by omega)
    · refine v_iconst C (oX7_readSingle.at 10 rfl) (v := nI 0) rfl ?_
      refine v_istore_n C (oX7_readSingle.at 11 rfl) rfl ?_
      dsimp only [sto1, sto2, killL]
      suffices H : ∀ d s g l4, s + d = k → (∀ u c, u < n → c < k → g (u * k + c) = nI (if u < v then sgl k n T u c else if u = v then orN (fun s => if T (v * k + s) = c then 2 ^ ((v * k + s) % n) else 0) s else 0)) → V X (0, 0) w (hu h (p + 6) (io 27 g)) 20 [some (.ref p), some (.ref r), some (.int (nI v)), some (.int (nI s)), l4] [] by
        refine H k 0 g l4 (by omega) (fun u c hu hc => ?_)
        rw [hgu u c hu hc]
        by_cases e1 : u < v
        · rw [if_pos e1, if_pos e1]
        · rw [if_neg e1, if_neg e1]
          split <;> rfl
      intro d2
      induction d2 with
      | zero =>
        intro s g l4 hsd hgu
        refine v_iload_n C (oX7_readSingle.at 12 rfl) rfl ?_
        refine v_aload_n C (oX7_readSingle.at 13 rfl) rfl ?_
        refine v_getf C (oX7_readSingle.at 14 rfl) fX7_57 ((hu_n _ _ (by omega)).trans hr) rfl ?_
        refine v_icmp_geN C (oX7_readSingle.at 15 rfl) (tgt := 75) (by decide) (by omega) (by omega) (fun hc => ?_) (fun hc => ?_)
        · have e1 : s = k := by omega
          subst e1
          refine v_iincN C (oX7_readSingle.at 46 rfl) rfl ?_
          refine v_goto C (oX7_readSingle.at 47 rfl) (tgt := 10) (by decide) ?_
          dsimp only [sto1, sto2, killL]
          refine ih (v + 1) g _ _ (by omega) (fun u c hu hc => ?_)
          rw [hgu u c hu hc]
          by_cases e1 : u < v
          · rw [if_pos e1, if_pos (by omega)]
          · rw [if_neg e1]
            by_cases e2 : u = v
            · subst e2; rw [if_pos rfl, if_pos (by omega)]; rfl
            · rw [if_neg e2, if_neg (by omega)]
        · exact absurd hc (by omega)
      | succ d2 ih2 =>
        intro s g l4 hsd hgu
        have hTt := hT (v * k + s) (by omega)
        have hmod : (v * k + s) % n < n := Nat.mod_lt _ hn0
        have hp9 := pow_le9 (i := (v * k + s) % n) (by omega)
        have hval := hgu v (T (v * k + s)) (by omega) hTt.2
        rw [if_neg (by omega), if_pos rfl] at hval
        refine v_iload_n C (oX7_readSingle.at 12 rfl) rfl ?_
        refine v_aload_n C (oX7_readSingle.at 13 rfl) rfl ?_
        refine v_getf C (oX7_readSingle.at 14 rfl) fX7_57 ((hu_n _ _ (by omega)).trans hr) rfl ?_
        refine v_icmp_geN C (oX7_readSingle.at 15 rfl) (tgt := 75) (by decide) (by omega) (by omega) (fun hc => ?_) (fun hc => ?_)
        · exact absurd hc (by omega)
        · refine v_iload_n C (oX7_readSingle.at 16 rfl) rfl ?_
          refine v_aload_n C (oX7_readSingle.at 17 rfl) rfl ?_
          refine v_getf C (oX7_readSingle.at 18 rfl) fX7_57 ((hu_n _ _ (by omega)).trans hr) rfl ?_
          refine v_imulN C (oX7_readSingle.at 19 rfl) ?_
          refine v_iload_n C (oX7_readSingle.at 20 rfl) rfl ?_
          refine v_iaddN C (oX7_readSingle.at 21 rfl) ?_
          refine v_istore C (oX7_readSingle.at 22 rfl) rfl ?_
          refine v_aload_n C (oX7_readSingle.at 23 rfl) rfl ?_
          refine v_getf C (oX7_readSingle.at 24 rfl) fX7_31 ((hu_n _ _ (by omega)).trans hA.1) rfl ?_
          refine v_iload_n C (oX7_readSingle.at 25 rfl) rfl ?_
          refine v_aload_n C (oX7_readSingle.at 26 rfl) rfl ?_
          refine v_getf C (oX7_readSingle.at 27 rfl) fX7_57 ((hu_n _ _ (by omega)).trans hr) rfl ?_
          refine v_imulN C (oX7_readSingle.at 28 rfl) ?_
          refine v_aload_n C (oX7_readSingle.at 29 rfl) rfl ?_
          refine v_getf C (oX7_readSingle.at 30 rfl) fX7_64 ((hu_n _ _ (by omega)).trans hr) rfl ?_
          refine v_iload C (oX7_readSingle.at 31 rfl) rfl ?_
          refine v_iald C (oX7_readSingle.at 32 rfl) ((hu_n _ _ (by omega)).trans ht) (by decide) rfl (by omega) hTt.1 ?_
          refine v_iaddN C (oX7_readSingle.at 33 rfl) ?_
          refine v_dup2 C (oX7_readSingle.at 34 rfl) rfl rfl ?_
          refine v_iald C (oX7_readSingle.at 35 rfl) (hu_s _ _ _) (by decide) rfl (by omega) hval ?_
          refine v_iconst C (oX7_readSingle.at 36 rfl) (v := nI 1) rfl ?_
          refine v_aload_n C (oX7_readSingle.at 37 rfl) rfl ?_
          refine v_getf C (oX7_readSingle.at 38 rfl) fX7_67 ((hu_n _ _ (by omega)).trans hr) rfl ?_
          refine v_iload C (oX7_readSingle.at 39 rfl) rfl ?_
          refine v_iald C (oX7_readSingle.at 40 rfl) ((hu_n _ _ (by omega)).trans hg) (by decide) rfl (by omega) (hG _ (by omega)) ?_
          refine v_ishlN C (oX7_readSingle.at 41 rfl) (by omega) (by omega) ?_
          refine v_iorN C (oX7_readSingle.at 42 rfl) ?_
          refine v_iast C (oX7_readSingle.at 43 rfl) (hu_s _ _ _) (by decide) rfl (by omega) ?_
          dsimp only [sto1, sto2, killL]
          rw [hu_hu, Nat.one_mul]
          refine v_iincN C (oX7_readSingle.at 44 rfl) rfl ?_
          refine v_goto C (oX7_readSingle.at 45 rfl) (tgt := 20) (by decide) ?_
          dsimp only [sto1, sto2, killL]
          refine ih2 (s + 1) _ _ (by omega) (fun u c hu hc => ?_)
          by_cases e1 : u * k + c = v * k + T (v * k + s)
          · have e2 : u = v := by
              rw [← vk_div (v := u) hc, ← vk_div (v := v) hTt.2, e1]
            subst e2
            have e3 : c = T (u * k + s) := by omega
            rw [e1, pk_us, if_neg (by omega), if_pos rfl, orN, ← e3, if_pos rfl]
          · rw [pk_un e1, hgu u c hu hc]
            by_cases e2 : u < v
            · rw [if_pos e2, if_pos e2]
            · rw [if_neg e2, if_neg e2]
              by_cases e3 : u = v
              · subst e3
                rw [if_pos rfl, if_pos rfl, orN, if_neg (by omega), Nat.or_zero]
              · rw [if_neg e3, if_neg e3]
theorem k_sucA {w : Wt} {h : Hp} {p r k wd fnd S c : Nat} {T : Nat → Nat} {A : Nat → Nat → Int32} (hR : RuleOK h r k wd T) (hs : SZ k wd) (hA : SaOK h p fnd A) (hS : S < 512) (hck : c < k) (hsg : ∀ v c, v < k ^ (wd - 1) → c < k → A 6 (v * k + c) = nI (sgl k (k ^ (wd - 1)) T v c)) : ConN mX7_successors 0 (0, 0) w [.ref p, .ref r, .int (nI S), .int (nI c)] h (.inl (some (.int (nI (suc k (k ^ (wd - 1)) T S c))))) (fun h' => h' = h) := by
  have hn9 := hs.n
  have hk := hs.k
  have hnk := hs.nk
  have hm := hs.m
  have hr := hR.ro
  generalize hnn : k ^ (wd - 1) = n at *
  refine conI (by decide +kernel) ⟨fun _ => rfl, rfl, by simp⟩ (fun X C => ?_)
  change V X (0, 0) w h 0 [some (.ref p), some (.ref r), some (.int (nI S)), some (.int (nI c)), none, none] []
  refine v_iconst C (oX7_successors.at 0 rfl) (v := nI 0) rfl ?_
  refine v_istore C (oX7_successors.at 1 rfl) rfl ?_
  refine v_iconst C (oX7_successors.at 2 rfl) (v := nI 0) rfl ?_
  refine v_istore C (oX7_successors.at 3 rfl) rfl ?_
  dsimp only [sto1, sto2, killL]
  suffices H : ∀ d v, v + d = n → V X (0, 0) w h 6 [some (.ref p), some (.ref r), some (.int (nI S)), some (.int (nI c)), some (.int (nI (orN (fun v => if S.testBit v then sgl k n T v c else 0) v))), some (.int (nI v))] [] from H n 0 (by omega)
  intro d
  induction d with
  | zero =>
    intro v hv
    refine v_iload C (oX7_successors.at 4 rfl) rfl ?_
    refine v_aload_n C (oX7_successors.at 5 rfl) rfl ?_
    refine v_getf C (oX7_successors.at 6 rfl) fX7_50 hr rfl ?_
    refine v_icmp_geN C (oX7_successors.at 7 rfl) (tgt := 49) (by decide) (by omega) (by omega) (fun hc => ?_) (fun hc => ?_)
    · have e : v = n := by omega
      subst e
      refine v_iload C (oX7_successors.at 28 rfl) rfl ?_
      exact v_iret C (oX7_successors.at 29 rfl) rfl rfl ⟨Nat.le_refl _, Nat.le_refl _⟩ ⟨rfl, rfl⟩
    · exact absurd hc (by omega)
  | succ d ih =>
    intro v hv
    have hvk : (v + 1) * k ≤ n * k := Nat.mul_le_mul_right k (by omega)
    rw [Nat.add_mul, Nat.one_mul] at hvk
    have hb1 : S / 2 ^ v &&& 1 ≤ 1 := Nat.and_le_right
    refine v_iload C (oX7_successors.at 4 rfl) rfl ?_
    refine v_aload_n C (oX7_successors.at 5 rfl) rfl ?_
    refine v_getf C (oX7_successors.at 6 rfl) fX7_50 hr rfl ?_
    refine v_icmp_geN C (oX7_successors.at 7 rfl) (tgt := 49) (by decide) (by omega) (by omega) (fun hc => ?_) (fun hc => ?_)
    · exact absurd hc (by omega)
    · refine v_iload_n C (oX7_successors.at 8 rfl) rfl ?_
      refine v_iload C (oX7_successors.at 9 rfl) rfl ?_
      refine v_iushrN C (oX7_successors.at 10 rfl) (by omega) (by omega) ?_
      refine v_iconst C (oX7_successors.at 11 rfl) (v := nI 1) rfl ?_
      refine v_iandN C (oX7_successors.at 12 rfl) ?_
      refine v_if_eqN C (oX7_successors.at 13 rfl) (tgt := 43) (by decide) (by omega) (fun hc => ?_) (fun hc => ?_)
      · refine v_iincN C (oX7_successors.at 26 rfl) rfl ?_
        refine v_goto C (oX7_successors.at 27 rfl) (tgt := 6) (by decide) ?_
        dsimp only [sto1, sto2, killL]
        have := ih (v + 1) (by omega)
        rw [orN, (bit1 S v).mp hc] at this
        simpa using this
      · refine v_iload C (oX7_successors.at 14 rfl) rfl ?_
        refine v_aload_n C (oX7_successors.at 15 rfl) rfl ?_
        refine v_getf C (oX7_successors.at 16 rfl) fX7_31 hA.1 rfl ?_
        refine v_iload C (oX7_successors.at 17 rfl) rfl ?_
        refine v_aload_n C (oX7_successors.at 18 rfl) rfl ?_
        refine v_getf C (oX7_successors.at 19 rfl) fX7_57 hr rfl ?_
        refine v_imulN C (oX7_successors.at 20 rfl) ?_
        refine v_iload_n C (oX7_successors.at 21 rfl) rfl ?_
        refine v_iaddN C (oX7_successors.at 22 rfl) ?_
        refine v_iald C (oX7_successors.at 23 rfl) hA.a6 (by decide) rfl (by omega) (hsg _ _ (by omega) hck) ?_
        refine v_iorN C (oX7_successors.at 24 rfl) ?_
        refine v_istore C (oX7_successors.at 25 rfl) rfl ?_
        refine v_iincN C (oX7_successors.at 26 rfl) rfl ?_
        refine v_goto C (oX7_successors.at 27 rfl) (tgt := 6) (by decide) ?_
        dsimp only [sto1, sto2, killL]
        have := ih (v + 1) (by omega)
        have hb : S.testBit v = true := by
          cases hq : S.testBit v with
          | true => rfl
          | false => exact absurd ((bit1 S v).mpr hq) hc
        rw [orN, hb] at this
        exact this
end
section
/-! ===== the subset automaton ===== -/
/-- the search in breadth: how many sets, which, from where, by which state -/
abbrev Bt : Type := Nat × (Nat → Nat) × (Nat → Nat) × (Nat → Nat)
def hasB (Q : Nat → Nat) (N S : Nat) : Bool := !(allB (fun j => decide (Q j ≠ S)) N)
theorem hasB_t {Q : Nat → Nat} {N S : Nat} : hasB Q N S = true ↔ ∃ j, j < N ∧ Q j = S := by
  unfold hasB
  rw [Bool.not_eq_true', ← Bool.not_eq_true, allB_iff]
  constructor
  · intro h
    apply Classical.byContradiction
    intro hn
    exact h (fun i hi => by simp; exact fun e => hn ⟨i, hi, e⟩)
  · rintro ⟨j, hj, e⟩ h
    have := h j hj
    simp at this
    exact this e
def bfs (k n : Nat) (T : Nat → Nat) : Nat → Bt
  | 0 => (1, fun _ => 2 ^ n - 1, fun _ => 0, fun _ => 0)
  | t + 1 => if hasB (bfs k n T t).2.1 (bfs k n T t).1 (suc k n T ((bfs k n T t).2.1 (t / k)) (t % k)) then bfs k n T t else ((bfs k n T t).1 + 1, updN (bfs k n T t).2.1 (bfs k n T t).1 (suc k n T ((bfs k n T t).2.1 (t / k)) (t % k)), updN (bfs k n T t).2.2.1 (bfs k n T t).1 (t / k), updN (bfs k n T t).2.2.2 (bfs k n T t).1 (t % k))
theorem bfs_in {k n : Nat} {T : Nat → Nat} (hn : 0 < n) : ∀ t, 1 ≤ (bfs k n T t).1 ∧ (∀ j, j < (bfs k n T t).1 → (bfs k n T t).2.1 j < 2 ^ n) ∧ ∀ a b, a < b → b < (bfs k n T t).1 → (bfs k n T t).2.1 a ≠ (bfs k n T t).2.1 b
  | 0 => ⟨Nat.le_refl _, fun j _ => by
      show 2 ^ n - 1 < 2 ^ n
      have : 0 < 2 ^ n := Nat.pow_pos (by decide)
      omega, fun a b h1 h2 => by
      have h2 : b < 1 := h2
      omega⟩
  | t + 1 => by
    obtain ⟨h1, h2, h3⟩ := bfs_in (k := k) (T := T) hn t
    rw [bfs]
    split
    · exact ⟨h1, h2, h3⟩
    · rename_i hb
      have hb : ∀ j, j < (bfs k n T t).1 → (bfs k n T t).2.1 j ≠ suc k n T ((bfs k n T t).2.1 (t / k)) (t % k) := fun j hj e => hb (hasB_t.mpr ⟨j, hj, e⟩)
      refine ⟨by show 1 ≤ _ + 1; omega, fun j hj => ?_, fun a b hab hb2 => ?_⟩
      · have hj : j < (bfs k n T t).1 + 1 := hj
        show updN _ _ _ j < _
        unfold updN
        split
        · exact suc_lt hn
        · exact h2 j (by omega)
      · have hb2 : b < (bfs k n T t).1 + 1 := hb2
        show updN _ _ _ a ≠ updN _ _ _ b
        unfold updN
        rw [if_neg (by omega)]
        split
        · exact hb a (by omega)
        · exact h3 a b hab (by omega)
theorem bfs_le {k n : Nat} {T : Nat → Nat} (hn : 0 < n) (hn9 : n ≤ 9) (t : Nat) : (bfs k n T t).1 ≤ 512 := by
  obtain ⟨h1, h2, h3⟩ := bfs_in (k := k) (T := T) hn t
  have := php (2 ^ n) _ _ h2 h3
  have h9 := pow_le9 hn9
  omega
/-- what has been found stays -/
theorem bfs_mono {k n : Nat} {T : Nat → Nat} (t : Nat) : ∀ d, (bfs k n T t).1 ≤ (bfs k n T (t + d)).1 ∧ ∀ j, j < (bfs k n T t).1 → (bfs k n T (t + d)).2.1 j = (bfs k n T t).2.1 j ∧ (bfs k n T (t + d)).2.2.1 j = (bfs k n T t).2.2.1 j ∧ (bfs k n T (t + d)).2.2.2 j = (bfs k n T t).2.2.2 j
  | 0 => ⟨Nat.le_refl _, fun _ _ => ⟨rfl, rfl, rfl⟩⟩
  | d + 1 => by
    obtain ⟨h1, h2⟩ := bfs_mono (k := k) (n := n) (T := T) t d
    rw [← Nat.add_assoc, bfs]
    split
    · exact ⟨h1, h2⟩
    · refine ⟨Nat.le_succ_of_le h1, fun j hj => ?_⟩
      obtain ⟨a1, a2, a3⟩ := h2 j hj
      refine ⟨?_, ?_, ?_⟩
      · show updN _ _ _ j = _
        unfold updN; rw [if_neg (by omega)]; exact a1
      · show updN _ _ _ j = _
        unfold updN; rw [if_neg (by omega)]; exact a2
      · show updN _ _ _ j = _
        unfold updN; rw [if_neg (by omega)]; exact a3
/-- a set comes from an earlier one -/
theorem bfs_from {k n : Nat} {T : Nat → Nat} (hk : 0 < k) : ∀ i c, c ≤ k → (∀ i', i' < i → i' < (bfs k n T (i' * k)).1) → (c = 0 ∨ i < (bfs k n T (i * k)).1) → ∀ j, 0 < j → j < (bfs k n T (i * k + c)).1 → (bfs k n T (i * k + c)).2.2.1 j < j ∧ (bfs k n T (i * k + c)).2.2.2 j < k := by
  intro i
  induction i with
  | zero =>
    intro c
    induction c with
    | zero => intro _ _ _ j h1 h2; simp [bfs] at h2; omega
    | succ c ih =>
      intro hck hi0 _ j h1 h2
      have ih := ih (by omega) hi0 (Or.inr (by simp [bfs])) j h1
      rw [← Nat.add_assoc, bfs] at h2 ⊢
      split at h2
      · rename_i hb; rw [if_pos hb]; exact ih h2
      · rename_i hb
        rw [if_neg hb]
        have h2 : j < (bfs k n T (0 * k + c)).1 + 1 := h2
        show updN _ _ _ j < j ∧ updN _ _ _ j < k
        unfold updN
        by_cases e : j = (bfs k n T (0 * k + c)).1
        · rw [if_pos e, if_pos e]
          refine ⟨?_, Nat.mod_lt _ hk⟩
          rw [vk_div (by omega)]; omega
        · rw [if_neg e, if_neg e]; exact ih (by omega)
  | succ i ihi =>
    intro c
    induction c with
    | zero =>
      intro _ hi0 _ j h1 h2
      have e : (i + 1) * k + 0 = i * k + k := by rw [Nat.add_mul, Nat.one_mul, Nat.add_zero]
      rw [e] at h2 ⊢
      exact ihi k (Nat.le_refl _) (fun i' h => hi0 i' (by omega)) (Or.inr (hi0 i (by omega))) j h1 h2
    | succ c ih =>
      intro hck hi0 hic j h1 h2
      have hic : i + 1 < (bfs k n T ((i + 1) * k)).1 := by
        rcases hic with h | h
        · omega
        · exact h
      have ih := ih (by omega) hi0 (Or.inr hic) j h1
      have hm := (bfs_mono (k := k) (n := n) (T := T) ((i + 1) * k) c).1
      rw [← Nat.add_assoc, bfs] at h2 ⊢
      split at h2
      · rename_i hb; rw [if_pos hb]; exact ih h2
      · rename_i hb
        rw [if_neg hb]
        have h2 : j < (bfs k n T ((i + 1) * k + c)).1 + 1 := h2
        show updN _ _ _ j < j ∧ updN _ _ _ j < k
        unfold updN
        by_cases e : j = (bfs k n T ((i + 1) * k + c)).1
        · rw [if_pos e, if_pos e]
          refine ⟨?_, Nat.mod_lt _ hk⟩
          rw [vk_div (by omega)]; omega
        · rw [if_neg e, if_neg e]; exact ih (by omega)
/-- where the search ends -/
def Bend (k n : Nat) (T : Nat → Nat) (e : Nat) : Prop := (bfs k n T (e * k)).1 = e ∧ ∀ i, i < e → i < (bfs k n T (i * k)).1
theorem bend_ex {k n : Nat} {T : Nat → Nat} (hn : 0 < n) (hn9 : n ≤ 9) : ∃ e, e ≤ 512 ∧ Bend k n T e := by
  have hx : ∃ e, (bfs k n T (e * k)).1 ≤ e := ⟨512, bfs_le hn hn9 _⟩
  obtain ⟨e, he, hm⟩ := pk_least _ hx
  have h1 : ∀ i, i < e → i < (bfs k n T (i * k)).1 := fun i hi => Nat.not_le.mp (hm i hi)
  have h2 : e ≤ (bfs k n T (e * k)).1 := by
    rcases Nat.eq_zero_or_pos e with h0 | h0
    · omega
    · have a1 := h1 (e - 1) (by omega)
      have a2 := (bfs_mono (k := k) (n := n) (T := T) ((e - 1) * k) k).1
      rw [show (e - 1) * k + k = e * k by rw [← Nat.succ_mul]; congr 1; omega] at a2
      omega
  have h3 := bfs_le (k := k) (T := T) hn hn9 (e * k)
  exact ⟨e, by omega, by omega, h1⟩
/-- depth and word of a place: by fuel that exceeds the place -/
def dpF (fr : Nat → Nat) : Nat → Nat → Nat
  | 0, _ => 0
  | f + 1, j => if j = 0 then 0 else dpF fr f (fr j) + 1
def wdF (k : Nat) (fr by' : Nat → Nat) : Nat → Nat → Nat
  | 0, _ => 0
  | f + 1, j => if j = 0 then 0 else wdF k fr by' f (fr j) * k + by' j
end
section
/-! ===== SubsetAutomaton.explore ===== -/
theorem dpF_fuel {fr : Nat → Nat} : ∀ f j, (∀ i, 0 < i → i ≤ j → fr i < i) → j ≤ f → dpF fr f j = dpF fr j j := by
  intro f
  induction f with
  | zero => intro j _ h; have : j = 0 := by omega
            subst this; rfl
  | succ f ih =>
    intro j hj h
    rcases Nat.eq_zero_or_pos j with e | e
    · subst e; simp [dpF]
    · obtain ⟨j', rfl⟩ : ∃ j', j = j' + 1 := ⟨j - 1, by omega⟩
      have h1 := hj (j' + 1) e (Nat.le_refl _)
      rw [dpF, dpF, if_neg (by omega), if_neg (by omega), ih (fr (j' + 1)) (fun i a b => hj i a (by omega)) (by omega)]
      congr 1
      by_cases e2 : j' ≤ f
      · rw [← ih (fr (j' + 1)) (fun i a b => hj i a (by omega)) (by omega)]
        have : ∀ f2 f3 j, (∀ i, 0 < i → i ≤ j → fr i < i) → j ≤ f2 → j ≤ f3 → dpF fr f2 j = dpF fr f3 j := by
          intro f2
          induction f2 with
          | zero => intro f3 j hj a b; have : j = 0 := by omega
                    subst this; cases f3 <;> simp [dpF]
          | succ f2 ih2 =>
            intro f3 j hj a b
            rcases Nat.eq_zero_or_pos j with e | e
            · subst e; cases f3 <;> simp [dpF]
            · obtain ⟨f4, rfl⟩ : ∃ f4, f3 = f4 + 1 := ⟨f3 - 1, by omega⟩
              have h1 := hj j e (Nat.le_refl _)
              rw [dpF, dpF, if_neg (by omega), if_neg (by omega), ih2 f4 (fr j) (fun i a b => hj i a (by omega)) (by omega) (by omega)]
        exact this _ _ _ (fun i a b => hj i a (by omega)) (by omega) (by omega)
      · omega
theorem wdF_fuel {k : Nat} {fr bb : Nat → Nat} : ∀ f2 f3 j, (∀ i, 0 < i → i ≤ j → fr i < i) → j ≤ f2 → j ≤ f3 → wdF k fr bb f2 j = wdF k fr bb f3 j := by
  intro f2
  induction f2 with
  | zero => intro f3 j hj a b; have : j = 0 := by omega
            subst this; cases f3 <;> simp [wdF]
  | succ f2 ih2 =>
    intro f3 j hj a b
    rcases Nat.eq_zero_or_pos j with e | e
    · subst e; cases f3 <;> simp [wdF]
    · obtain ⟨f4, rfl⟩ : ∃ f4, f3 = f4 + 1 := ⟨f3 - 1, by omega⟩
      have h1 := hj j e (Nat.le_refl _)
      rw [wdF, wdF, if_neg (by omega), if_neg (by omega), ih2 f4 (fr j) (fun i a b => hj i a (by omega)) (by omega) (by omega)]
theorem dpF_congr {fr fr' : Nat → Nat} : ∀ f j, (∀ i, 0 < i → i ≤ j → fr i < i) → (∀ i, i ≤ j → fr' i = fr i) → dpF fr' f j = dpF fr f j := by
  intro f
  induction f with
  | zero => intro _ _ _; rfl
  | succ f ih =>
    intro j hj he
    rw [dpF, dpF]
    split
    · rfl
    · have h1 := hj j (by omega) (Nat.le_refl _)
      rw [he j (Nat.le_refl _), ih (fr j) (fun i a b => hj i a (by omega)) (fun i a => he i (by omega))]
theorem wdF_congr {k : Nat} {fr fr' bb bb' : Nat → Nat} : ∀ f j, (∀ i, 0 < i → i ≤ j → fr i < i) → (∀ i, i ≤ j → fr' i = fr i ∧ bb' i = bb i) → wdF k fr' bb' f j = wdF k fr bb f j := by
  intro f
  induction f with
  | zero => intro _ _ _; rfl
  | succ f ih =>
    intro j hj he
    rw [wdF, wdF]
    split
    · rfl
    · have h1 := hj j (by omega) (Nat.le_refl _)
      rw [(he j (Nat.le_refl _)).1, (he j (Nat.le_refl _)).2, ih (fr j) (fun i a b => hj i a (by omega)) (fun i a => he i (by omega))]
def bdp (b : Bt) (j : Nat) : Nat := dpF b.2.2.1 512 j
def bwr (k : Nat) (b : Bt) (j : Nat) : Nat := wdF k b.2.2.1 b.2.2.2 512 j
theorem k_placeOf1 {w : Wt} {h : Hp} {p N S j dd ww : Nat} {A : Nat → Nat → Int32} (hA : SaOK h p N A) (hS : S < 512) (hj : A 2 S = nI j) (hj2 : j < 2 ^ 31) : ConN mX7_placeOf 0 (0, 0) w [.ref p, .int (nI S), .int (nI dd), .int (nI ww)] h (.inl (some (.int (nI j)))) (fun h' => h' = h) := by
  refine conI (by decide +kernel) ⟨fun _ => rfl, rfl, by simp⟩ (fun X C => ?_)
  change V X (0, 0) w h 0 [some (.ref p), some (.int (nI S)), some (.int (nI dd)), some (.int (nI ww))] []
  refine v_aload_n C (oX7_placeOf.at 0 rfl) rfl ?_
  refine v_getf C (oX7_placeOf.at 1 rfl) fX7_17 hA.1 rfl ?_
  refine v_iload_n C (oX7_placeOf.at 2 rfl) rfl ?_
  refine v_iald C (oX7_placeOf.at 3 rfl) hA.a2 (by decide) rfl (by omega) hj ?_
  refine v_if_geN C (oX7_placeOf.at 4 rfl) (tgt := 59) (by decide) (by omega) ?_
  refine v_aload_n C (oX7_placeOf.at 35 rfl) rfl ?_
  refine v_getf C (oX7_placeOf.at 36 rfl) fX7_17 hA.1 rfl ?_
  refine v_iload_n C (oX7_placeOf.at 37 rfl) rfl ?_
  refine v_iald C (oX7_placeOf.at 38 rfl) hA.a2 (by decide) rfl (by omega) hj ?_
  exact v_iret C (oX7_placeOf.at 39 rfl) rfl rfl ⟨Nat.le_refl _, Nat.le_refl _⟩ ⟨rfl, rfl⟩
theorem k_placeOf2 {w : Wt} {h : Hp} {p N S dd ww : Nat} {A : Nat → Nat → Int32} (hA : SaOK h p N A) (hS : S < 512) (hN : N < 512) (hj : A 2 S = -1) : ConN mX7_placeOf 0 (0, 0) w [.ref p, .int (nI S), .int (nI dd), .int (nI ww)] h (.inl (some (.int (nI N)))) (fun h' => SaOK h' p (N + 1) (upW (upW (upW (upW A 2 (upd (A 2) S (nI N))) 1 (upd (A 1) N (nI S))) 3 (upd (A 3) N (nI dd))) 4 (upd (A 4) N (nI ww))) ∧ ∀ j, (j < p ∨ p + 8 < j) → h' j = h j) := by
  refine conI (by decide +kernel) ⟨fun _ => rfl, rfl, by simp⟩ (fun X C => ?_)
  change V X (0, 0) w h 0 [some (.ref p), some (.int (nI S)), some (.int (nI dd)), some (.int (nI ww))] []
  refine v_aload_n C (oX7_placeOf.at 0 rfl) rfl ?_
  refine v_getf C (oX7_placeOf.at 1 rfl) fX7_17 hA.1 rfl ?_
  refine v_iload_n C (oX7_placeOf.at 2 rfl) rfl ?_
  refine v_iald C (oX7_placeOf.at 3 rfl) hA.a2 (by decide) rfl (by omega) hj ?_
  refine v_if_ge C (oX7_placeOf.at 4 rfl) (tgt := 59) (by decide) (fun hc => ?_) (fun hc => ?_)
  · rw [← Int32.not_lt] at hc
    exact absurd (by decide) hc
  · refine v_aload_n C (oX7_placeOf.at 5 rfl) rfl ?_
    refine v_getf C (oX7_placeOf.at 6 rfl) fX7_17 hA.1 rfl ?_
    refine v_iload_n C (oX7_placeOf.at 7 rfl) rfl ?_
    refine v_aload_n C (oX7_placeOf.at 8 rfl) rfl ?_
    refine v_getf C (oX7_placeOf.at 9 rfl) fX7_7 hA.1 rfl ?_
    refine v_iast C (oX7_placeOf.at 10 rfl) hA.a2 (by decide) rfl (by omega) ?_
    have hA1 := hA.up 2 (by decide) (upd (A 2) S (nI N))
    have hf1 : ∀ j, (j < p ∨ p + 8 < j) → (hu h (p + 2) (io (sa 2) (upd (A 2) S (nI N)))) j = h j := fun j hj => hu_n _ _ (by omega)
    change V X (0, 0) w (hu h (p + 2) (io (sa 2) (upd (A 2) S (nI N)))) _ _ _
    generalize hu h (p + 2) (io (sa 2) (upd (A 2) S (nI N))) = h1 at *
    refine v_aload_n C (oX7_placeOf.at 11 rfl) rfl ?_
    refine v_getf C (oX7_placeOf.at 12 rfl) fX7_13 hA1.1 rfl ?_
    refine v_aload_n C (oX7_placeOf.at 13 rfl) rfl ?_
    refine v_getf C (oX7_placeOf.at 14 rfl) fX7_7 hA1.1 rfl ?_
    refine v_iload_n C (oX7_placeOf.at 15 rfl) rfl ?_
    refine v_iast C (oX7_placeOf.at 16 rfl) hA1.a1 (by decide) rfl (by omega) ?_
    have hA2 := hA1.up 1 (by decide) (upd (A 1) N (nI S))
    have hf2 : ∀ j, (j < p ∨ p + 8 < j) → (hu h1 (p + 1) (io (sa 1) (upd (A 1) N (nI S)))) j = h j := fun j hj => (hu_n _ _ (by omega)).trans (hf1 j hj)
    change V X (0, 0) w (hu h1 (p + 1) (io (sa 1) (upd (A 1) N (nI S)))) _ _ _
    generalize hu h1 (p + 1) (io (sa 1) (upd (A 1) N (nI S))) = h2 at *
    refine v_aload_n C (oX7_placeOf.at 17 rfl) rfl ?_
    refine v_getf C (oX7_placeOf.at 18 rfl) fX7_20 hA2.1 rfl ?_
    refine v_aload_n C (oX7_placeOf.at 19 rfl) rfl ?_
    refine v_getf C (oX7_placeOf.at 20 rfl) fX7_7 hA2.1 rfl ?_
    refine v_iload_n C (oX7_placeOf.at 21 rfl) rfl ?_
    refine v_iast C (oX7_placeOf.at 22 rfl) hA2.a3 (by decide) rfl (by omega) ?_
    have hA3 := hA2.up 3 (by decide) (upd (A 3) N (nI dd))
    have hf3 : ∀ j, (j < p ∨ p + 8 < j) → (hu h2 (p + 3) (io (sa 3) (upd (A 3) N (nI dd)))) j = h j := fun j hj => (hu_n _ _ (by omega)).trans (hf2 j hj)
    change V X (0, 0) w (hu h2 (p + 3) (io (sa 3) (upd (A 3) N (nI dd)))) _ _ _
    generalize hu h2 (p + 3) (io (sa 3) (upd (A 3) N (nI dd))) = h3 at *
    refine v_aload_n C (oX7_placeOf.at 23 rfl) rfl ?_
    refine v_getf C (oX7_placeOf.at 24 rfl) fX7_23 hA3.1 rfl ?_
    refine v_aload_n C (oX7_placeOf.at 25 rfl) rfl ?_
    refine v_getf C (oX7_placeOf.at 26 rfl) fX7_7 hA3.1 rfl ?_
    refine v_iload_n C (oX7_placeOf.at 27 rfl) rfl ?_
    refine v_iast C (oX7_placeOf.at 28 rfl) hA3.a4 (by decide) rfl (by omega) ?_
    have hA4 := hA3.up 4 (by decide) (upd (A 4) N (nI ww))
    have hf4 : ∀ j, (j < p ∨ p + 8 < j) → (hu h3 (p + 4) (io (sa 4) (upd (A 4) N (nI ww)))) j = h j := fun j hj => (hu_n _ _ (by omega)).trans (hf3 j hj)
    change V X (0, 0) w (hu h3 (p + 4) (io (sa 4) (upd (A 4) N (nI ww)))) _ _ _
    generalize hu h3 (p + 4) (io (sa 4) (upd (A 4) N (nI ww))) = h4 at *
    refine v_aload_n C (oX7_placeOf.at 29 rfl) rfl ?_
    refine v_dup C (oX7_placeOf.at 30 rfl) rfl ?_
    refine v_getf C (oX7_placeOf.at 31 rfl) fX7_7 hA4.1 rfl ?_
    refine v_iconst C (oX7_placeOf.at 32 rfl) (v := nI 1) rfl ?_
    refine v_iaddN C (oX7_placeOf.at 33 rfl) ?_
    refine v_putI C (oX7_placeOf.at 34 rfl) fX7_7 p7_0 hA4.1 rfl ?_
    have hA5 := hA4.fnd (fnd' := N + 1)
    change V X (0, 0) w (hu h4 p (SO p (N + 1))) _ _ _
    have hv : (upW (upW (upW (upW A 2 (upd (A 2) S (nI N))) 1 (upd (A 1) N (nI S))) 3 (upd (A 3) N (nI dd))) 4 (upd (A 4) N (nI ww))) 2 S = nI N := by
      show upd (A 2) S (nI N) S = nI N
      exact pk_us
    refine v_aload_n C (oX7_placeOf.at 35 rfl) rfl ?_
    refine v_getf C (oX7_placeOf.at 36 rfl) fX7_17 hA5.1 rfl ?_
    refine v_iload_n C (oX7_placeOf.at 37 rfl) rfl ?_
    refine v_iald C (oX7_placeOf.at 38 rfl) hA5.a2 (by decide) rfl (by omega) hv ?_
    exact v_iret C (oX7_placeOf.at 39 rfl) rfl rfl ⟨Nat.le_refl _, Nat.le_refl _⟩ ⟨rfl, hA5, fun j hj => (hu_n _ _ (by omega)).trans (hf4 j hj)⟩
/-- what the automaton's rows hold when t steps of the search are done -/
def SInv (k n : Nat) (T : Nat → Nat) (t : Nat) (A : Nat → Nat → Int32) : Prop :=
  (∀ j, j < (bfs k n T t).1 → A 1 j = nI ((bfs k n T t).2.1 j) ∧ A 3 j = nI (bdp (bfs k n T t) j) ∧ A 4 j = nI (bwr k (bfs k n T t) j) ∧ A 2 ((bfs k n T t).2.1 j) = nI j) ∧
  (∀ s, s < 512 → (∀ j, j < (bfs k n T t).1 → (bfs k n T t).2.1 j ≠ s) → A 2 s = -1) ∧
  (∀ t', t' < t → ∃ j, j < (bfs k n T t).1 ∧ A 5 t' = nI j ∧ (bfs k n T t).2.1 j = suc k n T ((bfs k n T t).2.1 (t' / k)) (t' % k)) ∧
  ∀ v c, v < n → c < k → A 6 (v * k + c) = nI (sgl k n T v c)
theorem k_explore {w : Wt} {h : Hp} {p r k wd fnd e : Nat} {T : Nat → Nat} {A : Nat → Nat → Int32} (hR : RuleOK h r k wd T) (hs : SZ k wd) (hA : SaOK h p fnd A) (hsep : r + 5 < p) (he : Bend k (k ^ (wd - 1)) T e) : ConN mX7_explore 2 (0, 0) w [.ref p, .ref r] h (.inl none) (fun h' => (∃ A', SaOK h' p e A' ∧ SInv k (k ^ (wd - 1)) T (e * k) A') ∧ ∀ j, (j < p ∨ p + 8 < j) → h' j = h j) := by
  have hr := hR.ro
  have hk := hs.k
  have hn9 := hs.n
  have hn0 := hs.n0
  have hb5 : ∀ t, (bfs k (k ^ (wd - 1)) T t).1 ≤ 512 := bfs_le hn0 hn9
  have h512 := pow_le9 hn9
  generalize hnn : k ^ (wd - 1) = n at *
  have he5 : e ≤ 512 := by rw [← he.1]; exact hb5 _
  refine conI (by decide +kernel) ⟨fun _ => rfl, rfl, by simp⟩ (fun X C => ?_)
  change V X (0, 0) w h 0 [some (.ref p), some (.ref r), none, none, none] []
  refine v_aload_n C (oX7_explore.at 0 rfl) rfl ?_
  refine v_aload_n C (oX7_explore.at 1 rfl) rfl ?_
  refine v_callV C (oX7_explore.at 2 rfl) cX7_40 hA.1 (k_readSingle hR hs hA hsep) rfl rfl rfl ⟨rfl, rfl⟩ rfl rfl (fun _ => rfl) (fun h' hp => ?_)
  dsimp only [Option.toList, List.cons_append, List.nil_append]
  obtain ⟨g, hh, hg⟩ := hp
  rw [hh]
  clear hh h'
  have hA1 := hA.up 6 (by decide) g
  have hf1 : ∀ j, (j < p ∨ p + 8 < j) → (hu h (p + 6) (io (sa 6) g)) j = h j := fun j hj => hu_n _ _ (by omega)
  change V X (0, 0) w (hu h (p + 6) (io (sa 6) g)) _ _ _
  generalize hu h (p + 6) (io (sa 6) g) = h1 at *
  refine v_aload_n C (oX7_explore.at 3 rfl) rfl ?_
  refine v_getf C (oX7_explore.at 4 rfl) fX7_17 hA1.1 rfl ?_
  refine v_iconst C (oX7_explore.at 5 rfl) (v := -1) rfl ?_
  refine v_callS C (oX7_explore.at 6 rfl) cX7_44 (k_fill hA1.a2 (by decide)) rfl rfl rfl ⟨rfl, rfl⟩ rfl rfl (fun _ => rfl) (fun h' hp => ?_)
  rw [show h' = _ from hp]
  dsimp only [Option.toList, List.cons_append, List.nil_append]
  have hA2 := hA1.up 2 (by decide) (mix (upW A 6 g 2) (fun _ => (-1 : Int32)) 512)
  have hf2 : ∀ j, (j < p ∨ p + 8 < j) → (hu h1 (p + 2) (io (sa 2) (mix (upW A 6 g 2) (fun _ => (-1 : Int32)) 512))) j = h j := fun j hj => (hu_n _ _ (by omega)).trans (hf1 j hj)
  change V X (0, 0) w (hu h1 (p + 2) (io (sa 2) (mix (upW A 6 g 2) (fun _ => (-1 : Int32)) 512))) _ _ _
  generalize hu h1 (p + 2) (io (sa 2) (mix (upW A 6 g 2) (fun _ => (-1 : Int32)) 512)) = h2 at *
  refine v_aload_n C (oX7_explore.at 7 rfl) rfl ?_
  refine v_iconst C (oX7_explore.at 8 rfl) (v := nI 0) rfl ?_
  refine v_putI C (oX7_explore.at 9 rfl) fX7_7 p7_0 hA2.1 rfl ?_
  have hA3 := hA2.fnd (fnd' := 0)
  have hf3 : ∀ j, (j < p ∨ p + 8 < j) → (hu h2 p (SO p 0)) j = h j := fun j hj => (hu_n _ _ (by omega)).trans (hf2 j hj)
  change V X (0, 0) w (hu h2 p (SO p 0)) _ _ _
  generalize hu h2 p (SO p 0) = h3 at *
  have hr3 : h3 r = RO r k wd n (k ^ wd) := (hf3 r (by omega)).trans hr
  have h1p : 1 ≤ 1 * 2 ^ n := by rw [Nat.one_mul]; exact Nat.pow_pos (by decide)
  have h1q : 1 * 2 ^ n ≤ 512 := by rw [Nat.one_mul]; exact h512
  have hm1 : (upW (upW A 6 g) 2 (mix (upW A 6 g 2) (fun _ => (-1 : Int32)) 512)) 2 (1 * 2 ^ n - 1) = -1 := by
    show mix (upW A 6 g 2) (fun _ => (-1 : Int32)) 512 (1 * 2 ^ n - 1) = -1
    exact mix_lt (by omega)
  refine v_aload_n C (oX7_explore.at 10 rfl) rfl ?_
  refine v_iconst C (oX7_explore.at 11 rfl) (v := nI 1) rfl ?_
  refine v_aload_n C (oX7_explore.at 12 rfl) rfl ?_
  refine v_getf C (oX7_explore.at 13 rfl) fX7_50 hr3 rfl ?_
  refine v_ishlN C (oX7_explore.at 14 rfl) (by omega) (by omega) ?_
  refine v_iconst C (oX7_explore.at 15 rfl) (v := nI 1) rfl ?_
  refine v_isubN C (oX7_explore.at 16 rfl) (by omega) ?_
  refine v_iconst C (oX7_explore.at 17 rfl) (v := nI 0) rfl ?_
  refine v_iconst C (oX7_explore.at 18 rfl) (v := nI 0) rfl ?_
  refine v_callV C (oX7_explore.at 19 rfl) cX7_53 hA3.1 (k_placeOf2 hA3 (by omega) (by decide) hm1) rfl rfl rfl ⟨rfl, rfl⟩ rfl rfl (fun _ => rfl) (fun h' hp => ?_)
  dsimp only [Option.toList, List.cons_append, List.nil_append]
  obtain ⟨hA4, hf4⟩ := hp
  have hI0 : ∃ A4, SaOK h' p 1 A4 ∧ SInv k n T 0 A4 := by
    refine ⟨_, hA4, fun j hj => ?_, fun s hs5 hns => ?_, fun t' ht' => absurd ht' (by omega), fun v c hv hc => ?_⟩
    · have hj : j < 1 := hj
      have e0 : j = 0 := by omega
      subst e0
      refine ⟨?_, rfl, rfl, ?_⟩
      · show upd (A 1) 0 (nI (1 * 2 ^ n - 1)) 0 = nI (2 ^ n - 1)
        rw [pk_us, Nat.one_mul]
      · show upd _ (1 * 2 ^ n - 1) _ (2 ^ n - 1) = _
        rw [Nat.one_mul, pk_us]
    · have h9 : 2 ^ n - 1 ≠ s := hns 0 (by show 0 < 1; omega)
      show upd _ (1 * 2 ^ n - 1) _ s = -1
      rw [Nat.one_mul, pk_un (Ne.symm h9)]
      show mix (upW A 6 g 2) (fun _ => (-1 : Int32)) 512 s = -1
      exact mix_lt hs5
    · show g (v * k + c) = _
      rw [hg v c (by omega) hc, hnn]
  obtain ⟨A5, hA5, hI5⟩ := hI0
  have hf5 : ∀ j, (j < p ∨ p + 8 < j) → h' j = h j := fun j hj => (hf4 j hj).trans (hf3 j hj)
  clear hA4 hf4 hA3 hf3 hA2 hf2 hA1 hf1 hr3
  refine v_pop C (oX7_explore.at 20 rfl) rfl ?_
  refine v_iconst C (oX7_explore.at 21 rfl) (v := nI 0) rfl ?_
  refine v_istore_n C (oX7_explore.at 22 rfl) rfl ?_
  dsimp only [sto1, sto2, killL]
  suffices H : ∀ d i h1 A1 l3 l4, i + d = e → SaOK h1 p (bfs k n T (i * k)).1 A1 → SInv k n T (i * k) A1 → (∀ j, (j < p ∨ p + 8 < j) → h1 j = h j) → V X (0, 0) w h1 35 [some (.ref p), some (.ref r), some (.int (nI i)), l3, l4] [] by
    refine H e 0 h' A5 none none (by omega) ?_ ?_ hf5
    · rw [Nat.zero_mul]; exact hA5
    · rw [Nat.zero_mul]; exact hI5
  clear hI5 hA5 hf5 A5 h'
  intro d
  induction d with
  | zero =>
    intro i h1 A1 l3 l4 hi hA1 hI hf
    have e1 : i = e := by omega
    subst e1
    rw [he.1] at hA1
    refine v_iload_n C (oX7_explore.at 23 rfl) rfl ?_
    refine v_aload_n C (oX7_explore.at 24 rfl) rfl ?_
    refine v_getf C (oX7_explore.at 25 rfl) fX7_7 hA1.1 rfl ?_
    refine v_icmp_geN C (oX7_explore.at 26 rfl) (tgt := 126) (by decide) (by omega) (by omega) (fun hc => ?_) (fun hc => ?_)
    · exact v_vret C (oX7_explore.at 76 rfl) rfl rfl ⟨Nat.le_refl _, Nat.le_refl _⟩ ⟨rfl, ⟨A1, hA1, hI⟩, hf⟩
    · exact absurd hc (by omega)
  | succ d ih =>
    intro i h1 A1 l3 l4 hi hA1 hI hf
    have hb := hb5 (i * k)
    have hie := he.2 i (by omega)
    refine v_iload_n C (oX7_explore.at 23 rfl) rfl ?_
    refine v_aload_n C (oX7_explore.at 24 rfl) rfl ?_
    refine v_getf C (oX7_explore.at 25 rfl) fX7_7 hA1.1 rfl ?_
    refine v_icmp_geN C (oX7_explore.at 26 rfl) (tgt := 126) (by decide) (by omega) (by omega) (fun hc => ?_) (fun hc => ?_)
    · exact absurd hc (by omega)
    · refine v_iload_n C (oX7_explore.at 27 rfl) rfl ?_
      refine v_sipush C (oX7_explore.at 28 rfl) (v := nI 512) rfl ?_
      refine v_icmp_geN C (oX7_explore.at 29 rfl) (tgt := 126) (by decide) (by omega) (by omega) (fun hc => ?_) (fun hc => ?_)
      · exact absurd hc (by omega)
      · refine v_iconst C (oX7_explore.at 30 rfl) (v := nI 0) rfl ?_
        refine v_istore_n C (oX7_explore.at 31 rfl) rfl ?_
        dsimp only [sto1, sto2, killL]
        suffices H : ∀ d c h1 A1 l4, c + d = k → SaOK h1 p (bfs k n T (i * k + c)).1 A1 → SInv k n T (i * k + c) A1 → (∀ j, (j < p ∨ p + 8 < j) → h1 j = h j) → V X (0, 0) w h1 52 [some (.ref p), some (.ref r), some (.int (nI i)), some (.int (nI c)), l4] [] from H k 0 h1 A1 l4 (by omega) hA1 hI hf
        clear hI hA1 hf hc A1 h1
        intro d2
        induction d2 with
        | zero =>
          intro c h1 A1 l4 hcd hA1 hI hf
          have hr1 : h1 r = RO r k wd n (k ^ wd) := (hf r (by omega)).trans hr
          refine v_iload_n C (oX7_explore.at 32 rfl) rfl ?_
          refine v_aload_n C (oX7_explore.at 33 rfl) rfl ?_
          refine v_getf C (oX7_explore.at 34 rfl) fX7_57 hr1 rfl ?_
          refine v_icmp_geN C (oX7_explore.at 35 rfl) (tgt := 120) (by decide) (by omega) (by omega) (fun hc => ?_) (fun hc => ?_)
          · have e1 : c = k := by omega
            subst e1
            refine v_iincN C (oX7_explore.at 74 rfl) rfl ?_
            refine v_goto C (oX7_explore.at 75 rfl) (tgt := 35) (by decide) ?_
            dsimp only [sto1, sto2, killL]
            have ek : i * c + c = (i + 1) * c := by rw [Nat.add_mul, Nat.one_mul]
            rw [ek] at hA1 hI
            exact ih (i + 1) h1 A1 _ _ (by omega) hA1 hI hf
          · exact absurd hc (by omega)
        | succ d2 ih2 =>
          intro c h1 A1 l4 hcd hA1 hI hf
          have hr1 : h1 r = RO r k wd n (k ^ wd) := (hf r (by omega)).trans hr
          have hR1 : RuleOK h1 r k wd T := hR.eq (fun q e1 e2 => hf q (by omega))
          have hmono := bfs_mono (k := k) (n := n) (T := T) (i * k) c
          have hbt := hb5 (i * k + c)
          obtain ⟨hI1, hI2, hI3, hI4⟩ := id hI
          have hi1 := hI1 i (by omega)
          have hin := bfs_in (k := k) (T := T) hn0 (i * k + c)
          have hQi := hin.2.1 i (by omega)
          have hdv : (i * k + c) / k = i := vk_div (by omega)
          have hmd : (i * k + c) % k = c := vk_mod (by omega)
          have hik : (i + 1) * k ≤ 512 * k := Nat.mul_le_mul_right k (by omega)
          rw [Nat.add_mul, Nat.one_mul] at hik
          have hfrm := bfs_from (k := k) (n := n) (T := T) (by omega) i c (by omega) (fun i' h => he.2 i' (by omega)) (Or.inr hie)
          have hsl : suc k n T ((bfs k n T (i * k + c)).2.1 i) c < 512 := Nat.lt_of_lt_of_le (suc_lt hn0) h512
          refine v_iload_n C (oX7_explore.at 32 rfl) rfl ?_
          refine v_aload_n C (oX7_explore.at 33 rfl) rfl ?_
          refine v_getf C (oX7_explore.at 34 rfl) fX7_57 hr1 rfl ?_
          refine v_icmp_geN C (oX7_explore.at 35 rfl) (tgt := 120) (by decide) (by omega) (by omega) (fun hc => ?_) (fun hc => ?_)
          · exact absurd hc (by omega)
          · refine v_aload_n C (oX7_explore.at 36 rfl) rfl ?_
            refine v_aload_n C (oX7_explore.at 37 rfl) rfl ?_
            refine v_aload_n C (oX7_explore.at 38 rfl) rfl ?_
            refine v_getf C (oX7_explore.at 39 rfl) fX7_13 hA1.1 rfl ?_
            refine v_iload_n C (oX7_explore.at 40 rfl) rfl ?_
            refine v_iald C (oX7_explore.at 41 rfl) hA1.a1 (by decide) rfl (by omega) hi1.1 ?_
            refine v_iload_n C (oX7_explore.at 42 rfl) rfl ?_
            refine v_callV C (oX7_explore.at 43 rfl) cX7_60 hA1.1 (k_sucA hR1 hs hA1 (by omega) (by omega) (fun v c hv hc => by rw [hnn]; exact hI4 v c (by omega) hc)) rfl rfl rfl ⟨rfl, rfl⟩ rfl rfl (fun _ => rfl) (fun h' hp => ?_)
            rw [show h' = _ from hp]
            dsimp only [Option.toList, List.cons_append, List.nil_append]
            refine v_istore C (oX7_explore.at 44 rfl) rfl ?_
            refine v_aload_n C (oX7_explore.at 45 rfl) rfl ?_
            refine v_getf C (oX7_explore.at 46 rfl) fX7_28 hA1.1 rfl ?_
            refine v_iload_n C (oX7_explore.at 47 rfl) rfl ?_
            refine v_aload_n C (oX7_explore.at 48 rfl) rfl ?_
            refine v_getf C (oX7_explore.at 49 rfl) fX7_57 hr1 rfl ?_
            refine v_imulN C (oX7_explore.at 50 rfl) ?_
            refine v_iload_n C (oX7_explore.at 51 rfl) rfl ?_
            refine v_iaddN C (oX7_explore.at 52 rfl) ?_
            refine v_aload_n C (oX7_explore.at 53 rfl) rfl ?_
            refine v_iload C (oX7_explore.at 54 rfl) rfl ?_
            refine v_aload_n C (oX7_explore.at 55 rfl) rfl ?_
            refine v_getf C (oX7_explore.at 56 rfl) fX7_20 hA1.1 rfl ?_
            refine v_iload_n C (oX7_explore.at 57 rfl) rfl ?_
            refine v_iald C (oX7_explore.at 58 rfl) hA1.a3 (by decide) rfl (by omega) hi1.2.1 ?_
            refine v_iconst C (oX7_explore.at 59 rfl) (v := nI 1) rfl ?_
            refine v_iaddN C (oX7_explore.at 60 rfl) ?_
            refine v_aload_n C (oX7_explore.at 61 rfl) rfl ?_
            refine v_getf C (oX7_explore.at 62 rfl) fX7_23 hA1.1 rfl ?_
            refine v_iload_n C (oX7_explore.at 63 rfl) rfl ?_
            refine v_iald C (oX7_explore.at 64 rfl) hA1.a4 (by decide) rfl (by omega) hi1.2.2.1 ?_
            refine v_aload_n C (oX7_explore.at 65 rfl) rfl ?_
            refine v_getf C (oX7_explore.at 66 rfl) fX7_57 hr1 rfl ?_
            refine v_imulN C (oX7_explore.at 67 rfl) ?_
            refine v_iload_n C (oX7_explore.at 68 rfl) rfl ?_
            refine v_iaddN C (oX7_explore.at 69 rfl) ?_
            dsimp only [sto1, sto2, killL]
            rw [hnn]
            generalize hSS : suc k n T ((bfs k n T (i * k + c)).2.1 i) c = S at *
            have hbs : bfs k n T (i * k + c + 1) = if hasB (bfs k n T (i * k + c)).2.1 (bfs k n T (i * k + c)).1 S then bfs k n T (i * k + c) else ((bfs k n T (i * k + c)).1 + 1, updN (bfs k n T (i * k + c)).2.1 (bfs k n T (i * k + c)).1 S, updN (bfs k n T (i * k + c)).2.2.1 (bfs k n T (i * k + c)).1 i, updN (bfs k n T (i * k + c)).2.2.2 (bfs k n T (i * k + c)).1 c) := by
              rw [bfs, hdv, hmd, hSS]
            by_cases hex : ∃ j, j < (bfs k n T (i * k + c)).1 ∧ (bfs k n T (i * k + c)).2.1 j = S
            · obtain ⟨j, hj, hjS⟩ := hex
              have hbs2 : bfs k n T (i * k + c + 1) = bfs k n T (i * k + c) := by rw [hbs, if_pos (hasB_t.mpr ⟨j, hj, hjS⟩)]
              have hpl : A1 2 S = nI j := by rw [← hjS]; exact (hI1 j hj).2.2.2
              refine v_callV C (oX7_explore.at 70 rfl) cX7_53 hA1.1 (k_placeOf1 hA1 hsl hpl (by omega)) rfl rfl rfl ⟨rfl, rfl⟩ rfl rfl (fun _ => rfl) (fun h' hp => ?_)
              rw [show h' = _ from hp]
              dsimp only [Option.toList, List.cons_append, List.nil_append]
              refine v_iast C (oX7_explore.at 71 rfl) hA1.a5 (by decide) rfl (by omega) ?_
              refine v_iincN C (oX7_explore.at 72 rfl) rfl ?_
              refine v_goto C (oX7_explore.at 73 rfl) (tgt := 52) (by decide) ?_
              dsimp only [sto1, sto2, killL]
              have hA2 := hA1.up 5 (by decide) (upd (A1 5) (i * k + c) (nI j))
              refine ih2 (c + 1) _ _ _ (by omega) (by rw [← Nat.add_assoc, hbs2]; exact hA2) ?_ (fun q hq => (hu_n _ _ (by omega)).trans (hf q hq))
              rw [← Nat.add_assoc]
              unfold SInv
              rw [hbs2]
              refine ⟨fun q hq => hI1 q hq, fun s a b => hI2 s a b, fun t' ht' => ?_, fun v c hv hc => hI4 v c hv hc⟩
              by_cases e1 : t' = i * k + c
              · subst e1
                refine ⟨j, hj, ?_, ?_⟩
                · show upd _ _ _ _ = _; exact pk_us
                · rw [hdv, hmd, hSS]; exact hjS
              · obtain ⟨q, a1, a2, a3⟩ := hI3 t' (by omega)
                refine ⟨q, a1, ?_, a3⟩
                show upd _ _ _ _ = _
                rw [pk_un e1]; exact a2
            · have hno : ∀ j, j < (bfs k n T (i * k + c)).1 → (bfs k n T (i * k + c)).2.1 j ≠ S := fun j hj e => hex ⟨j, hj, e⟩
              have hbs2 : bfs k n T (i * k + c + 1) = ((bfs k n T (i * k + c)).1 + 1, updN (bfs k n T (i * k + c)).2.1 (bfs k n T (i * k + c)).1 S, updN (bfs k n T (i * k + c)).2.2.1 (bfs k n T (i * k + c)).1 i, updN (bfs k n T (i * k + c)).2.2.2 (bfs k n T (i * k + c)).1 c) := by rw [hbs, if_neg (fun hh => hex (hasB_t.mp hh))]
              have hb1 := hb5 (i * k + c + 1)
              rw [hbs2] at hb1
              have hb1 : (bfs k n T (i * k + c)).1 + 1 ≤ 512 := hb1
              have hpl : A1 2 S = -1 := hI2 S hsl hno
              refine v_callV C (oX7_explore.at 70 rfl) cX7_53 hA1.1 (k_placeOf2 hA1 hsl (by omega) hpl) rfl rfl rfl ⟨rfl, rfl⟩ rfl rfl (fun _ => rfl) (fun h' hp => ?_)
              dsimp only [Option.toList, List.cons_append, List.nil_append]
              obtain ⟨hA2, hf2⟩ := hp
              refine v_iast C (oX7_explore.at 71 rfl) hA2.a5 (by decide) rfl (by omega) ?_
              refine v_iincN C (oX7_explore.at 72 rfl) rfl ?_
              refine v_goto C (oX7_explore.at 73 rfl) (tgt := 52) (by decide) ?_
              dsimp only [sto1, sto2, killL]
              have hA3 := hA2.up 5 (by decide) (upd (A1 5) (i * k + c) (nI (bfs k n T (i * k + c)).1))
              refine ih2 (c + 1) _ _ _ (by omega) (by rw [← Nat.add_assoc, hbs2]; exact hA3) ?_ (fun q hq => (hu_n _ _ (by omega)).trans ((hf2 q hq).trans (hf q hq)))
              rw [← Nat.add_assoc]
              generalize hbb : bfs k n T (i * k + c) = b at *
              have hold : ∀ j, j < b.1 → updN b.2.1 b.1 S j = b.2.1 j := fun j hj => by unfold updN; rw [if_neg (by omega)]
              have hnew : updN b.2.1 b.1 S b.1 = S := by unfold updN; rw [if_pos rfl]
              have hfr' : ∀ q, 0 < q → q ≤ i → b.2.2.1 q < q := fun q a1 a2 => (hfrm q a1 (by omega)).1
              unfold SInv
              rw [hbs2]
              refine ⟨fun q hq => ?_, fun s a1 a2 => ?_, fun t' ht' => ?_, fun v c hv hc => hI4 v c hv hc⟩
              · have hq : q < b.1 + 1 := hq
                by_cases e1 : q = b.1
                · subst e1
                  refine ⟨?_, ?_, ?_, ?_⟩
                  · show upd _ _ _ _ = nI (updN b.2.1 b.1 S b.1)
                    rw [pk_us, hnew]
                  · show upd _ _ _ _ = nI (dpF (updN b.2.2.1 b.1 i) (511 + 1) b.1)
                    rw [pk_us, dpF, if_neg (by omega)]
                    have a3 : updN b.2.2.1 b.1 i b.1 = i := by unfold updN; rw [if_pos rfl]
                    rw [a3, dpF_congr 511 i hfr' (fun q hq => by unfold updN; rw [if_neg (by omega)])]
                    have a4 := dpF_fuel 511 i hfr' (by omega)
                    have a5 := dpF_fuel 512 i hfr' (by omega)
                    rw [a4, ← a5]
                    rfl
                  · show upd _ _ _ _ = nI (wdF k (updN b.2.2.1 b.1 i) (updN b.2.2.2 b.1 c) (511 + 1) b.1)
                    rw [pk_us, wdF, if_neg (by omega)]
                    have a3 : updN b.2.2.1 b.1 i b.1 = i := by unfold updN; rw [if_pos rfl]
                    have a4 : updN b.2.2.2 b.1 c b.1 = c := by unfold updN; rw [if_pos rfl]
                    rw [a3, a4, wdF_congr 511 i hfr' (fun q hq => by unfold updN; rw [if_neg (by omega), if_neg (by omega)]; exact ⟨rfl, rfl⟩), wdF_fuel 511 512 i hfr' (by omega) (by omega)]
                    rfl
                  · show upd _ _ _ (updN b.2.1 b.1 S b.1) = _
                    rw [hnew, pk_us]
                · have hq2 : q < b.1 := by omega
                  obtain ⟨c1, c2, c3, c4⟩ := hI1 q hq2
                  have hfq : ∀ i', 0 < i' → i' ≤ q → b.2.2.1 i' < i' := fun i' a1 a2 => (hfrm i' a1 (by omega)).1
                  refine ⟨?_, ?_, ?_, ?_⟩
                  · show upd _ _ _ _ = nI (updN b.2.1 b.1 S q)
                    rw [pk_un e1, hold q hq2]; exact c1
                  · show upd _ _ _ _ = nI (dpF (updN b.2.2.1 b.1 i) 512 q)
                    rw [pk_un e1, dpF_congr 512 q hfq (fun q' hq' => by unfold updN; rw [if_neg (by omega)])]
                    exact c2
                  · show upd _ _ _ _ = nI (wdF k (updN b.2.2.1 b.1 i) (updN b.2.2.2 b.1 c) 512 q)
                    rw [pk_un e1, wdF_congr 512 q hfq (fun q' hq' => by unfold updN; rw [if_neg (by omega), if_neg (by omega)]; exact ⟨rfl, rfl⟩)]
                    exact c3
                  · show upd _ _ _ (updN b.2.1 b.1 S q) = _
                    rw [hold q hq2, pk_un (hno q hq2)]; exact c4
              · have a3 : S ≠ s := by
                  have := a2 b.1 (by show b.1 < b.1 + 1; omega)
                  rw [show (b.1 + 1, updN b.2.1 b.1 S, updN b.2.2.1 b.1 i, updN b.2.2.2 b.1 c).2.1 b.1 = S from hnew] at this
                  exact this
                show upd _ _ _ _ = -1
                rw [pk_un (Ne.symm a3)]
                refine hI2 s a1 (fun j hj => ?_)
                have := a2 j (by show j < b.1 + 1; omega)
                rw [show (b.1 + 1, updN b.2.1 b.1 S, updN b.2.2.1 b.1 i, updN b.2.2.2 b.1 c).2.1 j = b.2.1 j from hold j hj] at this
                exact this
              · by_cases e1 : t' = i * k + c
                · subst e1
                  refine ⟨b.1, by show b.1 < b.1 + 1; omega, ?_, ?_⟩
                  · show upd _ _ _ _ = _; exact pk_us
                  · show updN b.2.1 b.1 S b.1 = suc k n T (updN b.2.1 b.1 S ((i * k + c) / k)) ((i * k + c) % k)
                    rw [hdv, hmd, hnew, hold i (by omega), hSS]
                · obtain ⟨q, a1, a2, a3⟩ := hI3 t' (by omega)
                  refine ⟨q, by show q < b.1 + 1; omega, ?_, ?_⟩
                  · show upd _ _ _ _ = _
                    rw [pk_un e1]; exact a2
                  · show updN b.2.1 b.1 S q = suc k n T (updN b.2.1 b.1 S (t' / k)) (t' % k)
                    have a4 : t' / k ≤ i := by
                      have : t' / k < i + 1 := (Nat.div_lt_iff_lt_mul (by omega)).mpr (by rw [Nat.add_mul, Nat.one_mul]; omega)
                      omega
                    rw [hold q a1, hold _ (by omega)]; exact a3
end
section
/-! ===== SubsetAutomaton: orphans ===== -/
theorem k_isWithout1 {w : Wt} {h : Hp} {p N : Nat} {A : Nat → Nat → Int32} (hA : SaOK h p N A) (h2 : A 2 0 = -1) : ConN mX7_isWithoutOrphans 0 (0, 0) w [.ref p] h (.inl (some (.int (bI true)))) (fun h' => h' = h) := by
  refine conI (by decide +kernel) ⟨fun _ => rfl, rfl, by simp⟩ (fun X C => ?_)
  change V X (0, 0) w h 0 [some (.ref p)] []
  refine v_aload_n C (oX7_isWithoutOrphans.at 0 rfl) rfl ?_
  refine v_getf C (oX7_isWithoutOrphans.at 1 rfl) fX7_17 hA.1 rfl ?_
  refine v_iconst C (oX7_isWithoutOrphans.at 2 rfl) (v := nI 0) rfl ?_
  refine v_iald C (oX7_isWithoutOrphans.at 3 rfl) hA.a2 (by decide) rfl (by omega) h2 ?_
  refine v_if_ge C (oX7_isWithoutOrphans.at 4 rfl) (tgt := 13) (by decide) (fun hc => ?_) (fun hc => ?_)
  · exact absurd hc (by decide)
  · refine v_iconst C (oX7_isWithoutOrphans.at 5 rfl) (v := nI 1) rfl ?_
    refine v_goto C (oX7_isWithoutOrphans.at 6 rfl) (tgt := 14) (by decide) ?_
    exact v_zret1 C (oX7_isWithoutOrphans.at 8 rfl) rfl rfl ⟨Nat.le_refl _, Nat.le_refl _⟩ ⟨rfl, rfl⟩
theorem k_isWithout0 {w : Wt} {h : Hp} {p N j : Nat} {A : Nat → Nat → Int32} (hA : SaOK h p N A) (h2 : A 2 0 = nI j) (hj : j < 2 ^ 31) : ConN mX7_isWithoutOrphans 0 (0, 0) w [.ref p] h (.inl (some (.int (bI false)))) (fun h' => h' = h) := by
  refine conI (by decide +kernel) ⟨fun _ => rfl, rfl, by simp⟩ (fun X C => ?_)
  change V X (0, 0) w h 0 [some (.ref p)] []
  refine v_aload_n C (oX7_isWithoutOrphans.at 0 rfl) rfl ?_
  refine v_getf C (oX7_isWithoutOrphans.at 1 rfl) fX7_17 hA.1 rfl ?_
  refine v_iconst C (oX7_isWithoutOrphans.at 2 rfl) (v := nI 0) rfl ?_
  refine v_iald C (oX7_isWithoutOrphans.at 3 rfl) hA.a2 (by decide) rfl (by omega) h2 ?_
  refine v_if_geN C (oX7_isWithoutOrphans.at 4 rfl) (tgt := 13) (by decide) (by omega) ?_
  refine v_iconst C (oX7_isWithoutOrphans.at 7 rfl) (v := nI 0) rfl ?_
  exact v_zret0 C (oX7_isWithoutOrphans.at 8 rfl) rfl rfl ⟨Nat.le_refl _, Nat.le_refl _⟩ ⟨rfl, rfl⟩
theorem k_orphanLength {w : Wt} {h : Hp} {p N j x : Nat} {A : Nat → Nat → Int32} (hA : SaOK h p N A) (h2 : A 2 0 = nI j) (hj : j < 512) (h3 : A 3 j = nI x) : ConN mX7_orphanLength 0 (0, 0) w [.ref p] h (.inl (some (.int (nI x)))) (fun h' => h' = h) := by
  refine conI (by decide +kernel) ⟨fun _ => rfl, rfl, by simp⟩ (fun X C => ?_)
  change V X (0, 0) w h 0 [some (.ref p)] []
  refine v_aload_n C (oX7_orphanLength.at 0 rfl) rfl ?_
  refine v_getf C (oX7_orphanLength.at 1 rfl) fX7_17 hA.1 rfl ?_
  refine v_iconst C (oX7_orphanLength.at 2 rfl) (v := nI 0) rfl ?_
  refine v_iald C (oX7_orphanLength.at 3 rfl) hA.a2 (by decide) rfl (by omega) h2 ?_
  refine v_if_geN C (oX7_orphanLength.at 4 rfl) (tgt := 13) (by decide) (by omega) ?_
  refine v_aload_n C (oX7_orphanLength.at 7 rfl) rfl ?_
  refine v_getf C (oX7_orphanLength.at 8 rfl) fX7_20 hA.1 rfl ?_
  refine v_aload_n C (oX7_orphanLength.at 9 rfl) rfl ?_
  refine v_getf C (oX7_orphanLength.at 10 rfl) fX7_17 hA.1 rfl ?_
  refine v_iconst C (oX7_orphanLength.at 11 rfl) (v := nI 0) rfl ?_
  refine v_iald C (oX7_orphanLength.at 12 rfl) hA.a2 (by decide) rfl (by omega) h2 ?_
  refine v_iald C (oX7_orphanLength.at 13 rfl) hA.a3 (by decide) rfl (by omega) h3 ?_
  exact v_iret C (oX7_orphanLength.at 14 rfl) rfl rfl ⟨Nat.le_refl _, Nat.le_refl _⟩ ⟨rfl, rfl⟩
theorem k_orphanIndex {w : Wt} {h : Hp} {p N j x : Nat} {A : Nat → Nat → Int32} (hA : SaOK h p N A) (h2 : A 2 0 = nI j) (hj : j < 512) (h3 : A 4 j = nI x) : ConN mX7_orphanIndex 0 (0, 0) w [.ref p] h (.inl (some (.int (nI x)))) (fun h' => h' = h) := by
  refine conI (by decide +kernel) ⟨fun _ => rfl, rfl, by simp⟩ (fun X C => ?_)
  change V X (0, 0) w h 0 [some (.ref p)] []
  refine v_aload_n C (oX7_orphanIndex.at 0 rfl) rfl ?_
  refine v_getf C (oX7_orphanIndex.at 1 rfl) fX7_17 hA.1 rfl ?_
  refine v_iconst C (oX7_orphanIndex.at 2 rfl) (v := nI 0) rfl ?_
  refine v_iald C (oX7_orphanIndex.at 3 rfl) hA.a2 (by decide) rfl (by omega) h2 ?_
  refine v_if_geN C (oX7_orphanIndex.at 4 rfl) (tgt := 13) (by decide) (by omega) ?_
  refine v_aload_n C (oX7_orphanIndex.at 7 rfl) rfl ?_
  refine v_getf C (oX7_orphanIndex.at 8 rfl) fX7_23 hA.1 rfl ?_
  refine v_aload_n C (oX7_orphanIndex.at 9 rfl) rfl ?_
  refine v_getf C (oX7_orphanIndex.at 10 rfl) fX7_17 hA.1 rfl ?_
  refine v_iconst C (oX7_orphanIndex.at 11 rfl) (v := nI 0) rfl ?_
  refine v_iald C (oX7_orphanIndex.at 12 rfl) hA.a2 (by decide) rfl (by omega) h2 ?_
  refine v_iald C (oX7_orphanIndex.at 13 rfl) hA.a4 (by decide) rfl (by omega) h3 ?_
  exact v_iret C (oX7_orphanIndex.at 14 rfl) rfl rfl ⟨Nat.le_refl _, Nat.le_refl _⟩ ⟨rfl, rfl⟩
def acN (k : Nat) (nx F : Nat → Nat) : Nat → Nat → Nat
  | 0, _ => 0
  | t + 1, u => acN k nx F t u + (if nx t = u then F (t / k) else 0)
theorem acN_skip {k : Nat} {nx F : Nat → Nat} {i u : Nat} (hF : nI (F i) = 0) : ∀ s, s ≤ k → nI (acN k nx F (i * k + s) u) = nI (acN k nx F (i * k) u)
  | 0, _ => rfl
  | s + 1, h => by
    rw [← Nat.add_assoc, acN, ← nI_add, acN_skip hF s (by omega), vk_div (by omega)]
    split
    · rw [hF]; exact Int32.add_zero _
    · rw [nI_0]; exact Int32.add_zero _
def cI (k e : Nat) (nx : Nat → Nat) : Nat → Nat → Nat
  | 0, u => baT 0 u
  | i + 1, u => acN k nx (cI k e nx i) (e * k) u
theorem k_countNext {w : Wt} {h : Hp} {p r k wd e : Nat} {T nx F : Nat → Nat} {A : Nat → Nat → Int32} (hR : RuleOK h r k wd T) (hs : SZ k wd) (hA : SaOK h p e A) (hsep : r + 5 < p) (he : e ≤ 512) (hnx : ∀ t, t < e * k → A 5 t = nI (nx t) ∧ nx t < e) (hF : ∀ u, u < e → A 7 u = nI (F u)) : ConN mX7_countNext 2 (0, 0) w [.ref p, .ref r] h (.inl none) (fun h' => (∃ g8 g7, SaOK h' p e (upW (upW A 8 g8) 7 g7) ∧ ∀ u, u < e → g7 u = nI (acN k nx F (e * k) u)) ∧ ∀ j, (j < p ∨ p + 8 < j) → h' j = h j) := by
  have hr := hR.ro
  have hk := hs.k
  have hek : e * k ≤ 512 * 3 := Nat.mul_le_mul he (by omega)
  refine conI (by decide +kernel) ⟨fun _ => rfl, rfl, by simp⟩ (fun X C => ?_)
  change V X (0, 0) w h 0 [some (.ref p), some (.ref r), none, none] []
  refine v_aload_n C (oX7_countNext.at 0 rfl) rfl ?_
  refine v_getf C (oX7_countNext.at 1 rfl) fX7_37 hA.1 rfl ?_
  refine v_iconst C (oX7_countNext.at 2 rfl) (v := nI 0) rfl ?_
  refine v_aload_n C (oX7_countNext.at 3 rfl) rfl ?_
  refine v_getf C (oX7_countNext.at 4 rfl) fX7_7 hA.1 rfl ?_
  refine v_iconst C (oX7_countNext.at 5 rfl) (v := nI 0) rfl ?_
  refine v_callS C (oX7_countNext.at 6 rfl) cX7_77 (k_fill4 (a := 0) hA.a8 (by decide) (Nat.zero_le _) he) rfl rfl rfl ⟨rfl, rfl⟩ rfl rfl (fun _ => rfl) (fun h' hp => ?_)
  rw [show h' = _ from hp]
  dsimp only [Option.toList, List.cons_append, List.nil_append]
  refine v_iconst C (oX7_countNext.at 7 rfl) (v := nI 0) rfl ?_
  refine v_istore_n C (oX7_countNext.at 8 rfl) rfl ?_
  dsimp only [sto1, sto2, killL]
  suffices H : ∀ d i g l3, i + d = e → (∀ u, u < e → g u = nI (acN k nx F (i * k) u)) → V X (0, 0) w (hu h (p + 8) (io 512 g)) 15 [some (.ref p), some (.ref r), some (.int (nI i)), l3] [] by
    refine H e 0 _ none (by omega) (fun u hu => ?_)
    unfold fil
    rw [if_pos (by omega), Nat.zero_mul, acN]
  intro d
  induction d with
  | zero =>
    intro i g l3 hi hg
    have e1 : i = e := by omega
    subst e1
    have hA1 : SaOK (hu h (p + 8) (io 512 g)) p i (upW A 8 g) := hA.up 8 (by decide) g
    refine v_iload_n C (oX7_countNext.at 9 rfl) rfl ?_
    refine v_aload_n C (oX7_countNext.at 10 rfl) rfl ?_
    refine v_getf C (oX7_countNext.at 11 rfl) fX7_7 hA1.1 rfl ?_
    refine v_icmp_geN C (oX7_countNext.at 12 rfl) (tgt := 81) (by decide) (by omega) (by omega) (fun hc => ?_) (fun hc => ?_)
    · refine v_aload_n C (oX7_countNext.at 47 rfl) rfl ?_
      refine v_getf C (oX7_countNext.at 48 rfl) fX7_37 hA1.1 rfl ?_
      refine v_iconst C (oX7_countNext.at 49 rfl) (v := nI 0) rfl ?_
      refine v_aload_n C (oX7_countNext.at 50 rfl) rfl ?_
      refine v_getf C (oX7_countNext.at 51 rfl) fX7_34 hA1.1 rfl ?_
      refine v_iconst C (oX7_countNext.at 52 rfl) (v := nI 0) rfl ?_
      refine v_aload_n C (oX7_countNext.at 53 rfl) rfl ?_
      refine v_getf C (oX7_countNext.at 54 rfl) fX7_7 hA1.1 rfl ?_
      refine v_acopy C (oX7_countNext.at 55 rfl) (tj6 42 (by rfl) rfl) hA1.a8 hA1.a7 he he (by omega) rfl rfl ?_
      rw [cpy_mix]
      have hA2 := hA1.up 7 (by decide) (mix (upW A 8 g 7) (upW A 8 g 8) i)
      refine v_vret C (oX7_countNext.at 56 rfl) rfl rfl ⟨Nat.le_refl _, Nat.le_refl _⟩ ⟨rfl, ⟨g, _, hA2, fun u hu => ?_⟩, fun j hj => ?_⟩
      · rw [mix_lt hu]; exact hg u hu
      · rw [hu_n _ _ (by omega), hu_n _ _ (by omega)]
    · exact absurd hc (by omega)
  | succ d ih =>
    intro i g l3 hi hg
    have hA1 : SaOK (hu h (p + 8) (io 512 g)) p e (upW A 8 g) := hA.up 8 (by decide) g
    have hik : (i + 1) * k ≤ e * k := Nat.mul_le_mul_right k (by omega)
    rw [Nat.add_mul, Nat.one_mul] at hik
    refine v_iload_n C (oX7_countNext.at 9 rfl) rfl ?_
    refine v_aload_n C (oX7_countNext.at 10 rfl) rfl ?_
    refine v_getf C (oX7_countNext.at 11 rfl) fX7_7 hA1.1 rfl ?_
    refine v_icmp_geN C (oX7_countNext.at 12 rfl) (tgt := 81) (by decide) (by omega) (by omega) (fun hc => ?_) (fun hc => ?_)
    · exact absurd hc (by omega)
    · refine v_aload_n C (oX7_countNext.at 13 rfl) rfl ?_
      refine v_getf C (oX7_countNext.at 14 rfl) fX7_34 hA1.1 rfl ?_
      refine v_iload_n C (oX7_countNext.at 15 rfl) rfl ?_
      refine v_iald C (oX7_countNext.at 16 rfl) hA1.a7 (by decide) rfl (by omega) (hF i (by omega)) ?_
      refine v_if_eq C (oX7_countNext.at 17 rfl) (tgt := 75) (by decide) (fun hc => ?_) (fun hc => ?_)
      · refine v_iincN C (oX7_countNext.at 45 rfl) rfl ?_
        refine v_goto C (oX7_countNext.at 46 rfl) (tgt := 15) (by decide) ?_
        dsimp only [sto1, sto2, killL]
        refine ih (i + 1) g _ (by omega) (fun u hu => ?_)
        rw [Nat.add_mul, Nat.one_mul, acN_skip hc k (Nat.le_refl _)]
        exact hg u hu
      · refine v_iconst C (oX7_countNext.at 18 rfl) (v := nI 0) rfl ?_
        refine v_istore_n C (oX7_countNext.at 19 rfl) rfl ?_
        dsimp only [sto1, sto2, killL]
        suffices H : ∀ d s g, s + d = k → (∀ u, u < e → g u = nI (acN k nx F (i * k + s) u)) → V X (0, 0) w (hu h (p + 8) (io 512 g)) 34 [some (.ref p), some (.ref r), some (.int (nI i)), some (.int (nI s))] [] from H k 0 g (by omega) hg
        intro d2
        induction d2 with
        | zero =>
          intro s g hsd hg
          refine v_iload_n C (oX7_countNext.at 20 rfl) rfl ?_
          refine v_aload_n C (oX7_countNext.at 21 rfl) rfl ?_
          refine v_getf C (oX7_countNext.at 22 rfl) fX7_57 ((hu_n _ _ (by omega)).trans hr) rfl ?_
          refine v_icmp_geN C (oX7_countNext.at 23 rfl) (tgt := 75) (by decide) (by omega) (by omega) (fun hc => ?_) (fun hc => ?_)
          · have e1 : s = k := by omega
            subst e1
            refine v_iincN C (oX7_countNext.at 45 rfl) rfl ?_
            refine v_goto C (oX7_countNext.at 46 rfl) (tgt := 15) (by decide) ?_
            dsimp only [sto1, sto2, killL]
            refine ih (i + 1) g _ (by omega) (fun u hu => ?_)
            rw [Nat.add_mul, Nat.one_mul]
            exact hg u hu
          · exact absurd hc (by omega)
        | succ d2 ih2 =>
          intro s g hsd hg
          have hA1 : SaOK (hu h (p + 8) (io 512 g)) p e (upW A 8 g) := hA.up 8 (by decide) g
          have hn := hnx (i * k + s) (by omega)
          refine v_iload_n C (oX7_countNext.at 20 rfl) rfl ?_
          refine v_aload_n C (oX7_countNext.at 21 rfl) rfl ?_
          refine v_getf C (oX7_countNext.at 22 rfl) fX7_57 ((hu_n _ _ (by omega)).trans hr) rfl ?_
          refine v_icmp_geN C (oX7_countNext.at 23 rfl) (tgt := 75) (by decide) (by omega) (by omega) (fun hc => ?_) (fun hc => ?_)
          · exact absurd hc (by omega)
          · refine v_aload_n C (oX7_countNext.at 24 rfl) rfl ?_
            refine v_getf C (oX7_countNext.at 25 rfl) fX7_37 hA1.1 rfl ?_
            refine v_aload_n C (oX7_countNext.at 26 rfl) rfl ?_
            refine v_getf C (oX7_countNext.at 27 rfl) fX7_28 hA1.1 rfl ?_
            refine v_iload_n C (oX7_countNext.at 28 rfl) rfl ?_
            refine v_aload_n C (oX7_countNext.at 29 rfl) rfl ?_
            refine v_getf C (oX7_countNext.at 30 rfl) fX7_57 ((hu_n _ _ (by omega)).trans hr) rfl ?_
            refine v_imulN C (oX7_countNext.at 31 rfl) ?_
            refine v_iload_n C (oX7_countNext.at 32 rfl) rfl ?_
            refine v_iaddN C (oX7_countNext.at 33 rfl) ?_
            refine v_iald C (oX7_countNext.at 34 rfl) hA1.a5 (by decide) rfl (by omega) hn.1 ?_
            refine v_dup2 C (oX7_countNext.at 35 rfl) rfl rfl ?_
            refine v_iald C (oX7_countNext.at 36 rfl) (hu_s _ _ _) (by decide) rfl (by omega) (hg _ hn.2) ?_
            refine v_aload_n C (oX7_countNext.at 37 rfl) rfl ?_
            refine v_getf C (oX7_countNext.at 38 rfl) fX7_34 hA1.1 rfl ?_
            refine v_iload_n C (oX7_countNext.at 39 rfl) rfl ?_
            refine v_iald C (oX7_countNext.at 40 rfl) hA1.a7 (by decide) rfl (by omega) (hF i (by omega)) ?_
            refine v_iaddN C (oX7_countNext.at 41 rfl) ?_
            refine v_iast C (oX7_countNext.at 42 rfl) (hu_s _ _ _) (by decide) rfl (by omega) ?_
            rw [hu_hu]
            refine v_iincN C (oX7_countNext.at 43 rfl) rfl ?_
            refine v_goto C (oX7_countNext.at 44 rfl) (tgt := 34) (by decide) ?_
            dsimp only [sto1, sto2, killL]
            refine ih2 (s + 1) _ (by omega) (fun u hu => ?_)
            rw [← Nat.add_assoc, acN, vk_div (by omega)]
            by_cases e1 : u = nx (i * k + s)
            · subst e1; rw [pk_us, if_pos rfl]
            · rw [pk_un e1, hg u hu, if_neg (Ne.symm e1), Nat.add_zero]
theorem k_countOrphans0 {w : Wt} {h : Hp} {p r N : Nat} {A : Nat → Nat → Int32} {x : Int32} (hA : SaOK h p N A) (h2 : A 2 0 = -1) : ConN mX7_countOrphans 3 (0, 0) w [.ref p, .ref r, .int x] h (.inl (some (.int (nI 0)))) (fun h' => h' = h) := by
  refine conI (by decide +kernel) ⟨fun _ => rfl, rfl, by simp⟩ (fun X C => ?_)
  change V X (0, 0) w h 0 [some (.ref p), some (.ref r), some (.int x), none] []
  refine v_aload_n C (oX7_countOrphans.at 0 rfl) rfl ?_
  refine v_callV C (oX7_countOrphans.at 1 rfl) cX7_70 hA.1 (k_isWithout1 hA h2) rfl rfl rfl ⟨rfl, rfl⟩ rfl rfl (fun _ => rfl) (fun h' hp => ?_)
  rw [show h' = _ from hp]
  dsimp only [Option.toList, List.cons_append, List.nil_append]
  refine v_if_eqB C (oX7_countOrphans.at 2 rfl) (tgt := 9) (by decide) (fun hc => ?_) (fun hc => ?_)
  · cases hc
  · refine v_iconst C (oX7_countOrphans.at 3 rfl) (v := nI 0) rfl ?_
    exact v_iret C (oX7_countOrphans.at 4 rfl) rfl rfl ⟨Nat.le_refl _, Nat.le_refl _⟩ ⟨rfl, rfl⟩
theorem k_countOrphans {w : Wt} {h : Hp} {p r k wd e j0 L : Nat} {T nx : Nat → Nat} {A : Nat → Nat → Int32} (hR : RuleOK h r k wd T) (hs : SZ k wd) (hA : SaOK h p e A) (hsep : r + 5 < p) (he : e ≤ 512) (hnx : ∀ t, t < e * k → A 5 t = nI (nx t) ∧ nx t < e) (h2 : A 2 0 = nI j0) (hj0 : j0 < e) (hL : L ≤ 12) : ConN mX7_countOrphans 3 (0, 0) w [.ref p, .ref r, .int (nI L)] h (.inl (some (.int (nI (cI k e nx L j0))))) (fun h' => (∃ A', SaOK h' p e A') ∧ ∀ j, (j < p ∨ p + 8 < j) → h' j = h j) := by
  refine conI (by decide +kernel) ⟨fun _ => rfl, rfl, by simp⟩ (fun X C => ?_)
  change V X (0, 0) w h 0 [some (.ref p), some (.ref r), some (.int (nI L)), none] []
  refine v_aload_n C (oX7_countOrphans.at 0 rfl) rfl ?_
  refine v_callV C (oX7_countOrphans.at 1 rfl) cX7_70 hA.1 (k_isWithout0 hA h2 (by omega)) rfl rfl rfl ⟨rfl, rfl⟩ rfl rfl (fun _ => rfl) (fun h' hp => ?_)
  rw [show h' = _ from hp]
  dsimp only [Option.toList, List.cons_append, List.nil_append]
  refine v_if_eqB C (oX7_countOrphans.at 2 rfl) (tgt := 9) (by decide) (fun hc => ?_) (fun hc => ?_)
  · refine v_aload_n C (oX7_countOrphans.at 5 rfl) rfl ?_
    refine v_getf C (oX7_countOrphans.at 6 rfl) fX7_34 hA.1 rfl ?_
    refine v_iconst C (oX7_countOrphans.at 7 rfl) (v := nI 0) rfl ?_
    refine v_callS C (oX7_countOrphans.at 8 rfl) cX7_44 (k_fill hA.a7 (by decide)) rfl rfl rfl ⟨rfl, rfl⟩ rfl rfl (fun _ => rfl) (fun h' hp => ?_)
    rw [show h' = _ from hp]
    dsimp only [Option.toList, List.cons_append, List.nil_append]
    have hA1 : SaOK (hu h (p + 7) (io 512 (mix (A 7) (fun _ => nI 0) 512))) p e (upW A 7 (mix (A 7) (fun _ => nI 0) 512)) := hA.up 7 (by decide) _
    refine v_aload_n C (oX7_countOrphans.at 9 rfl) rfl ?_
    refine v_getf C (oX7_countOrphans.at 10 rfl) fX7_34 hA1.1 rfl ?_
    refine v_iconst C (oX7_countOrphans.at 11 rfl) (v := nI 0) rfl ?_
    refine v_iconst C (oX7_countOrphans.at 12 rfl) (v := nI 1) rfl ?_
    refine v_iast C (oX7_countOrphans.at 13 rfl) (hu_s _ _ _) (by decide) rfl (by omega) ?_
    refine v_iconst C (oX7_countOrphans.at 14 rfl) (v := nI 0) rfl ?_
    refine v_istore_n C (oX7_countOrphans.at 15 rfl) rfl ?_
    dsimp only [sto1, sto2, killL]
    rw [hu_hu]
    have hA2 : SaOK (hu h (p + 7) (io 512 (upd (mix (A 7) (fun _ => nI 0) 512) 0 (nI 1)))) p e (upW A 7 (upd (mix (A 7) (fun _ => nI 0) 512) 0 (nI 1))) := hA.up 7 (by decide) _
    suffices H : ∀ d i h1 A1, i + d = L → SaOK h1 p e A1 → (∀ j, (j < p ∨ p + 8 < j) → h1 j = h j) → A1 5 = A 5 → A1 2 = A 2 → (∀ u, u < e → A1 7 u = nI (cI k e nx i u)) → V X (0, 0) w h1 26 [some (.ref p), some (.ref r), some (.int (nI L)), some (.int (nI i))] [] by
      refine H L 0 _ _ (by omega) hA2 (fun j hj => hu_n _ _ (by omega)) rfl rfl (fun u hu => ?_)
      show upd _ _ _ _ = _
      rw [cI]
      unfold baT
      by_cases e1 : u = 0
      · subst e1; rw [pk_us, if_pos rfl]
      · rw [pk_un e1, if_neg e1, mix_lt (by omega)]
    intro d
    induction d with
    | zero =>
      intro i h1 A1 hi hA1 hf h5 h2' h7
      have e1 : i = L := by omega
      subst e1
      have hv2 : A1 2 0 = nI j0 := by rw [h2']; exact h2
      refine v_iload_n C (oX7_countOrphans.at 16 rfl) rfl ?_
      refine v_iload_n C (oX7_countOrphans.at 17 rfl) rfl ?_
      refine v_icmp_geN C (oX7_countOrphans.at 18 rfl) (tgt := 42) (by decide) (by omega) (by omega) (fun hc => ?_) (fun hc => ?_)
      · refine v_aload_n C (oX7_countOrphans.at 24 rfl) rfl ?_
        refine v_getf C (oX7_countOrphans.at 25 rfl) fX7_34 hA1.1 rfl ?_
        refine v_aload_n C (oX7_countOrphans.at 26 rfl) rfl ?_
        refine v_getf C (oX7_countOrphans.at 27 rfl) fX7_17 hA1.1 rfl ?_
        refine v_iconst C (oX7_countOrphans.at 28 rfl) (v := nI 0) rfl ?_
        refine v_iald C (oX7_countOrphans.at 29 rfl) hA1.a2 (by decide) rfl (by omega) hv2 ?_
        refine v_iald C (oX7_countOrphans.at 30 rfl) hA1.a7 (by decide) rfl (by omega) (h7 _ hj0) ?_
        exact v_iret C (oX7_countOrphans.at 31 rfl) rfl rfl ⟨Nat.le_refl _, Nat.le_refl _⟩ ⟨rfl, ⟨A1, hA1⟩, hf⟩
      · exact absurd hc (by omega)
    | succ d ih =>
      intro i h1 A1 hi hA1 hf h5 h2' h7
      have hR1 : RuleOK h1 r k wd T := hR.eq (fun q e1 e2 => hf q (by omega))
      refine v_iload_n C (oX7_countOrphans.at 16 rfl) rfl ?_
      refine v_iload_n C (oX7_countOrphans.at 17 rfl) rfl ?_
      refine v_icmp_geN C (oX7_countOrphans.at 18 rfl) (tgt := 42) (by decide) (by omega) (by omega) (fun hc => ?_) (fun hc => ?_)
      · exact absurd hc (by omega)
      · refine v_aload_n C (oX7_countOrphans.at 19 rfl) rfl ?_
        refine v_aload_n C (oX7_countOrphans.at 20 rfl) rfl ?_
        refine v_callV C (oX7_countOrphans.at 21 rfl) cX7_74 hA1.1 (k_countNext (nx := nx) (F := cI k e nx i) hR1 hs hA1 hsep he (by rw [h5]; exact hnx) h7) rfl rfl rfl ⟨rfl, rfl⟩ rfl rfl (fun _ => rfl) (fun h' hp => ?_)
        dsimp only [Option.toList, List.cons_append, List.nil_append]
        obtain ⟨⟨g8, g7, hA3, hg⟩, hf3⟩ := hp
        refine v_iincN C (oX7_countOrphans.at 22 rfl) rfl ?_
        refine v_goto C (oX7_countOrphans.at 23 rfl) (tgt := 26) (by decide) ?_
        dsimp only [sto1, sto2, killL]
        exact ih (i + 1) h' _ (by omega) hA3 (fun j hj => (hf3 j hj).trans (hf j hj)) h5 h2' hg
  · cases hc
end
section
/-! ===== NodePairs: sets of pairs as bits of a long ===== -/
theorem wb_tb (n : Nat) : (lN n).toBitVec = BitVec.ofNat 64 n := rfl
theorem wb_inj {a b : Int64} (h : a.toBitVec = b.toBitVec) : a = b := Int64.toBitVec_inj.mp h
theorem wb_tn {n : Nat} (h : n < 2 ^ 64) : (lN n).toBitVec.toNat = n := by rw [wb_tb, BitVec.toNat_ofNat, Nat.mod_eq_of_lt h]
theorem wb_c : ∀ k, k < 64 → ((nI k).toInt64 &&& 63) = lN k := by decide +kernel
theorem wb_cu : ∀ k, k < 64 → ((nI k).toInt64.toUInt64 &&& Int64.toUInt64 63) = UInt64.ofNat k := by decide +kernel
theorem wb_sm : ∀ k, k < 64 → (BitVec.ofNat 64 k).smod 64 = BitVec.ofNat 64 k := by decide +kernel
theorem wb_shr {n k : Nat} (hn : n < 2 ^ 64) (hk : k < 64) : ((lN n).toUInt64 >>> ((nI k).toInt64.toUInt64 &&& Int64.toUInt64 63)).toInt64 = lN (n / 2 ^ k) := by
  rw [wb_cu k hk]
  apply wb_inj
  apply BitVec.eq_of_toNat_eq
  show ((lN n).toUInt64 >>> UInt64.ofNat k).toNat = (BitVec.ofNat 64 _).toNat
  have h1 : (UInt64.ofNat k).toNat = k := by
    show (BitVec.ofNat 64 k).toNat = k
    rw [BitVec.toNat_ofNat, Nat.mod_eq_of_lt (by omega)]
  have h2 : (lN n).toUInt64.toNat = n := wb_tn hn
  rw [UInt64.toNat_shiftRight, h1, h2, Nat.mod_eq_of_lt hk, Nat.shiftRight_eq_div_pow, BitVec.toNat_ofNat, Nat.mod_eq_of_lt (Nat.lt_of_le_of_lt (Nat.div_le_self _ _) hn)]
theorem wb_shl (n : Nat) {k : Nat} (hk : k < 64) : lN n <<< ((nI k).toInt64 &&& 63) = lN (n * 2 ^ k) := by
  rw [wb_c k hk]
  apply wb_inj
  rw [Int64.toBitVec_shiftLeft, wb_tb, wb_tb, wb_tb, wb_sm k hk]
  apply BitVec.eq_of_toNat_eq
  rw [BitVec.shiftLeft_eq', BitVec.toNat_shiftLeft, BitVec.toNat_ofNat, BitVec.toNat_ofNat, BitVec.toNat_ofNat, Nat.mod_eq_of_lt (show k < 2 ^ 64 by omega), Nat.shiftLeft_eq, Nat.mul_mod, Nat.mod_mod, ← Nat.mul_mod]
theorem wb_and {a b : Nat} (ha : a < 2 ^ 64) (hb : b < 2 ^ 64) : lN a &&& lN b = lN (a &&& b) := by
  apply wb_inj
  rw [Int64.toBitVec_and, wb_tb, wb_tb, wb_tb]
  apply BitVec.eq_of_toNat_eq
  rw [BitVec.toNat_and, BitVec.toNat_ofNat, BitVec.toNat_ofNat, BitVec.toNat_ofNat, Nat.mod_eq_of_lt ha, Nat.mod_eq_of_lt hb, Nat.mod_eq_of_lt (Nat.and_lt_two_pow _ hb)]
theorem wb_or {a b : Nat} (ha : a < 2 ^ 64) (hb : b < 2 ^ 64) : lN a ||| lN b = lN (a ||| b) := by
  apply wb_inj
  rw [Int64.toBitVec_or, wb_tb, wb_tb, wb_tb]
  apply BitVec.eq_of_toNat_eq
  rw [BitVec.toNat_or, BitVec.toNat_ofNat, BitVec.toNat_ofNat, BitVec.toNat_ofNat, Nat.mod_eq_of_lt ha, Nat.mod_eq_of_lt hb, Nat.mod_eq_of_lt (Nat.or_lt_two_pow ha hb)]
section VLB
variable {X : CT} {μ : Mi} {tab : List ExceptionTableEntry} {d : Nat} {zR : Nat × Nat} {o : Oc} {P : Wt → Hp → Prop} {z : Nat × Nat} {w : Wt} {h : Hp} {pc : Nat} {L : List (Option Value)} {st : List Value}
theorem v_lorN (C : Cx X μ tab d zR o P) {a b : Nat} (hd : decode μ.2.1 pc = .ok (.lor, 1)) (ha : a < 2 ^ 64) (hb : b < 2 ^ 64) (k : V X z w h (pc + 1) L (.long (lN (a ||| b)) :: st)) : V X z w h pc L (.long (lN b) :: .long (lN a) :: st) := v_lor C hd (by rw [wb_or ha hb]; exact k)
theorem v_landN (C : Cx X μ tab d zR o P) {a b : Nat} (hd : decode μ.2.1 pc = .ok (.land, 1)) (ha : a < 2 ^ 64) (hb : b < 2 ^ 64) (k : V X z w h (pc + 1) L (.long (lN (a &&& b)) :: st)) : V X z w h pc L (.long (lN b) :: .long (lN a) :: st) := v_land C hd (by rw [wb_and ha hb]; exact k)
theorem v_lshlN (C : Cx X μ tab d zR o P) {a b : Nat} (hd : decode μ.2.1 pc = .ok (.lshl, 1)) (hb : b < 64) (k : V X z w h (pc + 1) L (.long (lN (a * 2 ^ b)) :: st)) : V X z w h pc L (.int (nI b) :: .long (lN a) :: st) := v_lshl C hd (by rw [wb_shl a hb]; exact k)
theorem v_lushrN (C : Cx X μ tab d zR o P) {a b : Nat} (hd : decode μ.2.1 pc = .ok (.lushr, 1)) (hb : b < 64) (ha : a < 2 ^ 64) (k : V X z w h (pc + 1) L (.long (lN (a / 2 ^ b)) :: st)) : V X z w h pc L (.int (nI b) :: .long (lN a) :: st) := v_lushr C hd (by rw [wb_shr ha hb]; exact k)
end VLB
theorem cmp_eq0 {a b : Nat} (ha : a < 2 ^ 63) (hb : b < 2 ^ 63) : (lg_cmp (lN a) (lN b) = 0) ↔ a = b := by
  unfold lg_cmp
  by_cases h1 : b < a
  · rw [if_pos ((pk_lLT hb ha).mpr h1)]; exact ⟨fun q => absurd q (by decide), fun q => absurd q (by omega)⟩
  · rw [if_neg (fun e => h1 ((pk_lLT hb ha).mp e))]
    by_cases h2 : a = b
    · rw [if_pos (by rw [h2])]; exact ⟨fun _ => h2, fun _ => rfl⟩
    · rw [if_neg (fun e => h2 ((pk_lEQ ha hb).mp e))]; exact ⟨fun q => absurd q (by decide), fun q => absurd q h2⟩
theorem cmp_bit {a j : Nat} (ha : a < 2 ^ 63) : (lg_cmp (lN (a / 2 ^ j &&& 1)) (lN 0) = 0) ↔ a.testBit j = false := by
  rw [cmp_eq0 _ (by decide), bit1]
  rw [Nat.and_one_is_mod]
  omega
/-- the place of an unordered pair -/
def plc (p q : Nat) : Nat := max p q * (max p q + 1) / 2 + min p q
theorem plc_lt : ∀ p, p < 9 → ∀ q, q < 9 → plc p q < 45 := by decide
theorem plc_diag : ∀ n, n ≤ 9 → 0 < n → plc (n - 1) (n - 1) + 1 = n * (n + 1) / 2 := by decide
theorem plc_in : ∀ n, n ≤ 9 → ∀ p, p < n → ∀ q, q < n → plc p q < n * (n + 1) / 2 := by decide
def tri (p : Nat) : Nat := p * (p + 1) / 2
theorem tri_s (p : Nat) : tri (p + 1) = tri p + p + 1 := by
  unfold tri
  rw [show (p + 1) * (p + 1 + 1) = p * (p + 1) + (p + 1) * 2 from by rw [Nat.mul_add, Nat.mul_comm (p + 1) 1, Nat.mul_comm p, Nat.mul_add (p + 1) p 1]; omega, Nat.add_mul_div_right _ _ (by decide)]
  omega
theorem plc_le {p q : Nat} (h : q ≤ p) : plc p q = tri p + q := by unfold plc tri; rw [Nat.max_eq_left h, Nat.min_eq_right h]
theorem plc_ge {p q : Nat} (h : p ≤ q) : plc p q = tri q + p := by unfold plc tri; rw [Nat.max_eq_right h, Nat.min_eq_left h]
theorem plc_cm (p q : Nat) : plc p q = plc q p := by unfold plc; rw [Nat.max_comm, Nat.min_comm]
def hiP (i : Nat) : Nat := if i < 1 then 0 else if i < 3 then 1 else if i < 6 then 2 else if i < 10 then 3 else if i < 15 then 4 else if i < 21 then 5 else if i < 28 then 6 else if i < 36 then 7 else 8
def loP (i : Nat) : Nat := i - tri (hiP i)
theorem hl_p : ∀ p, p < 9 → ∀ q, q < p + 1 → hiP (tri p + q) = p ∧ loP (tri p + q) = q := by decide +kernel
theorem hl_i : ∀ i, i < 45 → tri (hiP i) + loP i = i ∧ loP i < hiP i + 1 ∧ hiP i < 9 := by decide +kernel
theorem hl_n : ∀ n, n < 10 → ∀ i, i < tri n → hiP i < n := by decide +kernel
theorem tri_le : ∀ n, n < 10 → tri n ≤ 45 := by decide +kernel
theorem k_place {w : Wt} {h : Hp} {p q : Nat} (hp : p < 9) (hq : q < 9) : ConN mX3_placeOf 1 (0, 0) w [.int (nI p), .int (nI q)] h (.inl (some (.int (nI (plc p q))))) (fun h' => h' = h) := by
  have hm : max p q < 9 := by omega
  have hmm : max p q * (max p q + 1) ≤ 9 * 10 := Nat.mul_le_mul (by omega) (by omega)
  refine conI (by decide +kernel) ⟨fun _ => rfl, rfl, by simp⟩ (fun X C => ?_)
  change V X (0, 0) w h 0 [some (.int (nI p)), some (.int (nI q)), none] []
  refine v_iload_n C (oX3_placeOf.at 0 rfl) rfl ?_
  refine v_iload_n C (oX3_placeOf.at 1 rfl) rfl ?_
  refine v_callS C (oX3_placeOf.at 2 rfl) cX3_27 (k_max (by omega) (by omega)) rfl rfl rfl ⟨rfl, rfl⟩ rfl rfl (fun _ => rfl) (fun h' hp => ?_)
  rw [show h' = _ from hp]
  dsimp only [Option.toList, List.cons_append, List.nil_append]
  refine v_istore_n C (oX3_placeOf.at 3 rfl) rfl ?_
  refine v_iload_n C (oX3_placeOf.at 4 rfl) rfl ?_
  refine v_iload_n C (oX3_placeOf.at 5 rfl) rfl ?_
  refine v_iconst C (oX3_placeOf.at 6 rfl) (v := nI 1) rfl ?_
  refine v_iaddN C (oX3_placeOf.at 7 rfl) ?_
  refine v_imulN C (oX3_placeOf.at 8 rfl) ?_
  refine v_iconst C (oX3_placeOf.at 9 rfl) (v := nI 2) rfl ?_
  refine v_idivN C (oX3_placeOf.at 10 rfl) (by omega) (by omega) (by omega) ?_
  refine v_iload_n C (oX3_placeOf.at 11 rfl) rfl ?_
  refine v_iload_n C (oX3_placeOf.at 12 rfl) rfl ?_
  dsimp only [sto1, sto2, killL]
  refine v_callS C (oX3_placeOf.at 13 rfl) cX3_32 (k_min (by omega) (by omega)) rfl rfl rfl ⟨rfl, rfl⟩ rfl rfl (fun _ => rfl) (fun h' hp => ?_)
  rw [show h' = _ from hp]
  dsimp only [Option.toList, List.cons_append, List.nil_append]
  refine v_iaddN C (oX3_placeOf.at 14 rfl) ?_
  exact v_iret C (oX3_placeOf.at 15 rfl) rfl rfl ⟨Nat.le_refl _, Nat.le_refl _⟩ ⟨rfl, rfl⟩
/-- the pairs that a pair of nodes steps to -/
def stp (k n : Nat) (T : Nat → Nat) (a b i j : Nat) : Nat := if T (a + i) = T (b + j) then 2 ^ plc ((a + i) % n) ((b + j) % n) else 0
def stps (k n : Nat) (T : Nat → Nat) (a b : Nat) : Nat := orN (fun i => orN (stp k n T a b i) k) k
theorem stp_lt {k n : Nat} {T : Nat → Nat} {a b i j : Nat} (hn : 0 < n) (hn9 : n ≤ 9) : stp k n T a b i j < 2 ^ 45 := by
  unfold stp
  split
  · have h1 := Nat.mod_lt (a + i) hn
    have h2 := Nat.mod_lt (b + j) hn
    exact Nat.pow_lt_pow_right (by decide) (plc_lt _ (by omega) _ (by omega))
  · decide
theorem stps_lt {k n : Nat} {T : Nat → Nat} {a b : Nat} (hn : 0 < n) (hn9 : n ≤ 9) : stps k n T a b < 2 ^ 45 := orN_lt k (fun _ _ => orN_lt k (fun _ _ => stp_lt hn hn9))
theorem k_stepsFrom {w : Wt} {h : Hp} {r k wd a b : Nat} {T : Nat → Nat} (hR : RuleOK h r k wd T) (hs : SZ k wd) (ha : a + k ≤ k ^ wd) (hb : b + k ≤ k ^ wd) : ConN mX3_stepsFrom 2 (0, 0) w [.ref r, .int (nI a), .int (nI b)] h (.inl (some (.long (lN (stps k (k ^ (wd - 1)) T a b))))) (fun h' => h' = h) := by
  have hn9 := hs.n
  have hn0 := hs.n0
  have hk := hs.k
  have hm := hs.m
  obtain ⟨f, gg, e, v, t, hr, ht, hT, hg, hG, he, hE, -⟩ := id hR
  generalize hnn : k ^ (wd - 1) = n at *
  have h45 : (2 : Nat) ^ 45 = 35184372088832 := by decide
  have o1 : ∀ i, orN (fun i => orN (stp k n T a b i) k) i < 2 ^ 45 := fun i => orN_lt i (fun _ _ => orN_lt k (fun _ _ => stp_lt hn0 hn9))
  have o2 : ∀ i j, orN (stp k n T a b i) j < 2 ^ 45 := fun i j => orN_lt j (fun _ _ => stp_lt hn0 hn9)
  refine conI (by decide +kernel) ⟨fun _ => rfl, rfl, by simp⟩ (fun X C => ?_)
  change V X (0, 0) w h 0 [some (.ref r), some (.int (nI a)), some (.int (nI b)), none, none, none, none] []
  refine v_lconst C (oX3_stepsFrom.at 0 rfl) (v := lN 0) rfl ?_
  refine v_lstore_n C (oX3_stepsFrom.at 1 rfl) rfl ?_
  refine v_iload_n C (oX3_stepsFrom.at 2 rfl) rfl ?_
  refine v_istore C (oX3_stepsFrom.at 3 rfl) rfl ?_
  dsimp only [sto1, sto2, killL]
  suffices H : ∀ d i l6, i + d = k → V X (0, 0) w h 5 [some (.ref r), some (.int (nI a)), some (.int (nI b)), some (.long (lN (orN (fun i => orN (stp k n T a b i) k) i))), none, some (.int (nI (a + i))), l6] [] by
    exact H k 0 none (by omega)
  intro d
  induction d with
  | zero =>
    intro i l6 hi
    refine v_iload C (oX3_stepsFrom.at 4 rfl) rfl ?_
    refine v_iload_n C (oX3_stepsFrom.at 5 rfl) rfl ?_
    refine v_aload_n C (oX3_stepsFrom.at 6 rfl) rfl ?_
    refine v_getf C (oX3_stepsFrom.at 7 rfl) fX3_35 hr rfl ?_
    refine v_iaddN C (oX3_stepsFrom.at 8 rfl) ?_
    refine v_icmp_geN C (oX3_stepsFrom.at 9 rfl) (tgt := 81) (by decide) (by omega) (by omega) (fun hc => ?_) (fun hc => ?_)
    · have e1 : i = k := by omega
      subst e1
      refine v_lload_n C (oX3_stepsFrom.at 45 rfl) rfl ?_
      exact v_lret C (oX3_stepsFrom.at 46 rfl) rfl rfl ⟨Nat.le_refl _, Nat.le_refl _⟩ ⟨rfl, rfl⟩
    · exact absurd hc (by omega)
  | succ d ih =>
    intro i l6 hi
    refine v_iload C (oX3_stepsFrom.at 4 rfl) rfl ?_
    refine v_iload_n C (oX3_stepsFrom.at 5 rfl) rfl ?_
    refine v_aload_n C (oX3_stepsFrom.at 6 rfl) rfl ?_
    refine v_getf C (oX3_stepsFrom.at 7 rfl) fX3_35 hr rfl ?_
    refine v_iaddN C (oX3_stepsFrom.at 8 rfl) ?_
    refine v_icmp_geN C (oX3_stepsFrom.at 9 rfl) (tgt := 81) (by decide) (by omega) (by omega) (fun hc => ?_) (fun hc => ?_)
    · exact absurd hc (by omega)
    · refine v_iload_n C (oX3_stepsFrom.at 10 rfl) rfl ?_
      refine v_istore C (oX3_stepsFrom.at 11 rfl) rfl ?_
      dsimp only [sto1, sto2, killL]
      suffices H : ∀ d j, j + d = k → V X (0, 0) w h 19 [some (.ref r), some (.int (nI a)), some (.int (nI b)), some (.long (lN (orN (fun i => orN (stp k n T a b i) k) i ||| orN (stp k n T a b i) j))), none, some (.int (nI (a + i))), some (.int (nI (b + j)))] [] by
        have := H k 0 (by omega)
        rw [show orN (stp k n T a b i) 0 = 0 from rfl, Nat.or_zero] at this
        exact this
      intro d2
      induction d2 with
      | zero =>
        intro j hj
        refine v_iload C (oX3_stepsFrom.at 12 rfl) rfl ?_
        refine v_iload_n C (oX3_stepsFrom.at 13 rfl) rfl ?_
        refine v_aload_n C (oX3_stepsFrom.at 14 rfl) rfl ?_
        refine v_getf C (oX3_stepsFrom.at 15 rfl) fX3_35 hr rfl ?_
        refine v_iaddN C (oX3_stepsFrom.at 16 rfl) ?_
        refine v_icmp_geN C (oX3_stepsFrom.at 17 rfl) (tgt := 75) (by decide) (by omega) (by omega) (fun hc => ?_) (fun hc => ?_)
        · have e1 : j = k := by omega
          subst e1
          refine v_iincN C (oX3_stepsFrom.at 43 rfl) rfl ?_
          refine v_goto C (oX3_stepsFrom.at 44 rfl) (tgt := 5) (by decide) ?_
          dsimp only [sto1, sto2, killL]
          exact ih (i + 1) _ (by omega)
        · exact absurd hc (by omega)
      | succ d2 ih2 =>
        intro j hj
        have hTi := hT (a + i) (by omega)
        have hTj := hT (b + j) (by omega)
        have hGi := hG (a + i) (by omega)
        have hGj := hG (b + j) (by omega)
        have hmi : (a + i) % n < n := Nat.mod_lt _ hn0
        have hmj : (b + j) % n < n := Nat.mod_lt _ hn0
        have hpl := plc_lt ((a + i) % n) (by omega) ((b + j) % n) (by omega)
        have hpo : 2 ^ plc ((a + i) % n) ((b + j) % n) < 2 ^ 45 := Nat.pow_lt_pow_right (by decide) hpl
        have ho1 := o1 i
        have ho2 := o2 i j
        have ho3 := Nat.or_lt_two_pow ho1 ho2
        refine v_iload C (oX3_stepsFrom.at 12 rfl) rfl ?_
        refine v_iload_n C (oX3_stepsFrom.at 13 rfl) rfl ?_
        refine v_aload_n C (oX3_stepsFrom.at 14 rfl) rfl ?_
        refine v_getf C (oX3_stepsFrom.at 15 rfl) fX3_35 hr rfl ?_
        refine v_iaddN C (oX3_stepsFrom.at 16 rfl) ?_
        refine v_icmp_geN C (oX3_stepsFrom.at 17 rfl) (tgt := 75) (by decide) (by omega) (by omega) (fun hc => ?_) (fun hc => ?_)
        · exact absurd hc (by omega)
        · refine v_aload_n C (oX3_stepsFrom.at 18 rfl) rfl ?_
          refine v_getf C (oX3_stepsFrom.at 19 rfl) fX3_42 hr rfl ?_
          refine v_iload C (oX3_stepsFrom.at 20 rfl) rfl ?_
          refine v_iald C (oX3_stepsFrom.at 21 rfl) ht (by decide) rfl (by omega) hTi.1 ?_
          refine v_aload_n C (oX3_stepsFrom.at 22 rfl) rfl ?_
          refine v_getf C (oX3_stepsFrom.at 23 rfl) fX3_42 hr rfl ?_
          refine v_iload C (oX3_stepsFrom.at 24 rfl) rfl ?_
          refine v_iald C (oX3_stepsFrom.at 25 rfl) ht (by decide) rfl (by omega) hTj.1 ?_
          refine v_icmp_neN C (oX3_stepsFrom.at 26 rfl) (tgt := 69) (by decide) (by omega) (by omega) (fun hc => ?_) (fun hc => ?_)
          · refine v_iincN C (oX3_stepsFrom.at 41 rfl) rfl ?_
            refine v_goto C (oX3_stepsFrom.at 42 rfl) (tgt := 19) (by decide) ?_
            dsimp only [sto1, sto2, killL]
            have := ih2 (j + 1) (by omega)
            rw [orN, stp, if_neg hc, Nat.or_zero] at this
            exact this
          · refine v_lload_n C (oX3_stepsFrom.at 27 rfl) rfl ?_
            refine v_lconst C (oX3_stepsFrom.at 28 rfl) (v := lN 1) rfl ?_
            refine v_aload_n C (oX3_stepsFrom.at 29 rfl) rfl ?_
            refine v_getf C (oX3_stepsFrom.at 30 rfl) fX3_46 hr rfl ?_
            refine v_iload C (oX3_stepsFrom.at 31 rfl) rfl ?_
            refine v_iald C (oX3_stepsFrom.at 32 rfl) hg (by decide) rfl (by omega) hGi ?_
            refine v_aload_n C (oX3_stepsFrom.at 33 rfl) rfl ?_
            refine v_getf C (oX3_stepsFrom.at 34 rfl) fX3_46 hr rfl ?_
            refine v_iload C (oX3_stepsFrom.at 35 rfl) rfl ?_
            refine v_iald C (oX3_stepsFrom.at 36 rfl) hg (by decide) rfl (by omega) hGj ?_
            refine v_callS C (oX3_stepsFrom.at 37 rfl) cX3_23 (k_place (by omega) (by omega)) rfl rfl rfl ⟨rfl, rfl⟩ rfl rfl (fun _ => rfl) (fun h' hp => ?_)
            rw [show h' = _ from hp]
            dsimp only [Option.toList, List.cons_append, List.nil_append]
            refine v_lshlN C (oX3_stepsFrom.at 38 rfl) (by omega) ?_
            rw [Nat.one_mul]
            refine v_lorN C (oX3_stepsFrom.at 39 rfl) (by omega) (by omega) ?_
            refine v_lstore_n C (oX3_stepsFrom.at 40 rfl) rfl ?_
            refine v_iincN C (oX3_stepsFrom.at 41 rfl) rfl ?_
            refine v_goto C (oX3_stepsFrom.at 42 rfl) (tgt := 19) (by decide) ?_
            dsimp only [sto1, sto2, killL]
            have := ih2 (j + 1) (by omega)
            rw [orN, stp, if_pos (by omega), ← Nat.or_assoc] at this
            exact this
/-- the rows of the pairs before the closure, and the closure's rows -/
def pr0 (k n : Nat) (T : Nat → Nat) (i : Nat) : Nat := stps k n T (hiP i * k) (loP i * k)
def wsh (R : Nat → Nat) : Nat → Nat → Nat
  | 0 => R
  | m + 1 => fun i => if (wsh R m i).testBit m then wsh R m i ||| wsh R m m else wsh R m i
theorem wsh_lt {R : Nat → Nat} {b : Nat} (h : ∀ i, R i < 2 ^ b) : ∀ m i, wsh R m i < 2 ^ b
  | 0, i => h i
  | m + 1, i => by
    unfold wsh
    split
    · exact Nat.or_lt_two_pow (wsh_lt h m i) (wsh_lt h m m)
    · exact wsh_lt h m i
theorem wsh_s (R : Nat → Nat) (m i : Nat) : wsh R (m + 1) i = if (wsh R m i).testBit m then wsh R m i ||| wsh R m m else wsh R m i := rfl
theorem wsh_mm (R : Nat → Nat) (m : Nat) : wsh R (m + 1) m = wsh R m m := by
  show (if _ then _ else _) = _
  split
  · exact Nat.or_self _
  · rfl
abbrev NP (p : Nat) : PE := ob 3 [.ref (p + 1)]
def PrOK (h : Hp) (p : Nat) : Prop := h p = NP p ∧ ∃ g, h (p + 1) = jo 45 g
theorem k_readSteps {w : Wt} {h : Hp} {p r k wd : Nat} {T : Nat → Nat} {g0 : Nat → Int64} (hR : RuleOK h r k wd T) (hs : SZ k wd) (hp : h p = NP p) (hg0 : h (p + 1) = jo 45 g0) (hsep : r + 5 < p) : ConN mX3_readSteps 3 (0, 0) w [.ref p, .ref r] h (.inl none) (fun h' => ∃ g, h' = hu h (p + 1) (jo 45 g) ∧ ∀ i, i < tri (k ^ (wd - 1)) → g i = lN (pr0 k (k ^ (wd - 1)) T i)) := by
  have hn9 := hs.n
  have hn0 := hs.n0
  have hk := hs.k
  have hm := hs.m
  have hnk := hs.nk
  have hRR : ∀ g, RuleOK (hu h (p + 1) (jo 45 g)) r k wd T := fun g => hR.eq (fun j a b => hu_n _ _ (by omega))
  have hro := fun g => (hRR g).ro
  have hpo : ∀ g, hu h (p + 1) (jo 45 g) p = NP p := fun g => (hu_n _ _ (by omega)).trans hp
  generalize hnn : k ^ (wd - 1) = n at *
  refine conI (by decide +kernel) ⟨fun _ => rfl, rfl, by simp⟩ (fun X C => ?_)
  change V X (0, 0) w h 0 [some (.ref p), some (.ref r), none, none] []
  refine v_iconst C (oX3_readSteps.at 0 rfl) (v := nI 0) rfl ?_
  refine v_istore_n C (oX3_readSteps.at 1 rfl) rfl ?_
  dsimp only [sto1, sto2, killL]
  suffices H : ∀ d a g l3, a + d = n → (∀ i, i < tri a → g i = lN (pr0 k n T i)) → V X (0, 0) w (hu h (p + 1) (jo 45 g)) 2 [some (.ref p), some (.ref r), some (.int (nI a)), l3] [] by
    have := H n 0 g0 none (by omega) (fun i hi => absurd hi (Nat.not_lt_zero i))
    rw [hu_id h hg0] at this
    exact this
  intro d
  induction d with
  | zero =>
    intro a g l3 ha hg
    refine v_iload_n C (oX3_readSteps.at 2 rfl) rfl ?_
    refine v_aload_n C (oX3_readSteps.at 3 rfl) rfl ?_
    refine v_getf C (oX3_readSteps.at 4 rfl) fX3_17 (hro _) rfl ?_
    refine v_icmp_geN C (oX3_readSteps.at 5 rfl) (tgt := 55) (by decide) (by omega) (by omega) (fun hc => ?_) (fun hc => ?_)
    · have e1 : a = n := by omega
      subst e1
      exact v_vret C (oX3_readSteps.at 31 rfl) rfl rfl ⟨Nat.le_refl _, Nat.le_refl _⟩ ⟨rfl, g, rfl, hg⟩
    · exact absurd hc (by omega)
  | succ d ih =>
    intro a g l3 ha hg
    have hak : (a + 1) * k ≤ n * k := Nat.mul_le_mul_right k (by omega)
    rw [Nat.add_mul, Nat.one_mul] at hak
    refine v_iload_n C (oX3_readSteps.at 2 rfl) rfl ?_
    refine v_aload_n C (oX3_readSteps.at 3 rfl) rfl ?_
    refine v_getf C (oX3_readSteps.at 4 rfl) fX3_17 (hro _) rfl ?_
    refine v_icmp_geN C (oX3_readSteps.at 5 rfl) (tgt := 55) (by decide) (by omega) (by omega) (fun hc => ?_) (fun hc => ?_)
    · exact absurd hc (by omega)
    · refine v_iconst C (oX3_readSteps.at 6 rfl) (v := nI 0) rfl ?_
      refine v_istore_n C (oX3_readSteps.at 7 rfl) rfl ?_
      dsimp only [sto1, sto2, killL]
      suffices H : ∀ d b g, b + d = a + 1 → (∀ i, i < tri a + b → g i = lN (pr0 k n T i)) → V X (0, 0) w (hu h (p + 1) (jo 45 g)) 12 [some (.ref p), some (.ref r), some (.int (nI a)), some (.int (nI b))] [] by
        exact H (a + 1) 0 g (by omega) hg
      intro d2
      induction d2 with
      | zero =>
        intro b g hb hg
        refine v_iload_n C (oX3_readSteps.at 8 rfl) rfl ?_
        refine v_iload_n C (oX3_readSteps.at 9 rfl) rfl ?_
        refine v_icmp_gtN C (oX3_readSteps.at 10 rfl) (tgt := 49) (by decide) (by omega) (by omega) (fun hc => ?_) (fun hc => ?_)
        · refine v_iincN C (oX3_readSteps.at 29 rfl) rfl ?_
          refine v_goto C (oX3_readSteps.at 30 rfl) (tgt := 2) (by decide) ?_
          dsimp only [sto1, sto2, killL]
          refine ih (a + 1) g _ (by omega) (fun i hi => hg i ?_)
          rw [tri_s] at hi
          omega
        · exact absurd hc (by omega)
      | succ d2 ih2 =>
        intro b g hb hg
        have hbk : (b + 1) * k ≤ n * k := Nat.mul_le_mul_right k (by omega)
        rw [Nat.add_mul, Nat.one_mul] at hbk
        have hpl := plc_lt a (by omega) b (by omega)
        have hpe := plc_le (p := a) (q := b) (by omega)
        have hS := k_stepsFrom (w := w) (a := a * k) (b := b * k) (hRR g) hs (by omega) (by omega)
        rw [hnn] at hS
        refine v_iload_n C (oX3_readSteps.at 8 rfl) rfl ?_
        refine v_iload_n C (oX3_readSteps.at 9 rfl) rfl ?_
        refine v_icmp_gtN C (oX3_readSteps.at 10 rfl) (tgt := 49) (by decide) (by omega) (by omega) (fun hc => ?_) (fun hc => ?_)
        · exact absurd hc (by omega)
        · refine v_aload_n C (oX3_readSteps.at 11 rfl) rfl ?_
          refine v_getf C (oX3_readSteps.at 12 rfl) fX3_9 (hpo _) rfl ?_
          refine v_iload_n C (oX3_readSteps.at 13 rfl) rfl ?_
          refine v_iload_n C (oX3_readSteps.at 14 rfl) rfl ?_
          refine v_callS C (oX3_readSteps.at 15 rfl) cX3_23 (k_place (by omega) (by omega)) rfl rfl rfl ⟨rfl, rfl⟩ rfl rfl (fun _ => rfl) (fun h' hp => ?_)
          rw [show h' = _ from hp]
          dsimp only [Option.toList, List.cons_append, List.nil_append]
          refine v_aload_n C (oX3_readSteps.at 16 rfl) rfl ?_
          refine v_iload_n C (oX3_readSteps.at 17 rfl) rfl ?_
          refine v_aload_n C (oX3_readSteps.at 18 rfl) rfl ?_
          refine v_getf C (oX3_readSteps.at 19 rfl) fX3_35 (hro _) rfl ?_
          refine v_imulN C (oX3_readSteps.at 20 rfl) ?_
          refine v_iload_n C (oX3_readSteps.at 21 rfl) rfl ?_
          refine v_aload_n C (oX3_readSteps.at 22 rfl) rfl ?_
          refine v_getf C (oX3_readSteps.at 23 rfl) fX3_35 (hro _) rfl ?_
          refine v_imulN C (oX3_readSteps.at 24 rfl) ?_
          refine v_callS C (oX3_readSteps.at 25 rfl) cX3_38 (hS) rfl rfl rfl ⟨rfl, rfl⟩ rfl rfl (fun _ => rfl) (fun h' hp => ?_)
          rw [show h' = _ from hp]
          dsimp only [Option.toList, List.cons_append, List.nil_append]
          refine v_last C (oX3_readSteps.at 26 rfl) (hu_s _ _ _) (by decide) rfl (by omega) ?_
          rw [hu_hu]
          refine v_iincN C (oX3_readSteps.at 27 rfl) rfl ?_
          refine v_goto C (oX3_readSteps.at 28 rfl) (tgt := 12) (by decide) ?_
          dsimp only [sto1, sto2, killL]
          refine ih2 (b + 1) _ (by omega) (fun i hi => ?_)
          rw [hpe]
          by_cases e : i = tri a + b
          · subst e
            have hh := hl_p a (by omega) b (by omega)
            rw [pk_uLs, pr0, hh.1, hh.2]
          · rw [pk_uLn e]
            exact hg i (by omega)
/-- the closure of the pairs of a rule, and the count of ordered pairs of different nodes on cycles -/
def clo2 (k n : Nat) (T : Nat → Nat) : Nat → Nat := wsh (pr0 k n T) (tri n)
def cy1 (k n : Nat) (T : Nat → Nat) (a b : Nat) : Nat := if (clo2 k n T (tri a + b)).testBit (tri a + b) then 2 else 0
def cycN (k n : Nat) (T : Nat → Nat) : Nat := sumN (fun a => sumN (cy1 k n T a) a) n
theorem k_countOnCycles {w : Wt} {h : Hp} {p r k wd : Nat} {T : Nat → Nat} (hR : RuleOK h r k wd T) (hs : SZ k wd) (hP : PrOK h p) (hsep : r + 5 < p) : ConN mX3_countOnCycles 4 (0, 0) w [.ref p, .ref r] h (.inl (some (.int (nI (cycN k (k ^ (wd - 1)) T))))) (fun h' => ∃ g, h' = hu h (p + 1) (jo 45 g)) := by
  have hn9 := hs.n
  have hn0 := hs.n0
  have hk := hs.k
  have hm := hs.m
  have hnk := hs.nk
  obtain ⟨hp, g0, hg0⟩ := hP
  have hRR : ∀ g, RuleOK (hu h (p + 1) (jo 45 g)) r k wd T := fun g => hR.eq (fun j a b => hu_n _ _ (by omega))
  have hro := fun g => (hRR g).ro
  have hpo : ∀ g, hu h (p + 1) (jo 45 g) p = NP p := fun g => (hu_n _ _ (by omega)).trans hp
  have hro0 := hR.ro
  have hread := k_readSteps (w := w) hR hs hp hg0 hsep
  have htl := tri_le (k ^ (wd - 1)) (by omega)
  have hdg := plc_diag (k ^ (wd - 1)) (by omega) hn0
  have hpr : ∀ i, pr0 k (k ^ (wd - 1)) T i < 2 ^ 45 := fun i => stps_lt hn0 hn9
  have hwl := wsh_lt hpr
  have h45 : (2 : Nat) ^ 45 = 35184372088832 := by decide
  generalize hnn : k ^ (wd - 1) = n at *
  rw [show n * (n + 1) / 2 = tri n from rfl] at hdg
  refine conI (by decide +kernel) ⟨fun _ => rfl, rfl, by simp⟩ (fun X C => ?_)
  change V X (0, 0) w h 0 [some (.ref p), some (.ref r), none, none, none, none, none] []
  refine v_aload_n C (oX3_countOnCycles.at 0 rfl) rfl ?_
  refine v_aload_n C (oX3_countOnCycles.at 1 rfl) rfl ?_
  refine v_callV C (oX3_countOnCycles.at 2 rfl) cX3_13 hp (hread) rfl rfl rfl ⟨rfl, rfl⟩ rfl rfl (fun _ => rfl) (fun h' hp => ?_)
  dsimp only [Option.toList, List.cons_append, List.nil_append]
  obtain ⟨g, rfl, hg⟩ := hp
  refine v_aload_n C (oX3_countOnCycles.at 3 rfl) rfl ?_
  refine v_getf C (oX3_countOnCycles.at 4 rfl) fX3_17 (hro _) rfl ?_
  refine v_iconst C (oX3_countOnCycles.at 5 rfl) (v := nI 1) rfl ?_
  refine v_isubN C (oX3_countOnCycles.at 6 rfl) (by omega) ?_
  refine v_aload_n C (oX3_countOnCycles.at 7 rfl) rfl ?_
  refine v_getf C (oX3_countOnCycles.at 8 rfl) fX3_17 (hro _) rfl ?_
  refine v_iconst C (oX3_countOnCycles.at 9 rfl) (v := nI 1) rfl ?_
  refine v_isubN C (oX3_countOnCycles.at 10 rfl) (by omega) ?_
  refine v_callS C (oX3_countOnCycles.at 11 rfl) cX3_23 (k_place (by omega) (by omega)) rfl rfl rfl ⟨rfl, rfl⟩ rfl rfl (fun _ => rfl) (fun h' hp => ?_)
  rw [show h' = _ from hp]
  dsimp only [Option.toList, List.cons_append, List.nil_append]
  refine v_iconst C (oX3_countOnCycles.at 12 rfl) (v := nI 1) rfl ?_
  refine v_iaddN C (oX3_countOnCycles.at 13 rfl) ?_
  refine v_istore_n C (oX3_countOnCycles.at 14 rfl) rfl ?_
  refine v_iconst C (oX3_countOnCycles.at 15 rfl) (v := nI 0) rfl ?_
  refine v_istore_n C (oX3_countOnCycles.at 16 rfl) rfl ?_
  dsimp only [sto1, sto2, killL]
  rw [hdg]
  suffices H : ∀ d m g l4, m + d = tri n → (∀ i, i < tri n → g i = lN (wsh (pr0 k n T) m i)) → V X (0, 0) w (hu h (p + 1) (jo 45 g)) 25 [some (.ref p), some (.ref r), some (.int (nI (tri n))), some (.int (nI m)), l4, none, none] [] by
    exact H (tri n) 0 g none (by omega) hg
  clear hp hg g
  intro d
  induction d with
  | zero =>
    intro m g l4 hmd hg
    refine v_iload_n C (oX3_countOnCycles.at 17 rfl) rfl ?_
    refine v_iload_n C (oX3_countOnCycles.at 18 rfl) rfl ?_
    refine v_icmp_geN C (oX3_countOnCycles.at 19 rfl) (tgt := 83) (by decide) (by omega) (by omega) (fun hc => ?_) (fun hc => ?_)
    · have e1 : m = tri n := by omega
      subst e1
      refine v_iconst C (oX3_countOnCycles.at 51 rfl) (v := nI 0) rfl ?_
      refine v_istore_n C (oX3_countOnCycles.at 52 rfl) rfl ?_
      refine v_iconst C (oX3_countOnCycles.at 53 rfl) (v := nI 0) rfl ?_
      refine v_istore C (oX3_countOnCycles.at 54 rfl) rfl ?_
      dsimp only [sto1, sto2, killL]
      suffices H : ∀ d a l5 l6, a + d = n → V X (0, 0) w (hu h (p + 1) (jo 45 g)) 88 [some (.ref p), some (.ref r), some (.int (nI (tri n))), some (.int (nI (sumN (fun a => sumN (cy1 k n T a) a) a))), some (.int (nI a)), l5, l6] [] by
        exact H n 0 none none (by omega)
      intro d
      induction d with
      | zero =>
        intro a l5 l6 had
        refine v_iload C (oX3_countOnCycles.at 55 rfl) rfl ?_
        refine v_aload_n C (oX3_countOnCycles.at 56 rfl) rfl ?_
        refine v_getf C (oX3_countOnCycles.at 57 rfl) fX3_17 (hro _) rfl ?_
        refine v_icmp_geN C (oX3_countOnCycles.at 58 rfl) (tgt := 153) (by decide) (by omega) (by omega) (fun hc => ?_) (fun hc => ?_)
        · have e1 : a = n := by omega
          subst e1
          refine v_iload_n C (oX3_countOnCycles.at 89 rfl) rfl ?_
          exact v_iret C (oX3_countOnCycles.at 90 rfl) rfl rfl ⟨Nat.le_refl _, Nat.le_refl _⟩ ⟨rfl, g, rfl⟩
        · exact absurd hc (by omega)
      | succ d ih =>
        intro a l5 l6 had
        refine v_iload C (oX3_countOnCycles.at 55 rfl) rfl ?_
        refine v_aload_n C (oX3_countOnCycles.at 56 rfl) rfl ?_
        refine v_getf C (oX3_countOnCycles.at 57 rfl) fX3_17 (hro _) rfl ?_
        refine v_icmp_geN C (oX3_countOnCycles.at 58 rfl) (tgt := 153) (by decide) (by omega) (by omega) (fun hc => ?_) (fun hc => ?_)
        · exact absurd hc (by omega)
        · refine v_iconst C (oX3_countOnCycles.at 59 rfl) (v := nI 0) rfl ?_
          refine v_istore C (oX3_countOnCycles.at 60 rfl) rfl ?_
          dsimp only [sto1, sto2, killL]
          suffices H : ∀ d b l6, b + d = a → V X (0, 0) w (hu h (p + 1) (jo 45 g)) 100 [some (.ref p), some (.ref r), some (.int (nI (tri n))), some (.int (nI (sumN (fun a => sumN (cy1 k n T a) a) a + sumN (cy1 k n T a) b))), some (.int (nI a)), some (.int (nI b)), l6] [] by
            exact H a 0 l6 (by omega)
          intro d2
          induction d2 with
          | zero =>
            intro b l6 hbd
            refine v_iload C (oX3_countOnCycles.at 61 rfl) rfl ?_
            refine v_iload C (oX3_countOnCycles.at 62 rfl) rfl ?_
            refine v_icmp_geN C (oX3_countOnCycles.at 63 rfl) (tgt := 147) (by decide) (by omega) (by omega) (fun hc => ?_) (fun hc => ?_)
            · have e1 : b = a := by omega
              subst e1
              refine v_iincN C (oX3_countOnCycles.at 87 rfl) rfl ?_
              refine v_goto C (oX3_countOnCycles.at 88 rfl) (tgt := 88) (by decide) ?_
              dsimp only [sto1, sto2, killL]
              exact ih (b + 1) _ _ (by omega)
            · exact absurd hc (by omega)
          | succ d2 ih2 =>
            intro b l6 hbd
            have hpe := plc_le (p := a) (q := b) (by omega)
            have hpi : tri a + b < tri n := by
              have := plc_in n hn9 a (by omega) b (by omega)
              rw [hpe] at this
              exact this
            have hb45 := hwl (tri n) (tri a + b)
            have hgv := hg (tri a + b) hpi
            have hbt : wsh (pr0 k n T) (tri n) (tri a + b) / 2 ^ (tri a + b) ≤ wsh (pr0 k n T) (tri n) (tri a + b) := Nat.div_le_self _ _
            refine v_iload C (oX3_countOnCycles.at 61 rfl) rfl ?_
            refine v_iload C (oX3_countOnCycles.at 62 rfl) rfl ?_
            refine v_icmp_geN C (oX3_countOnCycles.at 63 rfl) (tgt := 147) (by decide) (by omega) (by omega) (fun hc => ?_) (fun hc => ?_)
            · exact absurd hc (by omega)
            · refine v_iload C (oX3_countOnCycles.at 64 rfl) rfl ?_
              refine v_iload C (oX3_countOnCycles.at 65 rfl) rfl ?_
              refine v_callS C (oX3_countOnCycles.at 66 rfl) cX3_23 (k_place (by omega) (by omega)) rfl rfl rfl ⟨rfl, rfl⟩ rfl rfl (fun _ => rfl) (fun h' hp => ?_)
              rw [show h' = _ from hp]
              dsimp only [Option.toList, List.cons_append, List.nil_append]
              refine v_istore C (oX3_countOnCycles.at 67 rfl) rfl ?_
              dsimp only [sto1, sto2, killL]
              rw [hpe]
              refine v_iload_n C (oX3_countOnCycles.at 68 rfl) rfl ?_
              refine v_aload_n C (oX3_countOnCycles.at 69 rfl) rfl ?_
              refine v_getf C (oX3_countOnCycles.at 70 rfl) fX3_9 (hpo _) rfl ?_
              refine v_iload C (oX3_countOnCycles.at 71 rfl) rfl ?_
              refine v_lald C (oX3_countOnCycles.at 72 rfl) (hu_s _ _ _) (by decide) rfl (by omega) hgv ?_
              refine v_iload C (oX3_countOnCycles.at 73 rfl) rfl ?_
              refine v_lushrN C (oX3_countOnCycles.at 74 rfl) (by omega) (by omega) ?_
              refine v_lconst C (oX3_countOnCycles.at 75 rfl) (v := lN 1) rfl ?_
              refine v_landN C (oX3_countOnCycles.at 76 rfl) (by omega) (by omega) ?_
              refine v_lconst C (oX3_countOnCycles.at 77 rfl) (v := lN 0) rfl ?_
              refine v_lcmp C (oX3_countOnCycles.at 78 rfl) ?_
              refine v_if_eq C (oX3_countOnCycles.at 79 rfl) (tgt := 138) (by decide) (fun hc => ?_) (fun hc => ?_)
              · have hf := (cmp_bit (by omega)).mp hc
                refine v_iconst C (oX3_countOnCycles.at 82 rfl) (v := nI 0) rfl ?_
                refine v_iaddN C (oX3_countOnCycles.at 83 rfl) ?_
                refine v_istore_n C (oX3_countOnCycles.at 84 rfl) rfl ?_
                refine v_iincN C (oX3_countOnCycles.at 85 rfl) rfl ?_
                refine v_goto C (oX3_countOnCycles.at 86 rfl) (tgt := 100) (by decide) ?_
                dsimp only [sto1, sto2, killL]
                have := ih2 (b + 1) (some (.int (nI (tri a + b)))) (by omega)
                rw [sumN, cy1, clo2, if_neg (by rw [hf]; decide)] at this
                exact this
              · have hf : (wsh (pr0 k n T) (tri n) (tri a + b)).testBit (tri a + b) = true := by
                  cases h9 : (wsh (pr0 k n T) (tri n) (tri a + b)).testBit (tri a + b)
                  · exact absurd ((cmp_bit (by omega)).mpr h9) hc
                  · rfl
                refine v_iconst C (oX3_countOnCycles.at 80 rfl) (v := nI 2) rfl ?_
                refine v_goto C (oX3_countOnCycles.at 81 rfl) (tgt := 139) (by decide) ?_
                refine v_iaddN C (oX3_countOnCycles.at 83 rfl) ?_
                refine v_istore_n C (oX3_countOnCycles.at 84 rfl) rfl ?_
                refine v_iincN C (oX3_countOnCycles.at 85 rfl) rfl ?_
                refine v_goto C (oX3_countOnCycles.at 86 rfl) (tgt := 100) (by decide) ?_
                dsimp only [sto1, sto2, killL]
                have := ih2 (b + 1) (some (.int (nI (tri a + b)))) (by omega)
                rw [sumN, cy1, clo2, if_pos hf] at this
                exact this
    · exact absurd hc (by omega)
  | succ d ih =>
    intro m g l4 hmd hg
    have hbm := hwl m m
    refine v_iload_n C (oX3_countOnCycles.at 17 rfl) rfl ?_
    refine v_iload_n C (oX3_countOnCycles.at 18 rfl) rfl ?_
    refine v_icmp_geN C (oX3_countOnCycles.at 19 rfl) (tgt := 83) (by decide) (by omega) (by omega) (fun hc => ?_) (fun hc => ?_)
    · exact absurd hc (by omega)
    · refine v_iconst C (oX3_countOnCycles.at 20 rfl) (v := nI 0) rfl ?_
      refine v_istore C (oX3_countOnCycles.at 21 rfl) rfl ?_
      dsimp only [sto1, sto2, killL]
      suffices H : ∀ d i g, i + d = tri n → (∀ j, j < tri n → g j = lN (if j < i then wsh (pr0 k n T) (m + 1) j else wsh (pr0 k n T) m j)) → V X (0, 0) w (hu h (p + 1) (jo 45 g)) 33 [some (.ref p), some (.ref r), some (.int (nI (tri n))), some (.int (nI m)), some (.int (nI i)), none, none] [] by
        exact H (tri n) 0 g (by omega) hg
      intro d2
      induction d2 with
      | zero =>
        intro i g hid hg
        refine v_iload C (oX3_countOnCycles.at 22 rfl) rfl ?_
        refine v_iload_n C (oX3_countOnCycles.at 23 rfl) rfl ?_
        refine v_icmp_geN C (oX3_countOnCycles.at 24 rfl) (tgt := 77) (by decide) (by omega) (by omega) (fun hc => ?_) (fun hc => ?_)
        · refine v_iincN C (oX3_countOnCycles.at 49 rfl) rfl ?_
          refine v_goto C (oX3_countOnCycles.at 50 rfl) (tgt := 25) (by decide) ?_
          dsimp only [sto1, sto2, killL]
          refine ih (m + 1) g _ (by omega) (fun j hj => ?_)
          rw [hg j hj, if_pos (by omega)]
        · exact absurd hc (by omega)
      | succ d2 ih2 =>
        intro i g hid hg
        have hbi := hwl m i
        have hgi := hg i (by omega)
        rw [if_neg (by omega)] at hgi
        have hgm : g m = lN (wsh (pr0 k n T) m m) := by
          rw [hg m (by omega)]
          split
          · rw [wsh_mm]
          · rfl
        have hdi : wsh (pr0 k n T) m i / 2 ^ m ≤ wsh (pr0 k n T) m i := Nat.div_le_self _ _
        refine v_iload C (oX3_countOnCycles.at 22 rfl) rfl ?_
        refine v_iload_n C (oX3_countOnCycles.at 23 rfl) rfl ?_
        refine v_icmp_geN C (oX3_countOnCycles.at 24 rfl) (tgt := 77) (by decide) (by omega) (by omega) (fun hc => ?_) (fun hc => ?_)
        · exact absurd hc (by omega)
        · refine v_aload_n C (oX3_countOnCycles.at 25 rfl) rfl ?_
          refine v_getf C (oX3_countOnCycles.at 26 rfl) fX3_9 (hpo _) rfl ?_
          refine v_iload C (oX3_countOnCycles.at 27 rfl) rfl ?_
          refine v_lald C (oX3_countOnCycles.at 28 rfl) (hu_s _ _ _) (by decide) rfl (by omega) hgi ?_
          refine v_iload_n C (oX3_countOnCycles.at 29 rfl) rfl ?_
          refine v_lushrN C (oX3_countOnCycles.at 30 rfl) (by omega) (by omega) ?_
          refine v_lconst C (oX3_countOnCycles.at 31 rfl) (v := lN 1) rfl ?_
          refine v_landN C (oX3_countOnCycles.at 32 rfl) (by omega) (by omega) ?_
          refine v_lconst C (oX3_countOnCycles.at 33 rfl) (v := lN 0) rfl ?_
          refine v_lcmp C (oX3_countOnCycles.at 34 rfl) ?_
          refine v_if_eq C (oX3_countOnCycles.at 35 rfl) (tgt := 71) (by decide) (fun hc => ?_) (fun hc => ?_)
          · have hf := (cmp_bit (by omega)).mp hc
            refine v_iincN C (oX3_countOnCycles.at 47 rfl) rfl ?_
            refine v_goto C (oX3_countOnCycles.at 48 rfl) (tgt := 33) (by decide) ?_
            dsimp only [sto1, sto2, killL]
            refine ih2 (i + 1) g (by omega) (fun j hj => ?_)
            rw [hg j hj]
            by_cases e1 : j < i
            · rw [if_pos e1, if_pos (by omega)]
            · rw [if_neg e1]
              by_cases e2 : j = i
              · subst e2
                rw [if_pos (by omega), wsh_s, if_neg (by rw [hf]; decide)]
              · rw [if_neg (by omega)]
          · have hf : (wsh (pr0 k n T) m i).testBit m = true := by
              cases h9 : (wsh (pr0 k n T) m i).testBit m
              · exact absurd ((cmp_bit (by omega)).mpr h9) hc
              · rfl
            refine v_aload_n C (oX3_countOnCycles.at 36 rfl) rfl ?_
            refine v_getf C (oX3_countOnCycles.at 37 rfl) fX3_9 (hpo _) rfl ?_
            refine v_iload C (oX3_countOnCycles.at 38 rfl) rfl ?_
            refine v_dup2 C (oX3_countOnCycles.at 39 rfl) rfl rfl ?_
            refine v_lald C (oX3_countOnCycles.at 40 rfl) (hu_s _ _ _) (by decide) rfl (by omega) hgi ?_
            refine v_aload_n C (oX3_countOnCycles.at 41 rfl) rfl ?_
            refine v_getf C (oX3_countOnCycles.at 42 rfl) fX3_9 (hpo _) rfl ?_
            refine v_iload_n C (oX3_countOnCycles.at 43 rfl) rfl ?_
            refine v_lald C (oX3_countOnCycles.at 44 rfl) (hu_s _ _ _) (by decide) rfl (by omega) hgm ?_
            refine v_lorN C (oX3_countOnCycles.at 45 rfl) (by omega) (by omega) ?_
            refine v_last C (oX3_countOnCycles.at 46 rfl) (hu_s _ _ _) (by decide) rfl (by omega) ?_
            rw [hu_hu]
            refine v_iincN C (oX3_countOnCycles.at 47 rfl) rfl ?_
            refine v_goto C (oX3_countOnCycles.at 48 rfl) (tgt := 33) (by decide) ?_
            dsimp only [sto1, sto2, killL]
            refine ih2 (i + 1) _ (by omega) (fun j hj => ?_)
            by_cases e2 : j = i
            · subst e2
              rw [pk_uLs, if_pos (by omega), wsh_s, if_pos hf]
            · rw [pk_uLn e2, hg j hj]
              by_cases e1 : j < i
              · rw [if_pos e1, if_pos (by omega)]
              · rw [if_neg e1, if_neg (by omega)]
end
section
/-! ===== InverseSearch, first half: trailing zeros, equal positions, lengthening ===== -/
section VLD
variable {X : CT} {μ : Mi} {tab : List ExceptionTableEntry} {d : Nat} {zR : Nat × Nat} {o : Oc} {P : Wt → Hp → Prop} {z : Nat × Nat} {w : Wt} {h : Hp} {pc : Nat} {L : List (Option Value)} {st : List Value}
theorem v_ldcw (C : Cx X μ tab d zR o P) {ix : Nat} {v : Int32} (hc : Cond.constant μ.1.cls ix v ∈ TSg) (hd : decode μ.2.1 pc = .ok (.ldc_w ix, 3)) (k : V X z w h (pc + 3) L (.int v :: st)) : V X z w h pc L st := by
  rcases X with ⟨p, l, e, R, s, m, args, below, meth, c, G, B, Q⟩
  intro H locs ls hW hS hl
  exact lv_ldcw C.1 C.2.1 C.2.2.2.1 (C.2.2.2.2.1 _ hc) hd (k H locs ls hW hS hl)
end VLD
theorem ntz9 : ∀ p, p < 512 → ∀ t, t < 9 → p.testBit t = true → (∀ j, j < t → p.testBit j = false) → (nI p ^^^ (-1)) &&& nI (p - 1) = nI (2 ^ t - 1) := by decide +kernel
theorem k_ntz {w : Wt} {h : Hp} {p t : Nat} (h5 : p < 512) (ht : p.testBit t = true) (hlo : ∀ j, j < t → p.testBit j = false) : ConN mJ6_numberOfTrailingZeros_0f7a4 0 (0, 0) w [.int (nI p)] h (.inl (some (.int (nI t)))) (fun h' => h' = h) := by
  have ht9 : t < 9 := by
    apply Nat.lt_of_not_le
    intro h9
    have h1 : p < 2 ^ t := Nat.lt_of_lt_of_le h5 (show 2 ^ 9 ≤ 2 ^ t from Nat.pow_le_pow_right (by decide) h9)
    rw [Nat.testBit_lt_two_pow h1] at ht
    cases ht
  have hp0 : 0 < p := by
    apply Nat.pos_of_ne_zero
    intro e
    rw [e, Nat.zero_testBit] at ht
    cases ht
  have hz := ntz9 p h5 t ht9 ht hlo
  clear ht hlo
  refine conI (by decide +kernel) ⟨fun _ => rfl, rfl, by simp⟩ (fun X C => ?_)
  change V X (0, 0) w h 0 [some (.int (nI p)), none] []
  refine v_iload_n C (oJ6_numberOfTrailingZeros_0f7a4.at 0 rfl) rfl ?_
  refine v_iconst C (oJ6_numberOfTrailingZeros_0f7a4.at 1 rfl) (v := -1) rfl ?_
  refine v_ixor C (oJ6_numberOfTrailingZeros_0f7a4.at 2 rfl) ?_
  refine v_iload_n C (oJ6_numberOfTrailingZeros_0f7a4.at 3 rfl) rfl ?_
  refine v_iconst C (oJ6_numberOfTrailingZeros_0f7a4.at 4 rfl) (v := nI 1) rfl ?_
  refine v_isubN C (oJ6_numberOfTrailingZeros_0f7a4.at 5 rfl) (by omega) ?_
  refine v_iand C (oJ6_numberOfTrailingZeros_0f7a4.at 6 rfl) ?_
  rw [hz]
  have hq : ∃ q, 2 ^ t - 1 = q ∧ ((q = 0 ∧ t = 0) ∨ (q = 1 ∧ t = 1) ∨ (q = 3 ∧ t = 2) ∨ (q = 7 ∧ t = 3) ∨ (q = 15 ∧ t = 4) ∨ (q = 31 ∧ t = 5) ∨ (q = 63 ∧ t = 6) ∨ (q = 127 ∧ t = 7) ∨ (q = 255 ∧ t = 8)) := by
    refine ⟨_, rfl, ?_⟩
    clear hz C h5 hp0
    revert ht9
    revert t
    decide
  obtain ⟨q, e, hq⟩ := hq
  rw [e]
  clear e hz ht9
  refine v_istore_n C (oJ6_numberOfTrailingZeros_0f7a4.at 7 rfl) rfl ?_
  refine v_iload_n C (oJ6_numberOfTrailingZeros_0f7a4.at 8 rfl) rfl ?_
  dsimp only [sto1, sto2, killL]
  refine v_if_gtN C (oJ6_numberOfTrailingZeros_0f7a4.at 9 rfl) (tgt := 17) (by decide) (by omega) (fun hc => ?_) (fun hc => ?_)
  · refine v_iconst C (oJ6_numberOfTrailingZeros_0f7a4.at 14 rfl) (v := nI 1) rfl ?_
    refine v_istore_n C (oJ6_numberOfTrailingZeros_0f7a4.at 15 rfl) rfl ?_
    refine v_iload_n C (oJ6_numberOfTrailingZeros_0f7a4.at 16 rfl) rfl ?_
    refine v_ldcw C (v := nI 65536) (tj6 120 (by rfl) rfl) (oJ6_numberOfTrailingZeros_0f7a4.at 17 rfl) ?_
    refine v_icmp_leN C (oJ6_numberOfTrailingZeros_0f7a4.at 18 rfl) (tgt := 34) (by decide) (by omega) (by omega) (fun hc => ?_) (fun hc => ?_)
    · refine v_iload_n C (oJ6_numberOfTrailingZeros_0f7a4.at 24 rfl) rfl ?_
      refine v_sipush C (oJ6_numberOfTrailingZeros_0f7a4.at 25 rfl) (v := nI 256) rfl ?_
      refine v_icmp_leN C (oJ6_numberOfTrailingZeros_0f7a4.at 26 rfl) (tgt := 49) (by decide) (by omega) (by omega) (fun hc => ?_) (fun hc => ?_)
      · refine v_iload_n C (oJ6_numberOfTrailingZeros_0f7a4.at 32 rfl) rfl ?_
        refine v_bipush C (oJ6_numberOfTrailingZeros_0f7a4.at 33 rfl) (v := nI 16) rfl ?_
        refine v_icmp_leN C (oJ6_numberOfTrailingZeros_0f7a4.at 34 rfl) (tgt := 62) (by decide) (by omega) (by omega) (fun hc => ?_) (fun hc => ?_)
        · refine v_iload_n C (oJ6_numberOfTrailingZeros_0f7a4.at 40 rfl) rfl ?_
          refine v_iconst C (oJ6_numberOfTrailingZeros_0f7a4.at 41 rfl) (v := nI 4) rfl ?_
          refine v_icmp_leN C (oJ6_numberOfTrailingZeros_0f7a4.at 42 rfl) (tgt := 74) (by decide) (by omega) (by omega) (fun hc => ?_) (fun hc => ?_)
          · obtain rfl : t = 1 + q / 2 ^ 1 := by omega
            refine v_iload_n C (oJ6_numberOfTrailingZeros_0f7a4.at 48 rfl) rfl ?_
            refine v_iload_n C (oJ6_numberOfTrailingZeros_0f7a4.at 49 rfl) rfl ?_
            refine v_iconst C (oJ6_numberOfTrailingZeros_0f7a4.at 50 rfl) (v := nI 1) rfl ?_
            refine v_iushrN C (oJ6_numberOfTrailingZeros_0f7a4.at 51 rfl) (by omega) (by omega) ?_
            refine v_iaddN C (oJ6_numberOfTrailingZeros_0f7a4.at 52 rfl) ?_
            exact v_iret C (oJ6_numberOfTrailingZeros_0f7a4.at 53 rfl) rfl rfl ⟨Nat.le_refl _, Nat.le_refl _⟩ ⟨rfl, rfl⟩
          · refine v_iinc C (oJ6_numberOfTrailingZeros_0f7a4.at 43 rfl) rfl rfl ?_
            refine v_iload_n C (oJ6_numberOfTrailingZeros_0f7a4.at 44 rfl) rfl ?_
            refine v_iconst C (oJ6_numberOfTrailingZeros_0f7a4.at 45 rfl) (v := nI 2) rfl ?_
            refine v_iushrN C (oJ6_numberOfTrailingZeros_0f7a4.at 46 rfl) (by omega) (by omega) ?_
            refine v_istore_n C (oJ6_numberOfTrailingZeros_0f7a4.at 47 rfl) rfl ?_
            dsimp only [sto1, sto2, killL]
            obtain rfl : t = 1 + 2 + q / 2 ^ 2 / 2 ^ 1 := by omega
            refine v_iload_n C (oJ6_numberOfTrailingZeros_0f7a4.at 48 rfl) rfl ?_
            refine v_iload_n C (oJ6_numberOfTrailingZeros_0f7a4.at 49 rfl) rfl ?_
            refine v_iconst C (oJ6_numberOfTrailingZeros_0f7a4.at 50 rfl) (v := nI 1) rfl ?_
            refine v_iushrN C (oJ6_numberOfTrailingZeros_0f7a4.at 51 rfl) (by omega) (by omega) ?_
            refine v_iaddN C (oJ6_numberOfTrailingZeros_0f7a4.at 52 rfl) ?_
            exact v_iret C (oJ6_numberOfTrailingZeros_0f7a4.at 53 rfl) rfl rfl ⟨Nat.le_refl _, Nat.le_refl _⟩ ⟨rfl, rfl⟩
        · refine v_iinc C (oJ6_numberOfTrailingZeros_0f7a4.at 35 rfl) rfl rfl ?_
          refine v_iload_n C (oJ6_numberOfTrailingZeros_0f7a4.at 36 rfl) rfl ?_
          refine v_iconst C (oJ6_numberOfTrailingZeros_0f7a4.at 37 rfl) (v := nI 4) rfl ?_
          refine v_iushrN C (oJ6_numberOfTrailingZeros_0f7a4.at 38 rfl) (by omega) (by omega) ?_
          refine v_istore_n C (oJ6_numberOfTrailingZeros_0f7a4.at 39 rfl) rfl ?_
          dsimp only [sto1, sto2, killL]
          refine v_iload_n C (oJ6_numberOfTrailingZeros_0f7a4.at 40 rfl) rfl ?_
          refine v_iconst C (oJ6_numberOfTrailingZeros_0f7a4.at 41 rfl) (v := nI 4) rfl ?_
          refine v_icmp_leN C (oJ6_numberOfTrailingZeros_0f7a4.at 42 rfl) (tgt := 74) (by decide) (by omega) (by omega) (fun hc => ?_) (fun hc => ?_)
          · obtain rfl : t = 1 + 4 + q / 2 ^ 4 / 2 ^ 1 := by omega
            refine v_iload_n C (oJ6_numberOfTrailingZeros_0f7a4.at 48 rfl) rfl ?_
            refine v_iload_n C (oJ6_numberOfTrailingZeros_0f7a4.at 49 rfl) rfl ?_
            refine v_iconst C (oJ6_numberOfTrailingZeros_0f7a4.at 50 rfl) (v := nI 1) rfl ?_
            refine v_iushrN C (oJ6_numberOfTrailingZeros_0f7a4.at 51 rfl) (by omega) (by omega) ?_
            refine v_iaddN C (oJ6_numberOfTrailingZeros_0f7a4.at 52 rfl) ?_
            exact v_iret C (oJ6_numberOfTrailingZeros_0f7a4.at 53 rfl) rfl rfl ⟨Nat.le_refl _, Nat.le_refl _⟩ ⟨rfl, rfl⟩
          · refine v_iinc C (oJ6_numberOfTrailingZeros_0f7a4.at 43 rfl) rfl rfl ?_
            refine v_iload_n C (oJ6_numberOfTrailingZeros_0f7a4.at 44 rfl) rfl ?_
            refine v_iconst C (oJ6_numberOfTrailingZeros_0f7a4.at 45 rfl) (v := nI 2) rfl ?_
            refine v_iushrN C (oJ6_numberOfTrailingZeros_0f7a4.at 46 rfl) (by omega) (by omega) ?_
            refine v_istore_n C (oJ6_numberOfTrailingZeros_0f7a4.at 47 rfl) rfl ?_
            dsimp only [sto1, sto2, killL]
            obtain rfl : t = 1 + 4 + 2 + q / 2 ^ 4 / 2 ^ 2 / 2 ^ 1 := by omega
            refine v_iload_n C (oJ6_numberOfTrailingZeros_0f7a4.at 48 rfl) rfl ?_
            refine v_iload_n C (oJ6_numberOfTrailingZeros_0f7a4.at 49 rfl) rfl ?_
            refine v_iconst C (oJ6_numberOfTrailingZeros_0f7a4.at 50 rfl) (v := nI 1) rfl ?_
            refine v_iushrN C (oJ6_numberOfTrailingZeros_0f7a4.at 51 rfl) (by omega) (by omega) ?_
            refine v_iaddN C (oJ6_numberOfTrailingZeros_0f7a4.at 52 rfl) ?_
            exact v_iret C (oJ6_numberOfTrailingZeros_0f7a4.at 53 rfl) rfl rfl ⟨Nat.le_refl _, Nat.le_refl _⟩ ⟨rfl, rfl⟩
      · exact absurd hc (by omega)
    · exact absurd hc (by omega)
  · obtain ⟨rfl, rfl⟩ : q = 0 ∧ t = 0 := by omega
    refine v_iload_n C (oJ6_numberOfTrailingZeros_0f7a4.at 10 rfl) rfl ?_
    refine v_bipush C (oJ6_numberOfTrailingZeros_0f7a4.at 11 rfl) (v := nI 32) rfl ?_
    refine v_iand C (oJ6_numberOfTrailingZeros_0f7a4.at 12 rfl) ?_
    exact v_iret C (oJ6_numberOfTrailingZeros_0f7a4.at 13 rfl) rfl rfl ⟨Nat.le_refl _, Nat.le_refl _⟩ ⟨rfl, rfl⟩
/-- positions where two words agree: bits of pos, the last d positions looked at -/
def eqN (k x y pos wl : Nat) : Nat → Nat
  | 0 => pos
  | d + 1 => if x / k ^ d % k = y / k ^ d % k then eqN k x y pos wl d else eqN k x y pos wl d &&& (2 ^ 32 - (2 ^ (wl - 1 - d) + 1))
theorem eqN_bit {k x y pos wl : Nat} (hpos : pos < 2 ^ wl) (hw : wl ≤ 8) (j : Nat) : ∀ d, d ≤ wl → ((eqN k x y pos wl d).testBit j = true ↔ pos.testBit j = true ∧ ∀ e, e < d → j = wl - 1 - e → x / k ^ e % k = y / k ^ e % k)
  | 0, _ => by simp [eqN]
  | d + 1, hd => by
    have ih := eqN_bit (k := k) (x := x) (y := y) hpos hw j d (by omega)
    rw [eqN]
    split
    · next hx =>
      rw [ih]
      refine ⟨fun ⟨a, b⟩ => ⟨a, fun e he hj => ?_⟩, fun ⟨a, b⟩ => ⟨a, fun e he hj => b e (by omega) hj⟩⟩
      by_cases e1 : e = d
      · subst e1; exact hx
      · exact b e (by omega) hj
    · next hx =>
      have hp2 : 2 ^ (wl - 1 - d) < 2 ^ 32 := Nat.pow_lt_pow_right (by decide) (by omega)
      rw [Nat.testBit_and, Nat.testBit_two_pow_sub_succ hp2, Nat.testBit_two_pow, Bool.and_eq_true, Bool.and_eq_true, ih]
      refine ⟨fun ⟨⟨a, b⟩, c, f⟩ => ⟨a, fun e he hj => ?_⟩, fun ⟨a, b⟩ => ⟨⟨a, fun e he hj => b e (by omega) hj⟩, ?_, ?_⟩⟩
      · by_cases e1 : e = d
        · subst e1
          rw [decide_eq_true hj.symm] at f
          cases f
        · exact b e (by omega) hj
      · apply decide_eq_true
        apply Nat.lt_of_not_le
        intro h9
        have h1 : pos < 2 ^ j := Nat.lt_of_lt_of_le hpos (Nat.pow_le_pow_right (by decide) (by omega))
        rw [Nat.testBit_lt_two_pow h1] at a
        cases a
      · rw [decide_eq_false]
        · rfl
        · intro hj
          exact hx (b d (by omega) hj.symm)
theorem eqN_le {k x y pos wl : Nat} : ∀ d, eqN k x y pos wl d ≤ pos
  | 0 => Nat.le_refl _
  | d + 1 => by
    have ih := eqN_le (k := k) (x := x) (y := y) (pos := pos) (wl := wl) d
    rw [eqN]
    split
    · exact ih
    · exact Nat.le_trans Nat.and_le_left ih
theorem nI_not {b : Nat} (hb : b < 2 ^ 32) : nI b ^^^ (-1) = nI (2 ^ 32 - (b + 1)) := by
  apply Int32.toBitVec_inj.mp
  rw [Int32.toBitVec_xor, bv_nI, bv_nI, show (-1 : Int32).toBitVec = BitVec.allOnes 32 from by decide]
  apply BitVec.eq_of_getLsbD_eq
  intro i hi
  rw [BitVec.getLsbD_xor, BitVec.getLsbD_ofNat, BitVec.getLsbD_ofNat, BitVec.getLsbD_allOnes, Nat.testBit_two_pow_sub_succ hb]
  simp [hi]
theorem k_equalPositions {w : Wt} {h : Hp} {r k wd n m x y pos wl : Nat} (hr : h r = RO r k wd n m) (hk : k = 2 ∨ k = 3) (hwl : wl ≤ 8) (hx : x < 2 ^ 31) (hy : y < 2 ^ 31) : ConN mX2_equalPositions 1 (0, 0) w [.ref r, .int (nI pos), .int (nI wl), .int (nI x), .int (nI y)] h (.inl (some (.int (nI (eqN k x y pos wl wl))))) (fun h' => h' = h) := by
  refine conI (by decide +kernel) ⟨fun _ => rfl, rfl, by simp⟩ (fun X C => ?_)
  change V X (0, 0) w h 0 [some (.ref r), some (.int (nI pos)), some (.int (nI wl)), some (.int (nI x)), some (.int (nI y)), none, none, none, none] []
  refine v_iload_n C (oX2_equalPositions.at 0 rfl) rfl ?_
  refine v_istore C (oX2_equalPositions.at 1 rfl) rfl ?_
  refine v_iload_n C (oX2_equalPositions.at 2 rfl) rfl ?_
  refine v_istore C (oX2_equalPositions.at 3 rfl) rfl ?_
  refine v_iload C (oX2_equalPositions.at 4 rfl) rfl ?_
  refine v_istore C (oX2_equalPositions.at 5 rfl) rfl ?_
  refine v_iload_n C (oX2_equalPositions.at 6 rfl) rfl ?_
  refine v_iconst C (oX2_equalPositions.at 7 rfl) (v := nI 1) rfl ?_
  refine v_isubP C (oX2_equalPositions.at 8 rfl) ?_
  refine v_istore C (oX2_equalPositions.at 9 rfl) rfl ?_
  dsimp only [sto1, sto2, killL]
  suffices H : ∀ a, a ≤ wl → V X (0, 0) w h 15 [some (.ref r), some (.int (nI pos)), some (.int (nI wl)), some (.int (nI x)), some (.int (nI y)), some (.int (nI (eqN k x y pos wl (wl - a)))), some (.int (nI (x / k ^ (wl - a)))), some (.int (nI (y / k ^ (wl - a)))), some (.int (pI a))] [] by
    have := H wl (Nat.le_refl _)
    rw [Nat.sub_self, Nat.pow_zero, Nat.div_one, Nat.div_one] at this
    exact this
  intro a
  induction a with
  | zero =>
    intro ha
    refine v_iload C (oX2_equalPositions.at 10 rfl) rfl ?_
    refine v_if_ltP C (oX2_equalPositions.at 11 rfl) (tgt := 68) (by decide) (by omega) (fun hc => ?_) (fun b hc => ?_)
    · refine v_iload C (oX2_equalPositions.at 37 rfl) rfl ?_
      exact v_iret C (oX2_equalPositions.at 38 rfl) rfl rfl ⟨Nat.le_refl _, Nat.le_refl _⟩ ⟨rfl, rfl⟩
    · cases hc
  | succ a ih =>
    intro ha
    have ih := ih (by omega)
    have hdx : x / k ^ (wl - (a + 1)) ≤ x := Nat.div_le_self _ _
    have hdy : y / k ^ (wl - (a + 1)) ≤ y := Nat.div_le_self _ _
    rw [show wl - a = wl - (a + 1) + 1 by omega] at ih
    generalize hd : wl - (a + 1) = d at *
    have hmx : x / k ^ d % k < k := Nat.mod_lt _ (by omega)
    have hmy : y / k ^ d % k < k := Nat.mod_lt _ (by omega)
    have hpa := pow_le9 (i := a) (by omega)
    refine v_iload C (oX2_equalPositions.at 10 rfl) rfl ?_
    refine v_if_ltP C (oX2_equalPositions.at 11 rfl) (tgt := 68) (by decide) (by omega) (fun hc => ?_) (fun b hc => ?_)
    · cases hc
    · cases hc
      rw [pI_succ]
      refine v_aload_n C (oX2_equalPositions.at 12 rfl) rfl ?_
      refine v_iload C (oX2_equalPositions.at 13 rfl) rfl ?_
      refine v_callV C (oX2_equalPositions.at 14 rfl) cX2_70 hr (k_lastCell hr hk (by omega)) rfl rfl rfl ⟨rfl, rfl⟩ rfl rfl (fun _ => rfl) (fun h' hp => ?_)
      rw [show h' = _ from hp]
      dsimp only [Option.toList, List.cons_append, List.nil_append]
      refine v_aload_n C (oX2_equalPositions.at 15 rfl) rfl ?_
      refine v_iload C (oX2_equalPositions.at 16 rfl) rfl ?_
      refine v_callV C (oX2_equalPositions.at 17 rfl) cX2_70 hr (k_lastCell hr hk (by omega)) rfl rfl rfl ⟨rfl, rfl⟩ rfl rfl (fun _ => rfl) (fun h' hp => ?_)
      rw [show h' = _ from hp]
      dsimp only [Option.toList, List.cons_append, List.nil_append]
      refine v_icmp_eqN C (oX2_equalPositions.at 18 rfl) (tgt := 46) (by decide) (by omega) (by omega) (fun hc => ?_) (fun hc => ?_)
      · rw [eqN, if_pos hc, show k ^ (d + 1) = k ^ d * k from Nat.pow_succ _ _, ← Nat.div_div_eq_div_mul x, ← Nat.div_div_eq_div_mul y] at ih
        refine v_aload_n C (oX2_equalPositions.at 27 rfl) rfl ?_
        refine v_iload C (oX2_equalPositions.at 28 rfl) rfl ?_
        refine v_callV C (oX2_equalPositions.at 29 rfl) cX2_54 hr (k_withoutLastCell hr hk (by omega)) rfl rfl rfl ⟨rfl, rfl⟩ rfl rfl (fun _ => rfl) (fun h' hp => ?_)
        rw [show h' = _ from hp]
        dsimp only [Option.toList, List.cons_append, List.nil_append]
        refine v_istore C (oX2_equalPositions.at 30 rfl) rfl ?_
        refine v_aload_n C (oX2_equalPositions.at 31 rfl) rfl ?_
        refine v_iload C (oX2_equalPositions.at 32 rfl) rfl ?_
        dsimp only [sto1, sto2, killL]
        refine v_callV C (oX2_equalPositions.at 33 rfl) cX2_54 hr (k_withoutLastCell hr hk (by omega)) rfl rfl rfl ⟨rfl, rfl⟩ rfl rfl (fun _ => rfl) (fun h' hp => ?_)
        rw [show h' = _ from hp]
        dsimp only [Option.toList, List.cons_append, List.nil_append]
        refine v_istore C (oX2_equalPositions.at 34 rfl) rfl ?_
        refine v_idecP C (oX2_equalPositions.at 35 rfl) rfl ?_
        refine v_goto C (oX2_equalPositions.at 36 rfl) (tgt := 15) (by decide) ?_
        dsimp only [sto1, sto2, killL]
        exact ih
      · rw [eqN, if_neg hc, show k ^ (d + 1) = k ^ d * k from Nat.pow_succ _ _, ← Nat.div_div_eq_div_mul x, ← Nat.div_div_eq_div_mul y, show wl - 1 - d = a by omega] at ih
        refine v_iload C (oX2_equalPositions.at 19 rfl) rfl ?_
        refine v_iconst C (oX2_equalPositions.at 20 rfl) (v := nI 1) rfl ?_
        refine v_iload C (oX2_equalPositions.at 21 rfl) rfl ?_
        refine v_ishlN C (oX2_equalPositions.at 22 rfl) (by omega) (by omega) ?_
        rw [Nat.one_mul]
        refine v_iconst C (oX2_equalPositions.at 23 rfl) (v := -1) rfl ?_
        refine v_ixor C (oX2_equalPositions.at 24 rfl) ?_
        rw [nI_not (by omega)]
        refine v_iandN C (oX2_equalPositions.at 25 rfl) ?_
        refine v_istore C (oX2_equalPositions.at 26 rfl) rfl ?_
        refine v_aload_n C (oX2_equalPositions.at 27 rfl) rfl ?_
        refine v_iload C (oX2_equalPositions.at 28 rfl) rfl ?_
        dsimp only [sto1, sto2, killL]
        refine v_callV C (oX2_equalPositions.at 29 rfl) cX2_54 hr (k_withoutLastCell hr hk (by omega)) rfl rfl rfl ⟨rfl, rfl⟩ rfl rfl (fun _ => rfl) (fun h' hp => ?_)
        rw [show h' = _ from hp]
        dsimp only [Option.toList, List.cons_append, List.nil_append]
        refine v_istore C (oX2_equalPositions.at 30 rfl) rfl ?_
        refine v_aload_n C (oX2_equalPositions.at 31 rfl) rfl ?_
        refine v_iload C (oX2_equalPositions.at 32 rfl) rfl ?_
        dsimp only [sto1, sto2, killL]
        refine v_callV C (oX2_equalPositions.at 33 rfl) cX2_54 hr (k_withoutLastCell hr hk (by omega)) rfl rfl rfl ⟨rfl, rfl⟩ rfl rfl (fun _ => rfl) (fun h' hp => ?_)
        rw [show h' = _ from hp]
        dsimp only [Option.toList, List.cons_append, List.nil_append]
        refine v_istore C (oX2_equalPositions.at 34 rfl) rfl ?_
        refine v_idecP C (oX2_equalPositions.at 35 rfl) rfl ?_
        refine v_goto C (oX2_equalPositions.at 36 rfl) (tgt := 15) (by decide) ?_
        dsimp only [sto1, sto2, killL]
        exact ih
/-- the image of a word of m + wd - 1 cells, cell by cell from the left -/
def gIm (k wd : Nat) (T : Nat → Nat) : Nat → Nat → Nat
  | 0, _ => 0
  | m + 1, x => gIm k wd T m (x / k) * k + T (x % k ^ wd)
theorem gIm_lt {k wd : Nat} {T : Nat → Nat} (hk : 0 < k) (hT : ∀ i, i < k ^ wd → T i < k) : ∀ m x, gIm k wd T m x < k ^ m
  | 0, _ => by simp [gIm]
  | m + 1, x => by
    have h1 := gIm_lt hk hT m (x / k)
    have h2 := hT (x % k ^ wd) (Nat.mod_lt _ (Nat.pow_pos hk))
    have h3 : (gIm k wd T m (x / k) + 1) * k ≤ k ^ m * k := Nat.mul_le_mul_right k h1
    rw [Nat.add_mul, Nat.one_mul] at h3
    rw [Nat.pow_succ, gIm]
    omega
abbrev IS (p : Nat) (a b : Int32) : PE := ob 2 [.int a, .int b, .ref (p + 1), .ref (p + 2)]
theorem SZ.w5 {k wd m : Nat} (h : SZ k wd) (hm : m ≤ 4) : k ^ (m + wd) ≤ 2187 := by
  have : ∀ m, m ≤ 4 → k ^ (m + wd) ≤ 2187 := h.cases (Q := fun k wd => ∀ m, m ≤ 4 → k ^ (m + wd) ≤ 2187) (by decide) (by decide) (by decide) (by decide) (by decide)
  exact this m hm
theorem SZ.m5 {k wd m : Nat} (h : SZ k wd) (hm : m ≤ 5) : k ^ m ≤ 243 := by
  have : ∀ m, m ≤ 5 → k ^ m ≤ 243 := h.cases (Q := fun k _ => ∀ m, m ≤ 5 → k ^ m ≤ 243) (by decide) (by decide) (by decide) (by decide) (by decide)
  exact this m hm
theorem pred_mod {j K : Nat} (hK : 0 < K) : (j + 1 + K - 1) % K = j % K := by rw [show j + 1 + K - 1 = j + K by omega, Nat.add_mod_right]
theorem pred_mod2 {j K : Nat} (hK : 0 < K) : (if j % K = 0 then K - 1 else j % K - 1) = (j + K - 1) % K := by
  have hm := Nat.mod_add_div j K
  have hl := Nat.mod_lt j hK
  by_cases h0 : j % K = 0
  · rw [if_pos h0, show j + K - 1 = K - 1 + K * (j / K) by omega, Nat.add_mul_mod_self_left, Nat.mod_eq_of_lt (by omega)]
  · rw [if_neg h0, show j + K - 1 = j % K - 1 + K * (j / K + 1) by rw [Nat.mul_add, Nat.mul_one]; omega, Nat.add_mul_mod_self_left, Nat.mod_eq_of_lt (show j % K - 1 < K by omega)]
theorem k_lengthen {w : Wt} {h : Hp} {p r k wd m : Nat} {a b : Int32} {T : Nat → Nat} {g : Nat → Int32} (hR : RuleOK h r k wd T) (hs : SZ k wd) (hp : h p = IS p a b) (hg : h (p + 1) = io 2187 g) (hsep : r + 5 < p) (hm4 : m ≤ 4) (hG : ∀ x, x < k ^ (m + wd - 1) → g x = nI (gIm k wd T m x)) : ConN mX2_lengthenWords 1 (0, 0) w [.ref p, .ref r, .int (nI (k ^ (m + wd)))] h (.inl none) (fun h' => ∃ g', h' = hu h (p + 1) (io 2187 g') ∧ ∀ x, x < k ^ (m + wd) → g' x = nI (gIm k wd T (m + 1) x)) := by
  have hw5 := hs.w5 hm4
  have hk := hs.k
  have hwd := hs.w
  have hm27 := hs.m
  obtain ⟨f, gg, e, v, t, hr, ht, hT, -⟩ := id hR
  have hK0 : 0 < k ^ wd := Nat.pow_pos (by omega)
  have hW : k ^ (m + wd) = k ^ (m + wd - 1) * k := by rw [← Nat.pow_succ, show (m + wd - 1).succ = m + wd by omega]
  have hWK : k ^ (m + wd) = k ^ m * k ^ wd := Nat.pow_add _ _ _
  have hro : ∀ g, hu h (p + 1) (io 2187 g) r = RO r k wd (k ^ (wd - 1)) (k ^ wd) := fun g => (hu_n _ _ (by omega)).trans hr
  have hto : ∀ g, hu h (p + 1) (io 2187 g) (r + 1) = io 27 f := fun g => (hu_n _ _ (by omega)).trans ht
  have hpo : ∀ g, hu h (p + 1) (io 2187 g) p = IS p a b := fun g => (hu_n _ _ (by omega)).trans hp
  generalize hKK : k ^ wd = K at *
  refine conI (by decide +kernel) ⟨fun _ => rfl, rfl, by simp⟩ (fun X C => ?_)
  change V X (0, 0) w h 0 [some (.ref p), some (.ref r), some (.int (nI (k ^ (m + wd)))), none, none] []
  refine v_aload_n C (oX2_lengthenWords.at 0 rfl) rfl ?_
  refine v_getf C (oX2_lengthenWords.at 1 rfl) fX2_51 hr rfl ?_
  refine v_iconst C (oX2_lengthenWords.at 2 rfl) (v := nI 1) rfl ?_
  refine v_isubN C (oX2_lengthenWords.at 3 rfl) (by omega) ?_
  refine v_istore_n C (oX2_lengthenWords.at 4 rfl) rfl ?_
  dsimp only [sto1, sto2, killL]
  refine v_iload_n C (oX2_lengthenWords.at 5 rfl) rfl ?_
  refine v_iconst C (oX2_lengthenWords.at 6 rfl) (v := nI 1) rfl ?_
  refine v_isubP C (oX2_lengthenWords.at 7 rfl) ?_
  refine v_istore C (oX2_lengthenWords.at 8 rfl) rfl ?_
  dsimp only [sto1, sto2, killL]
  suffices H : ∀ j g1, j ≤ k ^ (m + wd) → (∀ x, x < k ^ (m + wd) → g1 x = if x < j then g x else nI (gIm k wd T (m + 1) x)) → V X (0, 0) w (hu h (p + 1) (io 2187 g1)) 12 [some (.ref p), some (.ref r), some (.int (nI (k ^ (m + wd)))), some (.int (nI ((j + K - 1) % K))), some (.int (pI j))] [] by
    have := H (k ^ (m + wd)) g (Nat.le_refl _) (fun x hx => by rw [if_pos hx])
    rw [hu_id h hg] at this
    have e : (k ^ (m + wd) + K - 1) % K = K - 1 := by
      rw [hWK, show k ^ m * K + K - 1 = K - 1 + k ^ m * K by omega, Nat.add_mul_mod_self_right, Nat.mod_eq_of_lt (by omega)]
    rw [e] at this
    exact this
  intro j
  induction j with
  | zero =>
    intro g1 hj hg1
    refine v_iload C (oX2_lengthenWords.at 9 rfl) rfl ?_
    refine v_if_ltP C (oX2_lengthenWords.at 10 rfl) (tgt := 70) (by decide) (by omega) (fun hc => ?_) (fun b hc => ?_)
    · exact v_vret C (oX2_lengthenWords.at 42 rfl) rfl rfl ⟨Nat.le_refl _, Nat.le_refl _⟩ ⟨rfl, g1, rfl, fun x hx => by rw [hg1 x hx, if_neg (by omega)]⟩
    · cases hc
  | succ j ih =>
    intro g1 hj hg1
    have hjm : j % K < K := Nat.mod_lt _ hK0
    have hTj := hT (j % K) hjm
    have hdj : j / k < k ^ (m + wd - 1) := by
      apply Nat.div_lt_of_lt_mul
      rw [Nat.mul_comm]
      omega
    have hdl : j / k ≤ j := Nat.div_le_self _ _
    have hgj : g1 (j / k) = nI (gIm k wd T m (j / k)) := by rw [hg1 _ (by omega), if_pos (by omega), hG _ hdj]
    rw [pred_mod hK0]
    refine v_iload C (oX2_lengthenWords.at 9 rfl) rfl ?_
    refine v_if_ltP C (oX2_lengthenWords.at 10 rfl) (tgt := 70) (by decide) (by omega) (fun hc => ?_) (fun b hc => ?_)
    · cases hc
    · cases hc
      rw [pI_succ]
      refine v_aload_n C (oX2_lengthenWords.at 11 rfl) rfl ?_
      refine v_getf C (oX2_lengthenWords.at 12 rfl) fX2_9 (hpo _) rfl ?_
      refine v_iload C (oX2_lengthenWords.at 13 rfl) rfl ?_
      refine v_aload_n C (oX2_lengthenWords.at 14 rfl) rfl ?_
      refine v_getf C (oX2_lengthenWords.at 15 rfl) fX2_9 (hpo _) rfl ?_
      refine v_aload_n C (oX2_lengthenWords.at 16 rfl) rfl ?_
      refine v_iload C (oX2_lengthenWords.at 17 rfl) rfl ?_
      refine v_callV C (oX2_lengthenWords.at 18 rfl) cX2_54 (hro _) (k_withoutLastCell (hro _) hk (by omega)) rfl rfl rfl ⟨rfl, rfl⟩ rfl rfl (fun _ => rfl) (fun h' hp => ?_)
      rw [show h' = _ from hp]
      dsimp only [Option.toList, List.cons_append, List.nil_append]
      refine v_iald C (oX2_lengthenWords.at 19 rfl) (hu_s _ _ _) (by decide) rfl (by omega) hgj ?_
      refine v_aload_n C (oX2_lengthenWords.at 20 rfl) rfl ?_
      refine v_getf C (oX2_lengthenWords.at 21 rfl) fX2_57 (hro _) rfl ?_
      refine v_imulN C (oX2_lengthenWords.at 22 rfl) ?_
      refine v_aload_n C (oX2_lengthenWords.at 23 rfl) rfl ?_
      refine v_getf C (oX2_lengthenWords.at 24 rfl) fX2_60 (hro _) rfl ?_
      refine v_iload_n C (oX2_lengthenWords.at 25 rfl) rfl ?_
      refine v_iald C (oX2_lengthenWords.at 26 rfl) (hto _) (by decide) rfl (by omega) hTj.1 ?_
      refine v_iaddN C (oX2_lengthenWords.at 27 rfl) ?_
      refine v_iast C (oX2_lengthenWords.at 28 rfl) (hu_s _ _ _) (by decide) rfl (by omega) ?_
      rw [hu_hu]
      have key : V X (0, 0) w (hu h (p + 1) (io 2187 (upd g1 j (nI (gIm k wd T m (j / k) * k + T (j % K)))))) 12 [some (.ref p), some (.ref r), some (.int (nI (k ^ (m + wd)))), some (.int (nI ((j + K - 1) % K))), some (.int (pI j))] [] := by
        refine ih _ (by omega) (fun x hx => ?_)
        by_cases e1 : x = j
        · subst e1
          rw [pk_us, if_neg (by omega), gIm, hKK]
        · rw [pk_un e1, hg1 x hx]
          by_cases e2 : x < j
          · rw [if_pos e2, if_pos (by omega)]
          · rw [if_neg e2, if_neg (by omega)]
      rw [← pred_mod2 hK0] at key
      refine v_iload_n C (oX2_lengthenWords.at 29 rfl) rfl ?_
      refine v_if_neN C (oX2_lengthenWords.at 30 rfl) (tgt := 60) (by decide) (by omega) (fun hc => ?_) (fun hc => ?_)
      · rw [if_neg hc] at key
        refine v_iload_n C (oX2_lengthenWords.at 36 rfl) rfl ?_
        refine v_iconst C (oX2_lengthenWords.at 37 rfl) (v := nI 1) rfl ?_
        refine v_isubN C (oX2_lengthenWords.at 38 rfl) (by omega) ?_
        refine v_istore_n C (oX2_lengthenWords.at 39 rfl) rfl ?_
        refine v_idecP C (oX2_lengthenWords.at 40 rfl) rfl ?_
        refine v_goto C (oX2_lengthenWords.at 41 rfl) (tgt := 12) (by decide) ?_
        dsimp only [sto1, sto2, killL]
        exact key
      · rw [if_pos hc] at key
        refine v_aload_n C (oX2_lengthenWords.at 31 rfl) rfl ?_
        refine v_getf C (oX2_lengthenWords.at 32 rfl) fX2_51 (hro _) rfl ?_
        refine v_iconst C (oX2_lengthenWords.at 33 rfl) (v := nI 1) rfl ?_
        refine v_isubN C (oX2_lengthenWords.at 34 rfl) (by omega) ?_
        refine v_goto C (oX2_lengthenWords.at 35 rfl) (tgt := 63) (by decide) ?_
        refine v_istore_n C (oX2_lengthenWords.at 39 rfl) rfl ?_
        refine v_idecP C (oX2_lengthenWords.at 40 rfl) rfl ?_
        refine v_goto C (oX2_lengthenWords.at 41 rfl) (tgt := 12) (by decide) ?_
        dsimp only [sto1, sto2, killL]
        exact key
end
section
/-! ===== InverseSearch, second half: the positions that words of one image share; run; stateFor ===== -/
theorem orN_bit {f : Nat → Nat} {j : Nat} : ∀ n, ((orN f n).testBit j = true ↔ ∃ i, i < n ∧ (f i).testBit j = true)
  | 0 => by simp [orN]
  | n + 1 => by
    rw [orN, Nat.testBit_or, Bool.or_eq_true, orN_bit n]
    refine ⟨fun a => ?_, fun ⟨i, hi, hb⟩ => ?_⟩
    · rcases a with ⟨i, hi, hb⟩ | hb
      · exact ⟨i, by omega, hb⟩
      · exact ⟨n, by omega, hb⟩
    · by_cases e : i = n
      · subst e; exact Or.inr hb
      · exact Or.inl ⟨i, by omega, hb⟩
theorem cnt_le (p : Nat → Bool) : ∀ n, cnt p n ≤ n
  | 0 => Nat.le_refl _
  | n + 1 => by
    have := cnt_le p n
    rw [cnt]
    split <;> omega
theorem cnt_full {p : Nat → Bool} : ∀ n, (cnt p n = n ↔ ∀ i, i < n → p i = true)
  | 0 => by simp [cnt]
  | n + 1 => by
    have h1 := cnt_le p n
    have h2 := cnt_full (p := p) n
    rw [cnt]
    refine ⟨fun a i hi => ?_, fun a => ?_⟩
    · by_cases hp : p n = true
      · rw [if_pos hp] at a
        by_cases e : i = n
        · subst e; exact hp
        · exact h2.mp (by omega) i (by omega)
      · rw [if_neg hp] at a; omega
    · rw [if_pos (a n (by omega)), h2.mpr (fun i hi => a i (by omega))]
theorem cnt_congr {p q : Nat → Bool} : ∀ n, (∀ i, i < n → p i = q i) → cnt p n = cnt q n
  | 0, _ => rfl
  | n + 1, h => by rw [cnt, cnt, cnt_congr n (fun i hi => h i (by omega)), h n (by omega)]
theorem cnt_set {p q : Nat → Bool} {y : Nat} (hq : ∀ i, i ≠ y → q i = p i) (h0 : p y = false) (h1 : q y = true) : ∀ n, y < n → cnt q n = cnt p n + 1
  | 0, h => by omega
  | n + 1, h => by
    rw [cnt, cnt]
    by_cases e : y = n
    · subst e
      rw [h0, h1, cnt_congr y (fun i hi => hq i (by omega))]
      rfl
    · rw [cnt_set hq h0 h1 n (by omega), hq n (fun e2 => e e2.symm)]
      omega
/-- words of one image agree in the cell j; every word is an image -/
def AgP (k wd : Nat) (T : Nat → Nat) (m i j : Nat) : Prop := ∀ x y, x < i → y < i → gIm k wd T m x = gIm k wd T m y → cel k (m + wd - 1) x j = cel k (m + wd - 1) y j
def MeP (k wd : Nat) (T : Nat → Nat) (m : Nat) : Prop := ∀ y, y < k ^ m → ∃ x, x < k ^ (m + wd - 1) ∧ gIm k wd T m x = y
def agB (k wd : Nat) (T : Nat → Nat) (m j : Nat) : Bool := allB (fun x => allB (fun y => decide (gIm k wd T m x ≠ gIm k wd T m y) || decide (cel k (m + wd - 1) x j = cel k (m + wd - 1) y j)) (k ^ (m + wd - 1))) (k ^ (m + wd - 1))
def meB (k wd : Nat) (T : Nat → Nat) (m : Nat) : Bool := allB (fun y => !(allB (fun x => decide (gIm k wd T m x ≠ y)) (k ^ (m + wd - 1)))) (k ^ m)
def inB (k wd : Nat) (T : Nat → Nat) (m j : Nat) : Bool := meB k wd T m && agB k wd T m j
theorem agB_iff {k wd : Nat} {T : Nat → Nat} {m j : Nat} : agB k wd T m j = true ↔ AgP k wd T m (k ^ (m + wd - 1)) j := by
  unfold agB AgP
  rw [allB_iff]
  refine ⟨fun a x y hx hy e => ?_, fun a x hx => ?_⟩
  · have := (allB_iff _).mp (a x hx) y hy
    rw [Bool.or_eq_true] at this
    rcases this with b | b
    · exact absurd e (of_decide_eq_true b)
    · exact of_decide_eq_true b
  · rw [allB_iff]
    intro y hy
    rw [Bool.or_eq_true]
    by_cases e : gIm k wd T m x = gIm k wd T m y
    · exact Or.inr (decide_eq_true (a x y hx hy e))
    · exact Or.inl (decide_eq_true e)
theorem notAll {p : Nat → Bool} : ∀ n, (!(allB p n)) = true ↔ ∃ i, i < n ∧ p i = false
  | 0 => by simp [allB]
  | n + 1 => by
    rw [allB, Bool.not_and, Bool.or_eq_true, notAll n]
    refine ⟨fun a => ?_, fun ⟨i, hi, hb⟩ => ?_⟩
    · rcases a with ⟨i, hi, hb⟩ | hb
      · exact ⟨i, by omega, hb⟩
      · exact ⟨n, by omega, by simpa using hb⟩
    · by_cases e : i = n
      · subst e; exact Or.inr (by rw [hb]; rfl)
      · exact Or.inl ⟨i, by omega, hb⟩
theorem meB_iff {k wd : Nat} {T : Nat → Nat} {m : Nat} : meB k wd T m = true ↔ MeP k wd T m := by
  unfold meB MeP
  rw [allB_iff]
  refine ⟨fun a y hy => ?_, fun a y hy => ?_⟩
  · obtain ⟨x, hx, hb⟩ := (notAll _).mp (a y hy)
    exact ⟨x, hx, Decidable.of_not_not (of_decide_eq_false hb)⟩
  · obtain ⟨x, hx, hb⟩ := a y hy
    exact (notAll _).mpr ⟨x, hx, decide_eq_false (fun e => e hb)⟩
theorem inB_iff {k wd : Nat} {T : Nat → Nat} {m j : Nat} : inB k wd T m j = true ↔ MeP k wd T m ∧ AgP k wd T m (k ^ (m + wd - 1)) j := by
  unfold inB
  rw [Bool.and_eq_true, meB_iff, agB_iff]
def psN (k wd : Nat) (T : Nat → Nat) (m : Nat) : Nat := orN (fun j => if inB k wd T m j then 2 ^ j else 0) (m + wd - 1)
theorem psN_bit {k wd : Nat} {T : Nat → Nat} {m j : Nat} : (psN k wd T m).testBit j = true ↔ j < m + wd - 1 ∧ inB k wd T m j = true := by
  unfold psN
  rw [orN_bit]
  refine ⟨fun ⟨i, hi, hb⟩ => ?_, fun ⟨a, b⟩ => ⟨j, a, by rw [if_pos b, Nat.testBit_two_pow_self]⟩⟩
  by_cases e : inB k wd T m i = true
  · rw [if_pos e, Nat.testBit_two_pow] at hb
    obtain rfl := of_decide_eq_true hb
    exact ⟨hi, e⟩
  · rw [if_neg e, Nat.zero_testBit] at hb
    cases hb
theorem psN_lt {k wd : Nat} {T : Nat → Nat} {m : Nat} : psN k wd T m < 2 ^ (m + wd - 1) := orN_lt _ (fun i hi => by
  split
  · exact Nat.pow_lt_pow_right (by decide) hi
  · exact Nat.pow_pos (by decide))
/-- what the search knows when it has looked at i words -/
def CmI (k wd : Nat) (T : Nat → Nat) (m i P met : Nat) (F : Nat → Int32) : Prop := P < 2 ^ (m + wd - 1) ∧ (∀ j, P.testBit j = true ↔ j < m + wd - 1 ∧ AgP k wd T m i j) ∧ (∀ y, y < k ^ m → (F y = -1 ∧ ∀ x, x < i → gIm k wd T m x ≠ y) ∨ ∃ x, x < i ∧ F y = nI x ∧ gIm k wd T m x = y) ∧ met = cnt (fun y => decide (F y ≠ -1)) (k ^ m)
theorem nI_ne1 {x : Nat} (hx : x < 2 ^ 31) : nI x ≠ -1 := fun e => by
  have h1 := nI_toInt hx
  rw [e] at h1
  have h2 : (-1 : Int32).toInt = -1 := by decide
  omega
theorem CmI.end0 {k wd : Nat} {T : Nat → Nat} {m i P met : Nat} {F : Nat → Int32} (hI : CmI k wd T m i P met F) (hi : i ≤ k ^ (m + wd - 1)) (hP : P = 0) : psN k wd T m = 0 := by
  apply Nat.eq_of_testBit_eq
  intro j
  rw [Nat.zero_testBit]
  cases hb : (psN k wd T m).testBit j
  · rfl
  · obtain ⟨h1, h2⟩ := psN_bit.mp hb
    have h3 := (hI.2.1 j).mpr ⟨h1, fun x y hx hy => (inB_iff.mp h2).2 x y (by omega) (by omega)⟩
    rw [hP, Nat.zero_testBit] at h3
    cases h3
theorem CmI.met {k wd : Nat} {T : Nat → Nat} {m P met : Nat} {F : Nat → Int32} (hN : k ^ (m + wd - 1) < 2 ^ 31) (hI : CmI k wd T m (k ^ (m + wd - 1)) P met F) : met = k ^ m ↔ MeP k wd T m := by
  rw [hI.2.2.2, cnt_full]
  refine ⟨fun a y hy => ?_, fun a y hy => ?_⟩
  · have h1 := of_decide_eq_true (a y hy)
    rcases hI.2.2.1 y hy with ⟨h2, _⟩ | ⟨x, h2, _, h3⟩
    · exact absurd h2 h1
    · exact ⟨x, h2, h3⟩
  · obtain ⟨x, hx, e⟩ := a y hy
    apply decide_eq_true
    rcases hI.2.2.1 y hy with ⟨_, h2⟩ | ⟨x', h2, h3, _⟩
    · exact absurd e (h2 x hx)
    · rw [h3]; exact nI_ne1 (by omega)
theorem CmI.all {k wd : Nat} {T : Nat → Nat} {m P met : Nat} {F : Nat → Int32} (hN : k ^ (m + wd - 1) < 2 ^ 31) (hI : CmI k wd T m (k ^ (m + wd - 1)) P met F) : psN k wd T m = if met = k ^ m then P else 0 := by
  apply Nat.eq_of_testBit_eq
  intro j
  rw [Bool.eq_iff_iff, psN_bit, inB_iff]
  by_cases e : met = k ^ m
  · rw [if_pos e, hI.2.1]
    have := (hI.met hN).mp e
    exact ⟨fun a => ⟨a.1, a.2.2⟩, fun a => ⟨a.1, this, a.2⟩⟩
  · rw [if_neg e, Nat.zero_testBit]
    refine ⟨fun a => absurd ((hI.met hN).mpr a.2.1) e, fun a => by cases a⟩
theorem CmI.new {k wd : Nat} {T : Nat → Nat} {m i P met : Nat} {F : Nat → Int32} (hI : CmI k wd T m i P met F) (hi : i < 2 ^ 31) (hy : gIm k wd T m i < k ^ m) (hF : ∀ x, x < i → gIm k wd T m x ≠ gIm k wd T m i) (hF1 : F (gIm k wd T m i) = -1) : CmI k wd T m (i + 1) P (met + 1) (upd F (gIm k wd T m i) (nI i)) := by
  refine ⟨hI.1, fun j => ?_, fun y hy2 => ?_, ?_⟩
  · rw [hI.2.1]
    refine ⟨fun ⟨a, b⟩ => ⟨a, fun x y hx hy e => ?_⟩, fun ⟨a, b⟩ => ⟨a, fun x y hx hy e => b x y (by omega) (by omega) e⟩⟩
    by_cases e1 : x = i
    · by_cases e2 : y = i
      · rw [e1, e2]
      · rw [e1] at e; exact absurd e.symm (hF y (by omega))
    · by_cases e2 : y = i
      · rw [e2] at e; exact absurd e (hF x (by omega))
      · exact b x y (by omega) (by omega) e
  · by_cases e : y = gIm k wd T m i
    · exact Or.inr ⟨i, by omega, by rw [e, pk_us], e.symm⟩
    · rcases hI.2.2.1 y hy2 with ⟨a, b⟩ | ⟨x, a, b, c⟩
      · refine Or.inl ⟨by rw [pk_un e]; exact a, fun x hx => ?_⟩
        by_cases e1 : x = i
        · rw [e1]; exact fun e2 => e e2.symm
        · exact b x (by omega)
      · exact Or.inr ⟨x, by omega, by rw [pk_un e]; exact b, c⟩
  · rw [hI.2.2.2]
    refine (cnt_set (y := gIm k wd T m i) (fun y hy3 => ?_) ?_ ?_ _ hy).symm
    · show decide _ = decide _
      rw [pk_un hy3]
    · show decide _ = false
      rw [hF1]; rfl
    · show decide _ = true
      rw [pk_us]; exact decide_eq_true (nI_ne1 hi)
theorem CmI.old {k wd : Nat} {T : Nat → Nat} {m i P met x0 : Nat} {F : Nat → Int32} (hI : CmI k wd T m i P met F) (hw : m + wd - 1 ≤ 8) (h0 : x0 < i) (he : gIm k wd T m x0 = gIm k wd T m i) : CmI k wd T m (i + 1) (eqN k x0 i P (m + wd - 1) (m + wd - 1)) met F := by
  refine ⟨Nat.lt_of_le_of_lt (eqN_le _) hI.1, fun j => ?_, fun y hy2 => ?_, hI.2.2.2⟩
  · rw [eqN_bit hI.1 hw j _ (Nat.le_refl _), hI.2.1]
    have key : j < m + wd - 1 → ((∀ e, e < m + wd - 1 → j = m + wd - 1 - 1 - e → x0 / k ^ e % k = i / k ^ e % k) ↔ cel k (m + wd - 1) x0 j = cel k (m + wd - 1) i j) := by
      intro hj
      refine ⟨fun a => a (m + wd - 1 - 1 - j) (by omega) (by omega), fun a e he2 hj2 => ?_⟩
      have e1 : e = m + wd - 1 - 1 - j := by omega
      rw [e1]
      exact a
    refine ⟨fun ⟨⟨a, b⟩, c⟩ => ⟨a, fun x y hx hy e => ?_⟩, fun ⟨a, b⟩ => ⟨⟨a, fun x y hx hy e => b x y (by omega) (by omega) e⟩, (key a).mpr (b x0 i (by omega) (by omega) he)⟩⟩
    have c := (key a).mp c
    by_cases e1 : x = i
    · by_cases e2 : y = i
      · rw [e1, e2]
      · rw [e1, ← c]
        exact b x0 y h0 (by omega) (by rw [he, ← e, e1])
    · by_cases e2 : y = i
      · rw [e2, ← c]
        exact b x x0 (by omega) h0 (by rw [he, e, e2])
      · exact b x y (by omega) (by omega) e
  · rcases hI.2.2.1 y hy2 with ⟨a, b⟩ | ⟨x, a, b, c⟩
    · refine Or.inl ⟨a, fun x hx => ?_⟩
      by_cases e1 : x = i
      · rw [e1, ← he]; exact b x0 h0
      · exact b x (by omega)
    · exact Or.inr ⟨x, by omega, b, c⟩
end
