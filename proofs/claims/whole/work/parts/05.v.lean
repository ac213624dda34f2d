/-! ===== contexts, contracts, the judgement V ===== -/
def TSg : List Cond := lw_tbl.filter goodWord
theorem tsg {w : Cond} (h : w ∈ lw_tbl) (hg : goodWord w = true) : w ∈ TSg := List.mem_filter.mpr ⟨h, hg⟩
theorem tsg1 {w : Cond} (h : w ∈ tables_1) (hg : goodWord w = true) : w ∈ TSg := tsg (List.mem_append_right _ h) hg
theorem tsg_good {w : Cond} (h : w ∈ TSg) : goodWord w = true := (List.mem_filter.mp h).2
theorem tsg_in {Ts ws : List Cond} (h1 : ∀ w ∈ TSg, w ∈ Ts) (h2 : ∀ w ∈ ws, w ∈ TSg) : GoodIn Ts ws := fun w hw => ⟨h1 w (h2 w hw), good_of_word (tsg_good (h2 w hw))⟩
/-- words that aren't good but stay -/
def exOk : Cond → Bool
  | .castable .. => true
  | .declares .. => true
  | _ => false
def ncL : List (String × String) := [("java/lang/ArithmeticException", "java/lang/IllegalArgumentException"), ("java/lang/ArithmeticException", "java/lang/IllegalStateException"), ("java/lang/ArithmeticException", "java/lang/IndexOutOfBoundsException"), ("java/lang/ArithmeticException", "java/util/NoSuchElementException"), ("java/lang/IllegalArgumentException", "java/lang/ArithmeticException"), ("java/lang/IllegalArgumentException", "java/lang/IllegalStateException"), ("java/lang/IllegalArgumentException", "java/lang/IndexOutOfBoundsException"), ("java/lang/IllegalArgumentException", "java/util/NoSuchElementException"), ("java/lang/IllegalStateException", "java/lang/ArithmeticException"), ("java/lang/IllegalStateException", "java/lang/IllegalArgumentException"), ("java/lang/IllegalStateException", "java/lang/IndexOutOfBoundsException"), ("java/lang/IllegalStateException", "java/util/NoSuchElementException"), ("java/lang/IndexOutOfBoundsException", "java/lang/ArithmeticException"), ("java/lang/IndexOutOfBoundsException", "java/lang/IllegalArgumentException"), ("java/lang/IndexOutOfBoundsException", "java/lang/IllegalStateException"), ("java/lang/IndexOutOfBoundsException", "java/util/NoSuchElementException"), ("java/util/NoSuchElementException", "java/lang/ArithmeticException"), ("java/util/NoSuchElementException", "java/lang/IllegalArgumentException"), ("java/util/NoSuchElementException", "java/lang/IllegalStateException"), ("java/util/NoSuchElementException", "java/lang/IndexOutOfBoundsException")]
def ExD (U : State) : Prop := (∀ w ∈ lw_tbl, exOk w = true → va_Nw w U) ∧ (∀ own k tx, Cond.stringRef own k tx ∈ lw_tbl → ∃ a, vk_R own k tx a U) ∧ (∀ q ∈ ncL, va_Nc q.1 q.2 U) ∧ va_AOA .int U
def StD (B : Nat) (U : State) (H : Heap) : Prop := vx_Zq Bundle.tN "UNASSIGNED_STACK" Bundle.steD (AB B) U H ∧ vx_Zq Bundle.tN "SUPPRESSED_SENTINEL" Bundle.listD (AB B) U H
theorem aoa_moved {ty : FieldType} {u U : State} (hvm : u.vm.Alike U.vm) (h : va_AOA ty u) : va_AOA ty U := by
  unfold va_AOA at h ⊢
  have h1 := (Cond.arrayOver_setVmC (args := #[]) hvm (.array ty)).trans h
  exact h1
theorem ExD.warm {s U : State} (hW : s.WarmedH U.vm) (h : ExD s) : ExD U := by
  obtain ⟨h1, h2, h3, h4⟩ := h
  refine ⟨fun w hw he => ?_, fun own k tx hw => ?_, fun q hq => (h3 q hq).moved hW.alike, aoa_moved hW.alike h4⟩
  · have := h1 w hw he
    cases w with
    | castable C T => exact va_Nw.warmC hW this
    | declares x => exact va_Nw.warmD hW this
    | _ => cases he
  · obtain ⟨a, ha⟩ := h2 own k tx hw
    exact ⟨a, ha.warm hW⟩
def PreD (G : GG) (B : Nat) (w : Wt) (h : Hp) (U : State) : Prop := Wd G B w h U.heap ∧ va_K G.1 cls10 (tysD G) U ∧ B ≤ U.heap.size ∧ StD B U U.heap ∧ ExD U
abbrev Oc : Type := Option Value ⊕ String
def QcD (G : GG) (B : Nat) (o : Oc) (P : Wt → Hp → Prop) : Array Value → State → Outcome → State → Prop := fun _ st oc t => (∃ v w' h', oc = .returned v ∧ o = .inl v ∧ P w' h' ∧ Wd G B w' h' t.heap) ∧ va_F (AB B) st t
def XcD (G : GG) (B : Nat) (o : Oc) (P : Wt → Hp → Prop) : String → State → State → Prop := fun E st t => (∃ w' h', o = .inr E ∧ P w' h' ∧ Wd G B w' h' t.heap) ∧ va_F (AB B) st t
def rmD (d : Nat) (z : Nat × Nat) : Room := { frames := 20 + d, cells := z.1, slots := z.2, locals := 200 + 80 * d }
/-- a method's contract: from the heap h it comes to the outcome o with P of world and heap; at most z new cells and slots -/
def Con (μ : Mi) (d : Nat) (z : Nat × Nat) (w : Wt) (as : List Value) (h : Hp) (o : Oc) (P : Wt → Hp → Prop) : Prop :=
  ∀ (l : Launch) (G : GG) (B : Nat), l.stackTraces = false → vx_Met l μ.1 (.code μ.1 μ.2.1 μ.2.2.1 μ.2.2.2.1 :: TSg) (rmD d z) (va_Pc (as.map (cv w.1)) (PreD G B w h)) (QcD G B o P) (XcD G B o P) z.1 z.2 (AB B)
abbrev CT : Type := Program × Launch × Env × Room × State × MethodId × Array Value × List Frame × Method × Code × GG × Nat × (State → Prop)
def Cx (X : CT) (μ : Mi) (tab : List ExceptionTableEntry) (d : Nat) (zR : Nat × Nat) (o : Oc) (P : Wt → Hp → Prop) : Prop := match X with
  | (p, l, _, R, s, m, args, below, meth, c, G, B, Q) => p.tables.exec = Jvm.exec ∧ c.code = μ.2.1 ∧ c.maxLocals = μ.2.2.1 ∧ s.vm.findClass μ.1.cls = some m.cls ∧ (∀ w ∈ TSg, w.before args s = true) ∧ meth.locks = false ∧ l.stackTraces = false ∧ va_K G.1 cls10 (tysD G) s ∧ B ≤ s.heap.size ∧ StD B s s.heap ∧ ExD s ∧ (20 + d ≤ R.frames ∧ 200 + 80 * d ≤ R.locals ∧ zR.1 ≤ R.cells ∧ zR.2 ≤ R.slots) ∧ c.exceptionTable.toList = tab ∧ meth.sig.returnType = μ.2.2.2.1 ∧ meth.name = μ.1.name ∧ Q = vx_MQ below (QcD G B o P) (XcD G B o P) args s zR.1 zR.2 (AB B)
def V (X : CT) (z : Nat × Nat) (w : Wt) (h : Hp) (pc : Nat) (L : List (Option Value)) (st : List Value) : Prop := match X with
  | (p, l, e, R, s, m, args, below, meth, c, G, B, Q) => ∀ (H : Heap) (locs : List Loc) (ls : Array Slot), Wd G B w h H → va_S (AB B) s.heap H locs → Lc w.1 L ls → W p l e R s m args below meth c H locs z.1 z.2 Q (F0 m pc ls (st.map (cv w.1)))
def entL : Nat → List Value → List (Option Value)
  | n, [] => List.replicate n none
  | n + 2, .long x :: vs => some (.long x) :: none :: entL n vs
  | n + 1, v :: vs => some v :: entL n vs
  | 0, _ :: _ => []
