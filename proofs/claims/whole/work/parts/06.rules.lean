/-! ===== the rules of V: straight instructions ===== -/
section VR
variable {X : CT} {μ : Mi} {tab : List ExceptionTableEntry} {d : Nat} {zR : Nat × Nat} {o : Oc} {P : Wt → Hp → Prop} {z : Nat × Nat} {w : Wt} {h : Hp} {pc : Nat} {L : List (Option Value)} {st : List Value}
theorem v_code (C : Cx X μ tab d zR o P) {Vn : Prop} (k : X.1.tables.exec = Jvm.exec → (X.2.2.2.2.2.2.2.2.2.1).code = μ.2.1 → Vn) : Vn := by
  rcases X with ⟨p, l, e, R, s, m, args, below, meth, c, G, B, Q⟩
  exact k C.1 C.2.1
theorem v_iconst (C : Cx X μ tab d zR o P) {n : Int} {v : Int32} (hd : decode μ.2.1 pc = .ok (.iconst n, 1)) (hv : Int32.ofInt n = v) (k : V X z w h (pc + 1) L (.int v :: st)) : V X z w h pc L st := by
  rcases X with ⟨p, l, e, R, s, m, args, below, meth, c, G, B, Q⟩
  intro H locs ls hW hS hl
  exact lv_iconst C.1 C.2.1 hd hv (k H locs ls hW hS hl)
theorem v_bipush (C : Cx X μ tab d zR o P) {n : Int} {v : Int32} (hd : decode μ.2.1 pc = .ok (.bipush n, 2)) (hv : (Int8.ofInt n).toInt32 = v) (k : V X z w h (pc + 2) L (.int v :: st)) : V X z w h pc L st := by
  rcases X with ⟨p, l, e, R, s, m, args, below, meth, c, G, B, Q⟩
  intro H locs ls hW hS hl
  exact lv_bipush C.1 C.2.1 hd hv (k H locs ls hW hS hl)
theorem v_sipush (C : Cx X μ tab d zR o P) {n : Int} {v : Int32} (hd : decode μ.2.1 pc = .ok (.sipush n, 3)) (hv : (Int16.ofInt n).toInt32 = v) (k : V X z w h (pc + 3) L (.int v :: st)) : V X z w h pc L st := by
  rcases X with ⟨p, l, e, R, s, m, args, below, meth, c, G, B, Q⟩
  intro H locs ls hW hS hl
  exact lv_sipush C.1 C.2.1 hd hv (k H locs ls hW hS hl)
theorem v_lconst (C : Cx X μ tab d zR o P) {n : Fin 2} {v : Int64} (hd : decode μ.2.1 pc = .ok (.lconst n, 1)) (hv : Int64.ofNat (n : Nat) = v) (k : V X z w h (pc + 1) L (.long v :: st)) : V X z w h pc L st := by
  rcases X with ⟨p, l, e, R, s, m, args, below, meth, c, G, B, Q⟩
  intro H locs ls hW hS hl
  exact lv_lconst C.1 C.2.1 hd hv (k H locs ls hW hS hl)
theorem v_iload_n (C : Cx X μ tab d zR o P) {n : Fin 4} {x : Int32} (hd : decode μ.2.1 pc = .ok (.iload_n n, 1)) (hr : rdL L (n : Nat) = some (.int x)) (k : V X z w h (pc + 1) L (.int x :: st)) : V X z w h pc L st := by
  rcases X with ⟨p, l, e, R, s, m, args, below, meth, c, G, B, Q⟩
  intro H locs ls hW hS hl
  exact lv_iload_n C.1 C.2.1 hd rfl (hl.rd hr) (k H locs ls hW hS hl)
theorem v_iload (C : Cx X μ tab d zR o P) {i : Nat} {x : Int32} (hd : decode μ.2.1 pc = .ok (.iload i, 2)) (hr : rdL L i = some (.int x)) (k : V X z w h (pc + 2) L (.int x :: st)) : V X z w h pc L st := by
  rcases X with ⟨p, l, e, R, s, m, args, below, meth, c, G, B, Q⟩
  intro H locs ls hW hS hl
  exact lv_iload C.1 C.2.1 hd (hl.rd hr) (k H locs ls hW hS hl)
theorem v_lload_n (C : Cx X μ tab d zR o P) {n : Fin 4} {x : Int64} (hd : decode μ.2.1 pc = .ok (.lload_n n, 1)) (hr : rdL L (n : Nat) = some (.long x)) (k : V X z w h (pc + 1) L (.long x :: st)) : V X z w h pc L st := by
  rcases X with ⟨p, l, e, R, s, m, args, below, meth, c, G, B, Q⟩
  intro H locs ls hW hS hl
  exact lv_lload_n C.1 C.2.1 hd rfl (hl.rd hr) (k H locs ls hW hS hl)
theorem v_lload (C : Cx X μ tab d zR o P) {i : Nat} {x : Int64} (hd : decode μ.2.1 pc = .ok (.lload i, 2)) (hr : rdL L i = some (.long x)) (k : V X z w h (pc + 2) L (.long x :: st)) : V X z w h pc L st := by
  rcases X with ⟨p, l, e, R, s, m, args, below, meth, c, G, B, Q⟩
  intro H locs ls hW hS hl
  exact lv_lload C.1 C.2.1 hd (hl.rd hr) (k H locs ls hW hS hl)
theorem v_aload_n (C : Cx X μ tab d zR o P) {n : Fin 4} {x : Nat} (hd : decode μ.2.1 pc = .ok (.aload_n n, 1)) (hr : rdL L (n : Nat) = some (.ref x)) (k : V X z w h (pc + 1) L (.ref x :: st)) : V X z w h pc L st := by
  rcases X with ⟨p, l, e, R, s, m, args, below, meth, c, G, B, Q⟩
  intro H locs ls hW hS hl
  exact lv_aload_n C.1 C.2.1 hd rfl (hl.rd hr) (k H locs ls hW hS hl)
theorem v_aload (C : Cx X μ tab d zR o P) {i : Nat} {x : Nat} (hd : decode μ.2.1 pc = .ok (.aload i, 2)) (hr : rdL L i = some (.ref x)) (k : V X z w h (pc + 2) L (.ref x :: st)) : V X z w h pc L st := by
  rcases X with ⟨p, l, e, R, s, m, args, below, meth, c, G, B, Q⟩
  intro H locs ls hW hS hl
  exact lv_aload C.1 C.2.1 hd (hl.rd hr) (k H locs ls hW hS hl)
theorem v_istore_n (C : Cx X μ tab d zR o P) {n : Fin 4} {x : Int32} (hd : decode μ.2.1 pc = .ok (.istore_n n, 1)) (hn : Nat.blt (n : Nat) L.length = true) (k : V X z w h (pc + 1) (sto1 L (n : Nat) (.int x)) st) : V X z w h pc L (.int x :: st) := by
  rcases X with ⟨p, l, e, R, s, m, args, below, meth, c, G, B, Q⟩
  intro H locs ls hW hS hl
  exact lv_istore_n C.1 C.2.1 hd rfl hl.has (Nat.le_of_ble_eq_true hn) rfl (fun ls' h' => k H locs ls' hW hS (Lc.sto1 (v := .int x) h'))
theorem v_istore (C : Cx X μ tab d zR o P) {i : Nat} {x : Int32} (hd : decode μ.2.1 pc = .ok (.istore i, 2)) (hn : Nat.blt i L.length = true) (k : V X z w h (pc + 2) (sto1 L i (.int x)) st) : V X z w h pc L (.int x :: st) := by
  rcases X with ⟨p, l, e, R, s, m, args, below, meth, c, G, B, Q⟩
  intro H locs ls hW hS hl
  exact lv_istore C.1 C.2.1 hd hl.has (Nat.le_of_ble_eq_true hn) rfl (fun ls' h' => k H locs ls' hW hS (Lc.sto1 (v := .int x) h'))
theorem v_astore_n (C : Cx X μ tab d zR o P) {n : Fin 4} {x : Nat} (hd : decode μ.2.1 pc = .ok (.astore_n n, 1)) (hn : Nat.blt (n : Nat) L.length = true) (k : V X z w h (pc + 1) (sto1 L (n : Nat) (.ref x)) st) : V X z w h pc L (.ref x :: st) := by
  rcases X with ⟨p, l, e, R, s, m, args, below, meth, c, G, B, Q⟩
  intro H locs ls hW hS hl
  exact lv_astore_n C.1 C.2.1 hd rfl hl.has (Nat.le_of_ble_eq_true hn) rfl (fun ls' h' => k H locs ls' hW hS (Lc.sto1 (v := .ref x) h'))
theorem v_astore (C : Cx X μ tab d zR o P) {i : Nat} {x : Nat} (hd : decode μ.2.1 pc = .ok (.astore i, 2)) (hn : Nat.blt i L.length = true) (k : V X z w h (pc + 2) (sto1 L i (.ref x)) st) : V X z w h pc L (.ref x :: st) := by
  rcases X with ⟨p, l, e, R, s, m, args, below, meth, c, G, B, Q⟩
  intro H locs ls hW hS hl
  exact lv_astore C.1 C.2.1 hd hl.has (Nat.le_of_ble_eq_true hn) rfl (fun ls' h' => k H locs ls' hW hS (Lc.sto1 (v := .ref x) h'))
theorem v_lstore_n (C : Cx X μ tab d zR o P) {n : Fin 4} {x : Int64} (hd : decode μ.2.1 pc = .ok (.lstore_n n, 1)) (hn : Nat.blt ((n : Nat) + 1) L.length = true) (k : V X z w h (pc + 1) (sto2 L (n : Nat) (.long x)) st) : V X z w h pc L (.long x :: st) := by
  rcases X with ⟨p, l, e, R, s, m, args, below, meth, c, G, B, Q⟩
  intro H locs ls hW hS hl
  exact lv_lstore_n C.1 C.2.1 hd rfl hl.has (Nat.le_of_ble_eq_true hn) rfl (fun ls' h' => k H locs ls' hW hS (Lc.sto2 (v := .long x) h'))
theorem v_lstore (C : Cx X μ tab d zR o P) {i : Nat} {x : Int64} (hd : decode μ.2.1 pc = .ok (.lstore i, 2)) (hn : Nat.blt (i + 1) L.length = true) (k : V X z w h (pc + 2) (sto2 L i (.long x)) st) : V X z w h pc L (.long x :: st) := by
  rcases X with ⟨p, l, e, R, s, m, args, below, meth, c, G, B, Q⟩
  intro H locs ls hW hS hl
  exact lv_lstore C.1 C.2.1 hd hl.has (Nat.le_of_ble_eq_true hn) rfl (fun ls' h' => k H locs ls' hW hS (Lc.sto2 (v := .long x) h'))
theorem v_iinc (C : Cx X μ tab d zR o P) {i : Nat} {n : Int} {x v : Int32} (hd : decode μ.2.1 pc = .ok (.iinc i n, 3)) (hr : rdL L i = some (.int x)) (hv : x + Int32.ofInt n = v) (k : V X z w h (pc + 3) (sto1 L i (.int v)) st) : V X z w h pc L st := by
  rcases X with ⟨p, l, e, R, s, m, args, below, meth, c, G, B, Q⟩
  intro H locs ls hW hS hl
  have hi := rdL_get L i _ hr
  have hn : i < L.length := (List.getElem?_eq_some_iff.mp hi).1
  obtain ⟨kk, hk⟩ := List.getElem?_of_mem (lvs_mem (ad := w.1) hi)
  exact lv_iinc C.1 C.2.1 hd hl.has hk hv hn rfl (fun ls' h' => k H locs ls' hW hS (Lc.sto1 (v := .int v) h'))
theorem v_iadd (C : Cx X μ tab d zR o P) {x y : Int32} (hd : decode μ.2.1 pc = .ok (.iadd, 1)) (k : V X z w h (pc + 1) L (.int (x + y) :: st)) : V X z w h pc L (.int y :: .int x :: st) := by
  rcases X with ⟨p, l, e, R, s, m, args, below, meth, c, G, B, Q⟩
  intro H locs ls hW hS hl
  exact lv_iadd C.1 C.2.1 hd (k H locs ls hW hS hl)
theorem v_ladd (C : Cx X μ tab d zR o P) {x y : Int64} (hd : decode μ.2.1 pc = .ok (.ladd, 1)) (k : V X z w h (pc + 1) L (.long (x + y) :: st)) : V X z w h pc L (.long y :: .long x :: st) := by
  rcases X with ⟨p, l, e, R, s, m, args, below, meth, c, G, B, Q⟩
  intro H locs ls hW hS hl
  exact lv_ladd C.1 C.2.1 hd (k H locs ls hW hS hl)
theorem v_isub (C : Cx X μ tab d zR o P) {x y : Int32} (hd : decode μ.2.1 pc = .ok (.isub, 1)) (k : V X z w h (pc + 1) L (.int (x - y) :: st)) : V X z w h pc L (.int y :: .int x :: st) := by
  rcases X with ⟨p, l, e, R, s, m, args, below, meth, c, G, B, Q⟩
  intro H locs ls hW hS hl
  exact lv_isub C.1 C.2.1 hd (k H locs ls hW hS hl)
theorem v_lsub (C : Cx X μ tab d zR o P) {x y : Int64} (hd : decode μ.2.1 pc = .ok (.lsub, 1)) (k : V X z w h (pc + 1) L (.long (x - y) :: st)) : V X z w h pc L (.long y :: .long x :: st) := by
  rcases X with ⟨p, l, e, R, s, m, args, below, meth, c, G, B, Q⟩
  intro H locs ls hW hS hl
  exact lv_lsub C.1 C.2.1 hd (k H locs ls hW hS hl)
theorem v_imul (C : Cx X μ tab d zR o P) {x y : Int32} (hd : decode μ.2.1 pc = .ok (.imul, 1)) (k : V X z w h (pc + 1) L (.int (x * y) :: st)) : V X z w h pc L (.int y :: .int x :: st) := by
  rcases X with ⟨p, l, e, R, s, m, args, below, meth, c, G, B, Q⟩
  intro H locs ls hW hS hl
  exact lv_imul C.1 C.2.1 hd (k H locs ls hW hS hl)
theorem v_lmul (C : Cx X μ tab d zR o P) {x y : Int64} (hd : decode μ.2.1 pc = .ok (.lmul, 1)) (k : V X z w h (pc + 1) L (.long (x * y) :: st)) : V X z w h pc L (.long y :: .long x :: st) := by
  rcases X with ⟨p, l, e, R, s, m, args, below, meth, c, G, B, Q⟩
  intro H locs ls hW hS hl
  exact lv_lmul C.1 C.2.1 hd (k H locs ls hW hS hl)
theorem v_iand (C : Cx X μ tab d zR o P) {x y : Int32} (hd : decode μ.2.1 pc = .ok (.iand, 1)) (k : V X z w h (pc + 1) L (.int (x &&& y) :: st)) : V X z w h pc L (.int y :: .int x :: st) := by
  rcases X with ⟨p, l, e, R, s, m, args, below, meth, c, G, B, Q⟩
  intro H locs ls hW hS hl
  exact lv_iand C.1 C.2.1 hd (k H locs ls hW hS hl)
theorem v_land (C : Cx X μ tab d zR o P) {x y : Int64} (hd : decode μ.2.1 pc = .ok (.land, 1)) (k : V X z w h (pc + 1) L (.long (x &&& y) :: st)) : V X z w h pc L (.long y :: .long x :: st) := by
  rcases X with ⟨p, l, e, R, s, m, args, below, meth, c, G, B, Q⟩
  intro H locs ls hW hS hl
  exact lv_land C.1 C.2.1 hd (k H locs ls hW hS hl)
theorem v_ior (C : Cx X μ tab d zR o P) {x y : Int32} (hd : decode μ.2.1 pc = .ok (.ior, 1)) (k : V X z w h (pc + 1) L (.int (x ||| y) :: st)) : V X z w h pc L (.int y :: .int x :: st) := by
  rcases X with ⟨p, l, e, R, s, m, args, below, meth, c, G, B, Q⟩
  intro H locs ls hW hS hl
  exact lv_ior C.1 C.2.1 hd (k H locs ls hW hS hl)
theorem v_lor (C : Cx X μ tab d zR o P) {x y : Int64} (hd : decode μ.2.1 pc = .ok (.lor, 1)) (k : V X z w h (pc + 1) L (.long (x ||| y) :: st)) : V X z w h pc L (.long y :: .long x :: st) := by
  rcases X with ⟨p, l, e, R, s, m, args, below, meth, c, G, B, Q⟩
  intro H locs ls hW hS hl
  exact lv_lor C.1 C.2.1 hd (k H locs ls hW hS hl)
theorem v_ixor (C : Cx X μ tab d zR o P) {x y : Int32} (hd : decode μ.2.1 pc = .ok (.ixor, 1)) (k : V X z w h (pc + 1) L (.int (x ^^^ y) :: st)) : V X z w h pc L (.int y :: .int x :: st) := by
  rcases X with ⟨p, l, e, R, s, m, args, below, meth, c, G, B, Q⟩
  intro H locs ls hW hS hl
  exact lv_ixor C.1 C.2.1 hd (k H locs ls hW hS hl)
theorem v_lxor (C : Cx X μ tab d zR o P) {x y : Int64} (hd : decode μ.2.1 pc = .ok (.lxor, 1)) (k : V X z w h (pc + 1) L (.long (x ^^^ y) :: st)) : V X z w h pc L (.long y :: .long x :: st) := by
  rcases X with ⟨p, l, e, R, s, m, args, below, meth, c, G, B, Q⟩
  intro H locs ls hW hS hl
  exact lv_lxor C.1 C.2.1 hd (k H locs ls hW hS hl)
theorem v_idiv (C : Cx X μ tab d zR o P) {x y : Int32} (hd : decode μ.2.1 pc = .ok (.idiv, 1)) (hne : ¬ y = 0) (k : V X z w h (pc + 1) L (.int (x / y) :: st)) : V X z w h pc L (.int y :: .int x :: st) := by
  rcases X with ⟨p, l, e, R, s, m, args, below, meth, c, G, B, Q⟩
  intro H locs ls hW hS hl
  exact lv_idiv C.1 C.2.1 hd hne (k H locs ls hW hS hl)
theorem v_irem (C : Cx X μ tab d zR o P) {x y : Int32} (hd : decode μ.2.1 pc = .ok (.irem, 1)) (hne : ¬ y = 0) (k : V X z w h (pc + 1) L (.int (x - x / y * y) :: st)) : V X z w h pc L (.int y :: .int x :: st) := by
  rcases X with ⟨p, l, e, R, s, m, args, below, meth, c, G, B, Q⟩
  intro H locs ls hW hS hl
  exact lv_irem C.1 C.2.1 hd hne (k H locs ls hW hS hl)
theorem v_ldiv (C : Cx X μ tab d zR o P) {x y : Int64} (hd : decode μ.2.1 pc = .ok (.ldiv, 1)) (hne : ¬ y = 0) (k : V X z w h (pc + 1) L (.long (x / y) :: st)) : V X z w h pc L (.long y :: .long x :: st) := by
  rcases X with ⟨p, l, e, R, s, m, args, below, meth, c, G, B, Q⟩
  intro H locs ls hW hS hl
  exact lv_ldiv C.1 C.2.1 hd hne (k H locs ls hW hS hl)
theorem v_lrem (C : Cx X μ tab d zR o P) {x y : Int64} (hd : decode μ.2.1 pc = .ok (.lrem, 1)) (hne : ¬ y = 0) (k : V X z w h (pc + 1) L (.long (x - x / y * y) :: st)) : V X z w h pc L (.long y :: .long x :: st) := by
  rcases X with ⟨p, l, e, R, s, m, args, below, meth, c, G, B, Q⟩
  intro H locs ls hW hS hl
  exact lv_lrem C.1 C.2.1 hd hne (k H locs ls hW hS hl)
theorem v_ishl (C : Cx X μ tab d zR o P) {x y : Int32} (hd : decode μ.2.1 pc = .ok (.ishl, 1)) (k : V X z w h (pc + 1) L (.int (x <<< (y &&& 31)) :: st)) : V X z w h pc L (.int y :: .int x :: st) := by
  rcases X with ⟨p, l, e, R, s, m, args, below, meth, c, G, B, Q⟩
  intro H locs ls hW hS hl
  exact lv_ishl C.1 C.2.1 hd (k H locs ls hW hS hl)
theorem v_ishr (C : Cx X μ tab d zR o P) {x y : Int32} (hd : decode μ.2.1 pc = .ok (.ishr, 1)) (k : V X z w h (pc + 1) L (.int (x >>> (y &&& 31)) :: st)) : V X z w h pc L (.int y :: .int x :: st) := by
  rcases X with ⟨p, l, e, R, s, m, args, below, meth, c, G, B, Q⟩
  intro H locs ls hW hS hl
  exact lv_ishr C.1 C.2.1 hd (k H locs ls hW hS hl)
theorem v_iushr (C : Cx X μ tab d zR o P) {x y : Int32} (hd : decode μ.2.1 pc = .ok (.iushr, 1)) (k : V X z w h (pc + 1) L (.int ((x.toUInt32 >>> (y.toUInt32 &&& Int32.toUInt32 31)).toInt32) :: st)) : V X z w h pc L (.int y :: .int x :: st) := by
  rcases X with ⟨p, l, e, R, s, m, args, below, meth, c, G, B, Q⟩
  intro H locs ls hW hS hl
  exact lv_iushr C.1 C.2.1 hd rfl (k H locs ls hW hS hl)
theorem v_lushr (C : Cx X μ tab d zR o P) {x : Int64} {y : Int32} (hd : decode μ.2.1 pc = .ok (.lushr, 1)) (k : V X z w h (pc + 1) L (.long ((x.toUInt64 >>> (y.toInt64.toUInt64 &&& Int64.toUInt64 63)).toInt64) :: st)) : V X z w h pc L (.int y :: .long x :: st) := by
  rcases X with ⟨p, l, e, R, s, m, args, below, meth, c, G, B, Q⟩
  intro H locs ls hW hS hl
  exact lv_lushr C.1 C.2.1 hd rfl (k H locs ls hW hS hl)
theorem v_lshl (C : Cx X μ tab d zR o P) {x : Int64} {y : Int32} (hd : decode μ.2.1 pc = .ok (.lshl, 1)) (k : V X z w h (pc + 1) L (.long (x <<< (y.toInt64 &&& 63)) :: st)) : V X z w h pc L (.int y :: .long x :: st) := by
  rcases X with ⟨p, l, e, R, s, m, args, below, meth, c, G, B, Q⟩
  intro H locs ls hW hS hl
  exact lv_lshl C.1 C.2.1 hd rfl (k H locs ls hW hS hl)
theorem v_i2l (C : Cx X μ tab d zR o P) {x : Int32} (hd : decode μ.2.1 pc = .ok (.i2l, 1)) (k : V X z w h (pc + 1) L (.long x.toInt64 :: st)) : V X z w h pc L (.int x :: st) := by
  rcases X with ⟨p, l, e, R, s, m, args, below, meth, c, G, B, Q⟩
  intro H locs ls hW hS hl
  exact lv_i2l C.1 C.2.1 hd rfl (k H locs ls hW hS hl)
theorem v_l2i (C : Cx X μ tab d zR o P) {x : Int64} (hd : decode μ.2.1 pc = .ok (.l2i, 1)) (k : V X z w h (pc + 1) L (.int x.toInt32 :: st)) : V X z w h pc L (.long x :: st) := by
  rcases X with ⟨p, l, e, R, s, m, args, below, meth, c, G, B, Q⟩
  intro H locs ls hW hS hl
  exact lv_l2i C.1 C.2.1 hd rfl (k H locs ls hW hS hl)
theorem v_lcmp (C : Cx X μ tab d zR o P) {x y : Int64} (hd : decode μ.2.1 pc = .ok (.lcmp, 1)) (k : V X z w h (pc + 1) L (.int (lg_cmp x y) :: st)) : V X z w h pc L (.long y :: .long x :: st) := by
  rcases X with ⟨p, l, e, R, s, m, args, below, meth, c, G, B, Q⟩
  intro H locs ls hW hS hl
  exact W.lcmp C.1 C.2.1 hd (k H locs ls hW hS hl)
theorem v_dup (C : Cx X μ tab d zR o P) {v : Value} (hd : decode μ.2.1 pc = .ok (.dup, 1)) (hv : v.category = 1) (k : V X z w h (pc + 1) L (v :: v :: st)) : V X z w h pc L (v :: st) := by
  rcases X with ⟨p, l, e, R, s, m, args, below, meth, c, G, B, Q⟩
  intro H locs ls hW hS hl
  exact lv_dup C.1 C.2.1 hd ((cv_cat _ _).trans hv) (k H locs ls hW hS hl)
theorem v_dup2 (C : Cx X μ tab d zR o P) {u v : Value} (hd : decode μ.2.1 pc = .ok (.dup2, 1)) (hu : u.category = 1) (hv : v.category = 1) (k : V X z w h (pc + 1) L (u :: v :: u :: v :: st)) : V X z w h pc L (u :: v :: st) := by
  rcases X with ⟨p, l, e, R, s, m, args, below, meth, c, G, B, Q⟩
  intro H locs ls hW hS hl
  exact lv_dup2_11 C.1 C.2.1 hd ((cv_cat _ _).trans hu) ((cv_cat _ _).trans hv) (k H locs ls hW hS hl)
theorem v_pop (C : Cx X μ tab d zR o P) {v : Value} (hd : decode μ.2.1 pc = .ok (.pop, 1)) (hv : v.category = 1) (k : V X z w h (pc + 1) L st) : V X z w h pc L (v :: st) := by
  rcases X with ⟨p, l, e, R, s, m, args, below, meth, c, G, B, Q⟩
  intro H locs ls hW hS hl
  exact lv_pop C.1 C.2.1 hd ((cv_cat _ _).trans hv) (k H locs ls hW hS hl)
theorem v_goto (C : Cx X μ tab d zR o P) {off : Int} {tgt : Nat} (hd : decode μ.2.1 pc = .ok (.goto off, 3)) (ht : (pc : Int) + off = (tgt : Int)) (k : V X z w h tgt L st) : V X z w h pc L st := by
  rcases X with ⟨p, l, e, R, s, m, args, below, meth, c, G, B, Q⟩
  intro H locs ls hW hS hl
  exact lv_goto C.1 C.2.1 hd ht (k H locs ls hW hS hl)
theorem v_ldc2 (C : Cx X μ tab d zR o P) {ix : Nat} {v : Int64} (hc : Cond.constantLong μ.1.cls ix v ∈ TSg) (hd : decode μ.2.1 pc = .ok (.ldc2_w ix, 3)) (k : V X z w h (pc + 3) L (.long v :: st)) : V X z w h pc L st := by
  rcases X with ⟨p, l, e, R, s, m, args, below, meth, c, G, B, Q⟩
  intro H locs ls hW hS hl
  exact lv_ldc2 C.1 C.2.1 C.2.2.2.1 (C.2.2.2.2.1 _ hc) hd (k H locs ls hW hS hl)
theorem v_if_eq (C : Cx X μ tab d zR o P) {x : Int32} {off : Int} {tgt : Nat} (hd : decode μ.2.1 pc = .ok (.ifCond .eq off, 3)) (ht : (pc : Int) + off = (tgt : Int)) (kt : x = 0 → V X z w h tgt L st) (kf : ¬ (x = 0) → V X z w h (pc + 3) L st) : V X z w h pc L (.int x :: st) := by
  rcases X with ⟨p, l, e, R, s, m, args, below, meth, c, G, B, Q⟩
  intro H locs ls hW hS hl
  exact lv_if_eq C.1 C.2.1 hd ht (fun q => kt q H locs ls hW hS hl) (fun q => kf q H locs ls hW hS hl)
theorem v_icmp_eq (C : Cx X μ tab d zR o P) {x y : Int32} {off : Int} {tgt : Nat} (hd : decode μ.2.1 pc = .ok (.if_icmp .eq off, 3)) (ht : (pc : Int) + off = (tgt : Int)) (kt : x = y → V X z w h tgt L st) (kf : ¬ (x = y) → V X z w h (pc + 3) L st) : V X z w h pc L (.int y :: .int x :: st) := by
  rcases X with ⟨p, l, e, R, s, m, args, below, meth, c, G, B, Q⟩
  intro H locs ls hW hS hl
  exact lv_icmp_eq C.1 C.2.1 hd ht (fun q => kt q H locs ls hW hS hl) (fun q => kf q H locs ls hW hS hl)
theorem v_if_ne (C : Cx X μ tab d zR o P) {x : Int32} {off : Int} {tgt : Nat} (hd : decode μ.2.1 pc = .ok (.ifCond .ne off, 3)) (ht : (pc : Int) + off = (tgt : Int)) (kt : ¬ x = 0 → V X z w h tgt L st) (kf : x = 0 → V X z w h (pc + 3) L st) : V X z w h pc L (.int x :: st) := by
  rcases X with ⟨p, l, e, R, s, m, args, below, meth, c, G, B, Q⟩
  intro H locs ls hW hS hl
  exact lv_if_ne C.1 C.2.1 hd ht (fun q => kt q H locs ls hW hS hl) (fun q => kf q H locs ls hW hS hl)
theorem v_icmp_ne (C : Cx X μ tab d zR o P) {x y : Int32} {off : Int} {tgt : Nat} (hd : decode μ.2.1 pc = .ok (.if_icmp .ne off, 3)) (ht : (pc : Int) + off = (tgt : Int)) (kt : ¬ x = y → V X z w h tgt L st) (kf : x = y → V X z w h (pc + 3) L st) : V X z w h pc L (.int y :: .int x :: st) := by
  rcases X with ⟨p, l, e, R, s, m, args, below, meth, c, G, B, Q⟩
  intro H locs ls hW hS hl
  exact lv_icmp_ne C.1 C.2.1 hd ht (fun q => kt q H locs ls hW hS hl) (fun q => kf q H locs ls hW hS hl)
theorem v_if_lt (C : Cx X μ tab d zR o P) {x : Int32} {off : Int} {tgt : Nat} (hd : decode μ.2.1 pc = .ok (.ifCond .lt off, 3)) (ht : (pc : Int) + off = (tgt : Int)) (kt : x < 0 → V X z w h tgt L st) (kf : ¬ (x < 0) → V X z w h (pc + 3) L st) : V X z w h pc L (.int x :: st) := by
  rcases X with ⟨p, l, e, R, s, m, args, below, meth, c, G, B, Q⟩
  intro H locs ls hW hS hl
  exact lv_if_lt C.1 C.2.1 hd ht (fun q => kt q H locs ls hW hS hl) (fun q => kf q H locs ls hW hS hl)
theorem v_icmp_lt (C : Cx X μ tab d zR o P) {x y : Int32} {off : Int} {tgt : Nat} (hd : decode μ.2.1 pc = .ok (.if_icmp .lt off, 3)) (ht : (pc : Int) + off = (tgt : Int)) (kt : x < y → V X z w h tgt L st) (kf : ¬ (x < y) → V X z w h (pc + 3) L st) : V X z w h pc L (.int y :: .int x :: st) := by
  rcases X with ⟨p, l, e, R, s, m, args, below, meth, c, G, B, Q⟩
  intro H locs ls hW hS hl
  exact lv_icmp_lt C.1 C.2.1 hd ht (fun q => kt q H locs ls hW hS hl) (fun q => kf q H locs ls hW hS hl)
theorem v_if_ge (C : Cx X μ tab d zR o P) {x : Int32} {off : Int} {tgt : Nat} (hd : decode μ.2.1 pc = .ok (.ifCond .ge off, 3)) (ht : (pc : Int) + off = (tgt : Int)) (kt : 0 ≤ x → V X z w h tgt L st) (kf : ¬ (0 ≤ x) → V X z w h (pc + 3) L st) : V X z w h pc L (.int x :: st) := by
  rcases X with ⟨p, l, e, R, s, m, args, below, meth, c, G, B, Q⟩
  intro H locs ls hW hS hl
  exact lv_if_ge C.1 C.2.1 hd ht (fun q => kt q H locs ls hW hS hl) (fun q => kf q H locs ls hW hS hl)
theorem v_icmp_ge (C : Cx X μ tab d zR o P) {x y : Int32} {off : Int} {tgt : Nat} (hd : decode μ.2.1 pc = .ok (.if_icmp .ge off, 3)) (ht : (pc : Int) + off = (tgt : Int)) (kt : y ≤ x → V X z w h tgt L st) (kf : ¬ (y ≤ x) → V X z w h (pc + 3) L st) : V X z w h pc L (.int y :: .int x :: st) := by
  rcases X with ⟨p, l, e, R, s, m, args, below, meth, c, G, B, Q⟩
  intro H locs ls hW hS hl
  exact lv_icmp_ge C.1 C.2.1 hd ht (fun q => kt q H locs ls hW hS hl) (fun q => kf q H locs ls hW hS hl)
theorem v_if_gt (C : Cx X μ tab d zR o P) {x : Int32} {off : Int} {tgt : Nat} (hd : decode μ.2.1 pc = .ok (.ifCond .gt off, 3)) (ht : (pc : Int) + off = (tgt : Int)) (kt : 0 < x → V X z w h tgt L st) (kf : ¬ (0 < x) → V X z w h (pc + 3) L st) : V X z w h pc L (.int x :: st) := by
  rcases X with ⟨p, l, e, R, s, m, args, below, meth, c, G, B, Q⟩
  intro H locs ls hW hS hl
  exact lv_if_gt C.1 C.2.1 hd ht (fun q => kt q H locs ls hW hS hl) (fun q => kf q H locs ls hW hS hl)
theorem v_icmp_gt (C : Cx X μ tab d zR o P) {x y : Int32} {off : Int} {tgt : Nat} (hd : decode μ.2.1 pc = .ok (.if_icmp .gt off, 3)) (ht : (pc : Int) + off = (tgt : Int)) (kt : y < x → V X z w h tgt L st) (kf : ¬ (y < x) → V X z w h (pc + 3) L st) : V X z w h pc L (.int y :: .int x :: st) := by
  rcases X with ⟨p, l, e, R, s, m, args, below, meth, c, G, B, Q⟩
  intro H locs ls hW hS hl
  exact lv_icmp_gt C.1 C.2.1 hd ht (fun q => kt q H locs ls hW hS hl) (fun q => kf q H locs ls hW hS hl)
theorem v_if_le (C : Cx X μ tab d zR o P) {x : Int32} {off : Int} {tgt : Nat} (hd : decode μ.2.1 pc = .ok (.ifCond .le off, 3)) (ht : (pc : Int) + off = (tgt : Int)) (kt : x ≤ 0 → V X z w h tgt L st) (kf : ¬ (x ≤ 0) → V X z w h (pc + 3) L st) : V X z w h pc L (.int x :: st) := by
  rcases X with ⟨p, l, e, R, s, m, args, below, meth, c, G, B, Q⟩
  intro H locs ls hW hS hl
  exact lv_if_le C.1 C.2.1 hd ht (fun q => kt q H locs ls hW hS hl) (fun q => kf q H locs ls hW hS hl)
theorem v_icmp_le (C : Cx X μ tab d zR o P) {x y : Int32} {off : Int} {tgt : Nat} (hd : decode μ.2.1 pc = .ok (.if_icmp .le off, 3)) (ht : (pc : Int) + off = (tgt : Int)) (kt : x ≤ y → V X z w h tgt L st) (kf : ¬ (x ≤ y) → V X z w h (pc + 3) L st) : V X z w h pc L (.int y :: .int x :: st) := by
  rcases X with ⟨p, l, e, R, s, m, args, below, meth, c, G, B, Q⟩
  intro H locs ls hW hS hl
  exact lv_icmp_le C.1 C.2.1 hd ht (fun q => kt q H locs ls hW hS hl) (fun q => kf q H locs ls hW hS hl)
theorem v_tableOut (C : Cx X μ tab d zR o P) {dflt lo hi : Int} {offs : Array Int} {len : Nat} {x : Int32} {tgt : Nat} (hd : decode μ.2.1 pc = .ok (.tableswitch dflt lo hi offs, len)) (hx : x.toInt < lo ∨ hi < x.toInt) (ht : (pc : Int) + dflt = (tgt : Int)) (k : V X z w h tgt L st) : V X z w h pc L (.int x :: st) := by
  rcases X with ⟨p, l, e, R, s, m, args, below, meth, c, G, B, Q⟩
  intro H locs ls hW hS hl
  exact lv_tableOut C.1 C.2.1 hd hx ht (k H locs ls hW hS hl)
theorem v_tableIn (C : Cx X μ tab d zR o P) {dflt lo hi : Int} {offs : Array Int} {len : Nat} {x : Int32} {off : Int} {tgt : Nat} (hd : decode μ.2.1 pc = .ok (.tableswitch dflt lo hi offs, len)) (h1 : ¬ x.toInt < lo) (h2 : ¬ hi < x.toInt) (ho : offs[(x.toInt - lo).toNat]? = some off) (ht : (pc : Int) + off = (tgt : Int)) (k : V X z w h tgt L st) : V X z w h pc L (.int x :: st) := by
  rcases X with ⟨p, l, e, R, s, m, args, below, meth, c, G, B, Q⟩
  intro H locs ls hW hS hl
  exact lv_tableIn C.1 C.2.1 hd h1 h2 ho ht (k H locs ls hW hS hl)
theorem v_lookup (C : Cx X μ tab d zR o P) {dflt : Int} {ps : Array (Int × Int)} {len : Nat} {x : Int32} {off : Int} {tgt : Nat} (hd : decode μ.2.1 pc = .ok (.lookupswitch dflt ps, len)) (hp : (ps.toList.zip (ps.toList.drop 1)).all (fun (a, next) => a.1 < next.1) = true) (ho : Op.lookupswitch.offset ps.toList dflt x.toInt = off) (ht : (pc : Int) + off = (tgt : Int)) (k : V X z w h tgt L st) : V X z w h pc L (.int x :: st) := by
  rcases X with ⟨p, l, e, R, s, m, args, below, meth, c, G, B, Q⟩
  intro H locs ls hW hS hl
  exact lv_lookup C.1 C.2.1 hd hp ho ht (k H locs ls hW hS hl)
end VR
