/-! ===== more rules: longs as naturals, arraycopy; Arrays.fill, Math ===== -/
section VX3
variable {X : CT} {μ : Mi} {tab : List ExceptionTableEntry} {d : Nat} {zR : Nat × Nat} {o : Oc} {P : Wt → Hp → Prop} {z : Nat × Nat} {w : Wt} {h : Hp} {pc : Nat} {L : List (Option Value)} {st : List Value}
theorem v_lmulN (C : Cx X μ tab d zR o P) {a b : Nat} (hd : decode μ.2.1 pc = .ok (.lmul, 1)) (k : V X z w h (pc + 1) L (.long (lN (a * b)) :: st)) : V X z w h pc L (.long (lN b) :: .long (lN a) :: st) := v_lmul C hd (by rw [lN_mul]; exact k)
theorem v_laddN (C : Cx X μ tab d zR o P) {a b : Nat} (hd : decode μ.2.1 pc = .ok (.ladd, 1)) (k : V X z w h (pc + 1) L (.long (lN (a + b)) :: st)) : V X z w h pc L (.long (lN b) :: .long (lN a) :: st) := v_ladd C hd (by rw [lN_add]; exact k)
theorem lN_ne0 {b : Nat} (h0 : 0 < b) (hb : b < 2 ^ 63) : ¬ lN b = 0 := fun e => by
  have := (pk_lEQ (a := b) (b := 0) hb (by decide)).mp e
  omega
theorem v_ldivN (C : Cx X μ tab d zR o P) {a b : Nat} (hd : decode μ.2.1 pc = .ok (.ldiv, 1)) (ha : a < 2 ^ 63) (h0 : 0 < b) (hb : b < 2 ^ 63) (k : V X z w h (pc + 1) L (.long (lN (a / b)) :: st)) : V X z w h pc L (.long (lN b) :: .long (lN a) :: st) := v_ldiv C hd (lN_ne0 h0 hb) (by rw [pk_lDiv ha h0 hb]; exact k)
theorem v_lremN (C : Cx X μ tab d zR o P) {a b : Nat} (hd : decode μ.2.1 pc = .ok (.lrem, 1)) (ha : a < 2 ^ 63) (h0 : 0 < b) (hb : b < 2 ^ 63) (k : V X z w h (pc + 1) L (.long (lN (a % b)) :: st)) : V X z w h pc L (.long (lN b) :: .long (lN a) :: st) := v_lrem C hd (lN_ne0 h0 hb) (by rw [pk_lRem ha h0 hb]; exact k)
theorem v_i2lN (C : Cx X μ tab d zR o P) {a : Nat} (hd : decode μ.2.1 pc = .ok (.i2l, 1)) (ha : a < 2 ^ 31) (k : V X z w h (pc + 1) L (.long (lN a) :: st)) : V X z w h pc L (.int (nI a) :: st) := v_i2l C hd (by rw [nI_l ha]; exact k)
theorem v_l2iN (C : Cx X μ tab d zR o P) {a : Nat} (hd : decode μ.2.1 pc = .ok (.l2i, 1)) (k : V X z w h (pc + 1) L (.int (nI a) :: st)) : V X z w h pc L (.long (lN a) :: st) := v_l2i C hd (by rw [lN_i]; exact k)
theorem v_acopy (C : Cx X μ tab d zR o P) {ix q0 q1 n0 n1 n : Nat} {f g : Nat → Int32} (hd : decode μ.2.1 pc = .ok (.invokestatic ix, 3)) (hml : Cond.methodLink μ.1.cls ix arraycopyName ∈ TSg) (h0 : h q0 = io n0 f) (h1 : h q1 = io n1 g) (hn0 : n ≤ n0) (hn1 : n ≤ n1) (hn : n < 2 ^ 31) (hcat : Nat.ble (st.map fun v => v.category).sum 8 = true) (hLn : L.length = μ.2.2.1) (k : V X z w (hu h q1 (io n1 (va_cpy f g 0 0 n))) (pc + 3) L st) : V X z w h pc L (.int (nI n) :: .int (nI 0) :: .ref q1 :: .int (nI 0) :: .ref q0 :: st) := by
  rcases X with ⟨p, l, e, R, s, m, args, below, meth, c, G, B, Q⟩
  intro H locs ls hW hS hl
  have hq0 : q0 < w.2 := hW.lt (by rw [h0]; exact ar_nj)
  have hq1 : q1 < w.2 := hW.lt (by rw [h1]; exact ar_nj)
  have he0 : (wl G w h)[q0]? = some (w.1 q0, .inl (G.2 0, n0, .inl f)) := by rw [wl_get G w h hq0, h0]; rfl
  have he1 : (wl G w h)[q1]? = some (w.1 q1, .inl (G.2 0, n1, .inl g)) := by rw [wl_get G w h hq1, h1]; rfl
  have hts := C.2.2.2.2.1
  obtain ⟨r1, r2, r3, r4⟩ := C.2.2.2.2.2.2.2.2.2.2.2.1
  have hcat := Nat.le_of_ble_eq_true hcat
  refine va_copyi C.1 C.2.1 (C.2.2.1.trans (hLn.symm.trans hl.1.symm)) C.2.2.2.1 (hts _ hml) (hts _ (tj2 187 (by rfl) rfl)) (hts _ (tj2 186 (by rfl) rfl)) (hts _ (tj1 26 (by rfl) rfl)) C.2.2.2.2.2.2.2.1 hW.1 hW.2.1 hS q0 q1 0 0 he0 he1 rfl rfl rfl (nI_pos (by decide)) (nI_pos (by decide)) (nI_pos hn) (by rw [nI_clamp hn, nI_clamp (by decide)]; omega) (by rw [nI_clamp hn, nI_clamp (by decide)]; omega) (fun _ _ => rfl) (by omega) ?_ hd (fun H1 locs1 hP1 hD1 hS1 => ?_)
  · rw [cv_sum]
    have : nativeFrameWords "java/lang/System" "arraycopy" 5 + 11 ≤ 190 := by decide +kernel
    omega
  · rw [nI_clamp hn, nI_clamp (by decide)] at hP1 hD1
    exact k H1 locs1 ls (hW.set hq1 (c := io n1 (va_cpy f g 0 0 n)) rfl trivial hP1 hD1) hS1 hl
end VX3
theorem vx_ofWF {l : Launch} {y : MethodName} {ws ws' : List Cond} {rm : Room} {Pc : Array Value → State → Prop} {Qc : Array Value → State → Outcome → State → Prop} {XC : String → State → State → Prop} {mc ms : Nat} {free : Addr → Prop} {cc : ByteArray} {maxL : Nat} {ret : Option FieldType}
    (hy : plainFor y = true) (hw : ws = Cond.code y cc maxL ret :: ws')
    (body : ∀ p e s m args below meth c s₁, BodyLoose p l y (headSpec ws rm) cc maxL ret e s m args below meth c s₁ → c.maxLocals = maxL → (∀ x ∈ c.exceptionTable.toList, False) → Pc args s →
      W p l e (headSpec ws rm).room s m args below meth c s.heap [] 0 0 (vx_MQ below Qc XC args s mc ms free) (entryFrame m args maxL)) : vx_Met l y ws rm Pc Qc XC mc ms free := by
  refine MetFree.of_bodySF (code := cc) (maxLocals := maxL) (ret := ret) hy ?_ ?_
  · intro args s m h hn
    obtain ⟨meth, c, h1, h2, h3, h4, h5, h6, -, -⟩ := Cond.code_spec hn (atoms_spec (ws := ws) h _ (by rw [hw]; exact List.mem_cons_self))
    exact ⟨meth, c, h1, h2, h3, h4, h5, h6⟩
  · intro p e s m args below meth c s₁ B hml hP _
    have hh0 : s₁.heap = s.heap := by rw [B.state]; rfl
    have ht : ∀ x ∈ c.exceptionTable.toList, False := by
      obtain ⟨meth9, c9, h1, h2, -, -, -, -, h7, -⟩ := Cond.code_spec B.named (atoms_spec (ws := ws) B.pre _ (by rw [hw]; exact List.mem_cons_self))
      cases Option.some.inj (h1.symm.trans B.method)
      cases Option.some.inj (h2.symm.trans (Stand.of_body B).code)
      intro x hx
      rw [Array.isEmpty_iff.mp h7] at hx
      cases hx
    obtain ⟨t, a1, o, b1, b2, b3⟩ := body p e s m args below meth c s₁ B hml ht hP s₁ hh0 (Stand.of_body B)
    exact ⟨t, o, a1, b1, b2, b3⟩
theorem conF {μ : Mi} {d : Nat} {z : Nat × Nat} {w : Wt} {as : List Value} {h : Hp} {o : Oc} {P : Wt → Hp → Prop} (hy : plainFor μ.1 = true) (he : ent_ok μ.2.2.1 as) (body : ∀ X, Cx X μ [] d z o P → V X (0, 0) w h 0 (entL μ.2.2.1 as) []) : Con μ d z w as h o P := by
  intro l G B hl0
  refine vx_ofWF hy rfl ?_
  intro p e s m args below meth c s₁ B' hml htab hv
  obtain ⟨rfl, hWd, hK, hB, hSt, hEx⟩ := hv
  have hts := atoms_spec (ws := .code μ.1 μ.2.1 μ.2.2.1 μ.2.2.2.1 :: TSg) B'.pre
  have ht : c.exceptionTable.toList = [] := by
    cases hc : c.exceptionTable.toList with
    | nil => rfl
    | cons a b => exact absurd (htab a (by rw [hc]; exact List.mem_cons_self)) id
  have hC : Cx (p, l, e, (headSpec (.code μ.1 μ.2.1 μ.2.2.1 μ.2.2.2.1 :: TSg) (rmD d z)).room, s, m, (as.map (cv w.1)).toArray, below, meth, c, G, B, vx_MQ below (QcD G B o P) (XcD G B o P) (as.map (cv w.1)).toArray s z.1 z.2 (AB B)) μ [] d z o P :=
    ⟨B'.exec, B'.bytes, hml, findClass_of_methodNamed B'.named, fun w hw => hts w (List.mem_cons_of_mem _ hw), B'.notSynchronized, hl0, hK, hB, hSt, hEx, ⟨Nat.le_refl _, Nat.le_refl _, Nat.le_refl _, Nat.le_refl _⟩, ht, B'.returns, (name_of_methodNamed B'.named B'.method).1, rfl⟩
  have hV := body _ hC
  have hl := lv_entry (as.map (cv w.1)) (n := μ.2.2.1) (Nat.le_of_ble_eq_true (he.1 _))
  rw [lg_entry_eq]
  refine hV s.heap [] _ hWd va_S.rf ⟨hl.1.trans he.2.1.symm, hl.2.1, fun i v hi => ?_⟩
  have := hl.2.2 (0 + i, cv w.1 v) (entL_mem w.1 μ.2.2.1 as 0 i v hi he.2.2)
  simpa using this
theorem k_fill {w : Wt} {h : Hp} {q n : Nat} {f : Nat → Int32} {x : Int32} (hq : h q = io n f) (hn : n < 2 ^ 31) : ConN mJ7_fill_53178 0 (0, 0) w [.ref q, .int x] h (.inl none) (fun h' => h' = hu h q (io n (mix f (fun _ => x) n))) := by
  refine conI (by decide +kernel) ⟨fun _ => rfl, rfl, by simp⟩ (fun X C => ?_)
  change V X (0, 0) w h 0 [some (.ref q), some (.int x), none, none] []
  refine v_iconst C (oJ7_fill_53178.at 0 rfl) (v := nI 0) rfl ?_
  refine v_istore_n C (oJ7_fill_53178.at 1 rfl) rfl ?_
  refine v_aload_n C (oJ7_fill_53178.at 2 rfl) rfl ?_
  refine v_alen C (oJ7_fill_53178.at 3 rfl) hq rfl ?_
  dsimp only
  refine v_istore_n C (oJ7_fill_53178.at 4 rfl) rfl ?_
  dsimp only [sto1, sto2, killL]
  suffices H : ∀ j i, i + j = n → V X (0, 0) w (hu h q (io n (mix f (fun _ => x) i))) 5 [some (.ref q), some (.int x), some (.int (nI i)), some (.int (nI n))] [] by
    have := H n 0 (by omega)
    rw [mix_0, hu_id h hq] at this
    exact this
  intro j
  induction j with
  | zero =>
    intro i hi
    refine v_iload_n C (oJ7_fill_53178.at 5 rfl) rfl ?_
    refine v_iload_n C (oJ7_fill_53178.at 6 rfl) rfl ?_
    refine v_icmp_geN C (oJ7_fill_53178.at 7 rfl) (tgt := 20) (by decide) (by omega) (by omega) (fun hc => ?_) (fun hc => ?_)
    · have e : i = n := by omega
      subst e
      exact v_vret C (oJ7_fill_53178.at 14 rfl) rfl rfl ⟨Nat.le_refl _, Nat.le_refl _⟩ ⟨rfl, rfl⟩
    · exact absurd hc (by omega)
  | succ j ih =>
    intro i hi
    refine v_iload_n C (oJ7_fill_53178.at 5 rfl) rfl ?_
    refine v_iload_n C (oJ7_fill_53178.at 6 rfl) rfl ?_
    refine v_icmp_geN C (oJ7_fill_53178.at 7 rfl) (tgt := 20) (by decide) (by omega) (by omega) (fun hc => ?_) (fun hc => ?_)
    · exact absurd hc (by omega)
    · refine v_aload_n C (oJ7_fill_53178.at 8 rfl) rfl ?_
      refine v_iload_n C (oJ7_fill_53178.at 9 rfl) rfl ?_
      refine v_iload_n C (oJ7_fill_53178.at 10 rfl) rfl ?_
      refine v_iast C (oJ7_fill_53178.at 11 rfl) (hu_s _ _ _) hn rfl (by omega) ?_
      rw [hu_hu, mix_s _ _ _ _ rfl]
      refine v_iincN C (oJ7_fill_53178.at 12 rfl) rfl ?_
      refine v_goto C (oJ7_fill_53178.at 13 rfl) (tgt := 5) (by decide) ?_
      dsimp only [sto1, sto2, killL]
      exact ih (i + 1) (by omega)
theorem k_rangeCheck {w : Wt} {h : Hp} {n a b : Nat} (hn : n < 2 ^ 31) (hab : a ≤ b) (hb : b ≤ n) : ConN mJ7_rangeCheck_23922 0 (0, 0) w [.int (nI n), .int (nI a), .int (nI b)] h (.inl none) (fun h' => h' = h) := by
  refine conI (by decide +kernel) ⟨fun _ => rfl, rfl, by simp⟩ (fun X C => ?_)
  change V X (0, 0) w h 0 [some (.int (nI n)), some (.int (nI a)), some (.int (nI b))] []
  refine v_iload_n C (oJ7_rangeCheck_23922.at 0 rfl) rfl ?_
  refine v_iload_n C (oJ7_rangeCheck_23922.at 1 rfl) rfl ?_
  refine v_icmp_leN C (oJ7_rangeCheck_23922.at 2 rfl) (tgt := 46) (by decide) (by omega) (by omega) (fun hc => ?_) (fun hc => ?_)
  · refine v_iload_n C (oJ7_rangeCheck_23922.at 21 rfl) rfl ?_
    refine v_if_geN C (oJ7_rangeCheck_23922.at 22 rfl) (tgt := 59) (by decide) (by omega) ?_
    refine v_iload_n C (oJ7_rangeCheck_23922.at 28 rfl) rfl ?_
    refine v_iload_n C (oJ7_rangeCheck_23922.at 29 rfl) rfl ?_
    refine v_icmp_leN C (oJ7_rangeCheck_23922.at 30 rfl) (tgt := 73) (by decide) (by omega) (by omega) (fun hc => ?_) (fun hc => ?_)
    · exact v_vret C (oJ7_rangeCheck_23922.at 36 rfl) rfl rfl ⟨Nat.le_refl _, Nat.le_refl _⟩ ⟨rfl, rfl⟩
    · exact absurd hc (by omega)
  · exact absurd hc (by omega)
def fil (f : Nat → Int32) (a b : Nat) (x : Int32) : Nat → Int32 := fun j => if a ≤ j ∧ j < b then x else f j
theorem fil_s {f : Nat → Int32} {a i : Nat} {x : Int32} (h : a ≤ i) : upd (fil f a i x) i x = fil f a (i + 1) x := by
  funext j; unfold upd fil
  by_cases e : j = i
  · subst e; simp [h]
  · have : (a ≤ j ∧ j < i + 1) ↔ (a ≤ j ∧ j < i) := by omega
    simp [e, this]
theorem fil_0 (f : Nat → Int32) (a : Nat) (x : Int32) : fil f a a x = f := by
  funext j; unfold fil; rw [if_neg (by omega)]
theorem k_fill4 {w : Wt} {h : Hp} {q n a b : Nat} {f : Nat → Int32} {x : Int32} (hq : h q = io n f) (hn : n < 2 ^ 31) (hab : a ≤ b) (hb : b ≤ n) : ConN mJ7_fill_fda19 1 (0, 0) w [.ref q, .int (nI a), .int (nI b), .int x] h (.inl none) (fun h' => h' = hu h q (io n (fil f a b x))) := by
  refine conI (by decide +kernel) ⟨fun _ => rfl, rfl, by simp⟩ (fun X C => ?_)
  change V X (0, 0) w h 0 [some (.ref q), some (.int (nI a)), some (.int (nI b)), some (.int x), none] []
  refine v_aload_n C (oJ7_fill_fda19.at 0 rfl) rfl ?_
  refine v_alen C (oJ7_fill_fda19.at 1 rfl) hq rfl ?_
  dsimp only
  refine v_iload_n C (oJ7_fill_fda19.at 2 rfl) rfl ?_
  refine v_iload_n C (oJ7_fill_fda19.at 3 rfl) rfl ?_
  refine v_callS C (oJ7_fill_fda19.at 4 rfl) cJ7_13 (k_rangeCheck hn hab hb) rfl rfl rfl ⟨rfl, rfl⟩ rfl rfl (fun _ => rfl) (fun h' hp => ?_)
  rw [show h' = _ from hp]
  dsimp only [Option.toList, List.cons_append, List.nil_append]
  refine v_iload_n C (oJ7_fill_fda19.at 5 rfl) rfl ?_
  refine v_istore C (oJ7_fill_fda19.at 6 rfl) rfl ?_
  dsimp only [sto1, sto2, killL]
  suffices H : ∀ j i, i + j = b → a ≤ i → V X (0, 0) w (hu h q (io n (fil f a i x))) 10 [some (.ref q), some (.int (nI a)), some (.int (nI b)), some (.int x), some (.int (nI i))] [] by
    have := H (b - a) a (by omega) (by omega)
    rw [fil_0, hu_id h hq] at this
    exact this
  intro j
  induction j with
  | zero =>
    intro i hi hai
    refine v_iload C (oJ7_fill_fda19.at 7 rfl) rfl ?_
    refine v_iload_n C (oJ7_fill_fda19.at 8 rfl) rfl ?_
    refine v_icmp_geN C (oJ7_fill_fda19.at 9 rfl) (tgt := 27) (by decide) (by omega) (by omega) (fun hc => ?_) (fun hc => ?_)
    · have e : i = b := by omega
      subst e
      exact v_vret C (oJ7_fill_fda19.at 16 rfl) rfl rfl ⟨Nat.le_refl _, Nat.le_refl _⟩ ⟨rfl, rfl⟩
    · exact absurd hc (by omega)
  | succ j ih =>
    intro i hi hai
    refine v_iload C (oJ7_fill_fda19.at 7 rfl) rfl ?_
    refine v_iload_n C (oJ7_fill_fda19.at 8 rfl) rfl ?_
    refine v_icmp_geN C (oJ7_fill_fda19.at 9 rfl) (tgt := 27) (by decide) (by omega) (by omega) (fun hc => ?_) (fun hc => ?_)
    · exact absurd hc (by omega)
    · refine v_aload_n C (oJ7_fill_fda19.at 10 rfl) rfl ?_
      refine v_iload C (oJ7_fill_fda19.at 11 rfl) rfl ?_
      refine v_iload_n C (oJ7_fill_fda19.at 12 rfl) rfl ?_
      refine v_iast C (oJ7_fill_fda19.at 13 rfl) (hu_s _ _ _) hn rfl (by omega) ?_
      rw [hu_hu, fil_s (by omega)]
      refine v_iincN C (oJ7_fill_fda19.at 14 rfl) rfl ?_
      refine v_goto C (oJ7_fill_fda19.at 15 rfl) (tgt := 10) (by decide) ?_
      dsimp only [sto1, sto2, killL]
      exact ih (i + 1) (by omega) (by omega)
theorem k_maxR {w : Wt} {h : Hp} {x y : Int32} : ConN mJ9_max_7cf53 0 (0, 0) w [.int x, .int y] h (.inl (some (.int (if x < y then y else x)))) (fun h' => h' = h) := by
  refine conF (by decide +kernel) ⟨fun _ => rfl, rfl, by simp⟩ (fun X C => ?_)
  change V X (0, 0) w h 0 [some (.int x), some (.int y)] []
  refine v_iload_n C (oJ9_max_7cf53.at 0 rfl) rfl ?_
  refine v_iload_n C (oJ9_max_7cf53.at 1 rfl) rfl ?_
  refine v_icmp_lt C (oJ9_max_7cf53.at 2 rfl) (tgt := 9) (by decide) (fun hc => ?_) (fun hc => ?_)
  · rw [if_pos hc] at C
    refine v_iload_n C (oJ9_max_7cf53.at 5 rfl) rfl ?_
    exact v_iret C (oJ9_max_7cf53.at 6 rfl) rfl rfl ⟨Nat.le_refl _, Nat.le_refl _⟩ ⟨rfl, rfl⟩
  · rw [if_neg hc] at C
    refine v_iload_n C (oJ9_max_7cf53.at 3 rfl) rfl ?_
    refine v_goto C (oJ9_max_7cf53.at 4 rfl) (tgt := 10) (by decide) ?_
    exact v_iret C (oJ9_max_7cf53.at 6 rfl) rfl rfl ⟨Nat.le_refl _, Nat.le_refl _⟩ ⟨rfl, rfl⟩
theorem k_minR {w : Wt} {h : Hp} {x y : Int32} : ConN mJ9_min_7cf53 0 (0, 0) w [.int x, .int y] h (.inl (some (.int (if y < x then y else x)))) (fun h' => h' = h) := by
  refine conF (by decide +kernel) ⟨fun _ => rfl, rfl, by simp⟩ (fun X C => ?_)
  change V X (0, 0) w h 0 [some (.int x), some (.int y)] []
  refine v_iload_n C (oJ9_min_7cf53.at 0 rfl) rfl ?_
  refine v_iload_n C (oJ9_min_7cf53.at 1 rfl) rfl ?_
  refine v_icmp_gt C (oJ9_min_7cf53.at 2 rfl) (tgt := 9) (by decide) (fun hc => ?_) (fun hc => ?_)
  · rw [if_pos hc] at C
    refine v_iload_n C (oJ9_min_7cf53.at 5 rfl) rfl ?_
    exact v_iret C (oJ9_min_7cf53.at 6 rfl) rfl rfl ⟨Nat.le_refl _, Nat.le_refl _⟩ ⟨rfl, rfl⟩
  · rw [if_neg hc] at C
    refine v_iload_n C (oJ9_min_7cf53.at 3 rfl) rfl ?_
    refine v_goto C (oJ9_min_7cf53.at 4 rfl) (tgt := 10) (by decide) ?_
    exact v_iret C (oJ9_min_7cf53.at 6 rfl) rfl rfl ⟨Nat.le_refl _, Nat.le_refl _⟩ ⟨rfl, rfl⟩
theorem k_max {w : Wt} {h : Hp} {a b : Nat} (ha : a < 2 ^ 31) (hb : b < 2 ^ 31) : ConN mJ9_max_7cf53 0 (0, 0) w [.int (nI a), .int (nI b)] h (.inl (some (.int (nI (max a b))))) (fun h' => h' = h) := by
  have := k_maxR (w := w) (h := h) (x := nI a) (y := nI b)
  rwa [show (if nI a < nI b then nI b else nI a) = nI (max a b) by
    by_cases hc : a < b
    · rw [if_pos ((nI_ltI ha hb).mpr hc), Nat.max_eq_right (by omega)]
    · rw [if_neg (fun e => hc ((nI_ltI ha hb).mp e)), Nat.max_eq_left (by omega)]] at this
theorem k_min {w : Wt} {h : Hp} {a b : Nat} (ha : a < 2 ^ 31) (hb : b < 2 ^ 31) : ConN mJ9_min_7cf53 0 (0, 0) w [.int (nI a), .int (nI b)] h (.inl (some (.int (nI (min a b))))) (fun h' => h' = h) := by
  have := k_minR (w := w) (h := h) (x := nI a) (y := nI b)
  rwa [show (if nI b < nI a then nI b else nI a) = nI (min a b) by
    by_cases hc : b < a
    · rw [if_pos ((nI_ltI hb ha).mpr hc), Nat.min_eq_right (by omega)]
    · rw [if_neg (fun e => hc ((nI_ltI hb ha).mp e)), Nat.min_eq_left (by omega)]] at this
theorem cmp_gt {a b : Nat} (ha : a < 2 ^ 63) (hb : b < 2 ^ 63) : (0 < lg_cmp (lN a) (lN b)) ↔ b < a := by
  unfold lg_cmp
  by_cases h1 : b < a
  · rw [if_pos ((pk_lLT hb ha).mpr h1)]; exact ⟨fun _ => h1, fun _ => by decide⟩
  · rw [if_neg (fun e => h1 ((pk_lLT hb ha).mp e))]
    by_cases h2 : a = b
    · rw [if_pos (by rw [h2])]; exact ⟨fun q => absurd q (by decide), fun q => absurd q h1⟩
    · rw [if_neg (fun e => h2 ((pk_lEQ ha hb).mp e))]; exact ⟨fun q => absurd q (by decide), fun q => absurd q h1⟩
theorem k_minL {w : Wt} {h : Hp} {a b : Nat} (ha : a < 2 ^ 63) (hb : b < 2 ^ 63) : ConN mJ9_min_f86c9 0 (0, 0) w [.long (lN a), .long (lN b)] h (.inl (some (.long (lN (min a b))))) (fun h' => h' = h) := by
  refine conF (by decide +kernel) ⟨fun _ => rfl, rfl, by simp⟩ (fun X C => ?_)
  change V X (0, 0) w h 0 [some (.long (lN a)), none, some (.long (lN b)), none] []
  refine v_lload_n C (oJ9_min_f86c9.at 0 rfl) rfl ?_
  refine v_lload_n C (oJ9_min_f86c9.at 1 rfl) rfl ?_
  refine v_lcmp C (oJ9_min_f86c9.at 2 rfl) ?_
  refine v_if_gt C (oJ9_min_f86c9.at 3 rfl) (tgt := 10) (by decide) (fun hc => ?_) (fun hc => ?_)
  · rw [Nat.min_eq_right (by have := (cmp_gt ha hb).mp hc; omega)] at C
    refine v_lload_n C (oJ9_min_f86c9.at 6 rfl) rfl ?_
    exact v_lret C (oJ9_min_f86c9.at 7 rfl) rfl rfl ⟨Nat.le_refl _, Nat.le_refl _⟩ ⟨rfl, rfl⟩
  · rw [Nat.min_eq_left (Nat.not_lt.mp (fun e => hc ((cmp_gt ha hb).mpr e)))] at C
    refine v_lload_n C (oJ9_min_f86c9.at 4 rfl) rfl ?_
    refine v_goto C (oJ9_min_f86c9.at 5 rfl) (tgt := 11) (by decide) ?_
    exact v_lret C (oJ9_min_f86c9.at 7 rfl) rfl rfl ⟨Nat.le_refl _, Nat.le_refl _⟩ ⟨rfl, rfl⟩
