/-! ===== methods with handlers; the law's wrappers ===== -/
/-- a contract of a method with an exception table -/
def ConH (μ : Mi) (hh : List (Nat × Nat × Nat × Nat)) (d : Nat) (z : Nat × Nat) (w : Wt) (as : List Value) (h : Hp) (o : Oc) (P : Wt → Hp → Prop) : Prop :=
  ∀ (l : Launch) (G : GG) (B : Nat), l.stackTraces = false → vx_Met l μ.1 (.codeWith μ.1 μ.2.1 μ.2.2.1 μ.2.2.2.1 hh :: TSg) (rmD d z) (va_Pc (as.map (cv w.1)) (PreD G B w h)) (QcD G B o P) (XcD G B o P) z.1 z.2 (AB B)
theorem conH {μ : Mi} {hh : List (Nat × Nat × Nat × Nat)} {d : Nat} {z : Nat × Nat} {w : Wt} {as : List Value} {h : Hp} {o : Oc} {P : Wt → Hp → Prop} (hy : plainName μ.1.cls = true) (he : ent_ok μ.2.2.1 as) (body : ∀ X, Cx X μ (tableOf hh) d z o P → V X (0, 0) w h 0 (entL μ.2.2.1 as) []) : ConH μ hh d z w as h o P := by
  intro l G B hl0
  refine vx_ofWH hy rfl ?_
  intro p e s m args below meth c s₁ B' hml hv
  obtain ⟨rfl, hWd, hK, hB, hSt, hEx⟩ := hv
  have hts := atoms_spec (ws := .codeWith μ.1 μ.2.1 μ.2.2.1 μ.2.2.2.1 hh :: TSg) B'.pre
  have ht : c.exceptionTable.toList = tableOf hh := vx_table (x := μ.1) B' (hts _ List.mem_cons_self)
  have hC : Cx (p, l, e, (headSpec (.codeWith μ.1 μ.2.1 μ.2.2.1 μ.2.2.2.1 hh :: TSg) (rmD d z)).room, s, m, (as.map (cv w.1)).toArray, below, meth, c, G, B, vx_MQ below (QcD G B o P) (XcD G B o P) (as.map (cv w.1)).toArray s z.1 z.2 (AB B)) μ (tableOf hh) d z o P :=
    ⟨B'.exec, B'.bytes, hml, findClass_of_methodNamed B'.named, fun w hw => hts w (List.mem_cons_of_mem _ hw), B'.notSynchronized, hl0, hK, hB, hSt, hEx, ⟨Nat.le_refl _, Nat.le_refl _, Nat.le_refl _, Nat.le_refl _⟩, ht, B'.returns, (name_of_methodNamed B'.named B'.method).1, rfl⟩
  have hV := body _ hC
  have hl := lv_entry (as.map (cv w.1)) (n := μ.2.2.1) (Nat.le_of_ble_eq_true (he.1 _))
  rw [lg_entry_eq]
  refine hV s.heap [] _ hWd va_S.rf ⟨hl.1.trans he.2.1.symm, hl.2.1, fun i v hi => ?_⟩
  have := hl.2.2 (0 + i, cv w.1 v) (entL_mem w.1 μ.2.2.1 as 0 i v hi he.2.2)
  simpa using this
/-- what a method with handlers must have to be called -/
def MKH (μ : Mi) (hh : List (Nat × Nat × Nat × Nat)) : Prop := Cond.codeWith μ.1 μ.2.1 μ.2.2.1 μ.2.2.2.1 hh ∈ TSg ∧ Cond.initialized μ.1.cls ∈ TSg ∧ (μ.1.cls ≠ "java/lang/invoke/MethodHandle" ∧ μ.1.cls ≠ "java/lang/invoke/VarHandle") ∧ (parseMethodDescriptor μ.1.desc).map (fun d => d.parameters.length) = some μ.2.2.2.2 ∧ μ.2.2.1 ≤ 60 ∧ Cond.static μ.1 ∈ TSg
theorem tsg_codeH (μ' : Mi) {hh : List (Nat × Nat × Nat × Nat)} (hM : MKH μ' hh) : GoodIn TSg (.codeWith μ'.1 μ'.2.1 μ'.2.2.1 μ'.2.2.2.1 hh :: TSg) := tsg_in (fun _ h => h) (fun w hw => by
  rcases List.mem_cons.mp hw with h1 | h1
  · rw [h1]; exact hM.1
  · exact h1)
/-- the castable words and what passes by a handler -/
theorem cast_of {s : State} {args : Array Value} (hE : ExD s) {E nm : String} (hw : Cond.castable E nm ∈ lw_tbl) : (Cond.castable E nm).before args s = true := va_Nw.use rfl (hE.1 _ hw rfl)
section VH
variable {X : CT} {μ : Mi} {tab : List ExceptionTableEntry} {d : Nat} {zR : Nat × Nat} {o : Oc} {P : Wt → Hp → Prop} {z : Nat × Nat} {w : Wt} {h : Hp} {pc : Nat} {L : List (Option Value)} {st : List Value}
theorem v_callH (C : Cx X μ tab d zR o P) {ix d' : Nat} {μ' : Mi} {hh : List (Nat × Nat × Nat × Nat)} {z' : Nat × Nat} {as : List Value} {v : Option Value} {P' : Hp → Prop} {stk : List Value} (hd : decode μ.2.1 pc = .ok (.invokestatic ix, 3)) (hM : MKH μ' hh) (hml : Cond.methodLink μ.1.cls ix μ'.1 ∈ TSg) (hc : ConH μ' hh d' z' w as h (.inl v) (fun w' h' => w' = w ∧ P' h')) (hs : stk = as.reverse ++ st) (hdd : Nat.blt d' d = true) (hn : as.length = μ'.2.2.2.2) (hz : z.1 + z'.1 ≤ zR.1 ∧ z.2 + z'.2 ≤ zR.2) (hcat : Nat.ble (st.map fun v => v.category).sum 8 = true) (hLn : L.length = μ.2.2.1) (hnr : ∀ ad : Nat → Nat, v.toList.map (cv ad) = v.toList)
    (k : ∀ h', P' h' → V X (z.1 + z'.1, z.2 + z'.2) w h' (pc + 3) L (v.toList ++ st)) : V X z w h pc L stk := by
  rcases X with ⟨p, l, e, R, s, m, args, below, meth, c, G, B, Q⟩
  intro H locs ls hW hS hl
  have hdd : d' < d := by simpa using hdd
  obtain ⟨r1, r2, r3, r4⟩ := C.2.2.2.2.2.2.2.2.2.2.2.1
  obtain ⟨z1, z2⟩ := hz
  have hts := C.2.2.2.2.1
  have hpar : ∀ sig, parseMethodDescriptor μ'.1.desc = some sig → μ'.2.2.2.2 = sig.parameters.length := fun sig h => by
    have h2 := hM.2.2.2.1
    rw [h] at h2
    exact (Option.some.inj h2).symm
  refine v_after (st := st) hS hl (vx_runSX (hh := hh) (As := as.map (cv w.1)) (rest := st.map (cv w.1)) (bytes := μ'.2.1) (maxL := μ'.2.2.1) (ret := μ'.2.2.2.1) (n := μ'.2.2.2.2) ⟨C.1, C.2.1, C.2.2.1, C.2.2.2.1, hts⟩ (hc l G B C.2.2.2.2.2.2.1) ⟨⟨rfl, rfl, ?_, ?_, pay_in hts (tsg_codeH μ' hM), List.mem_cons_self⟩, hts _ hM.1, hts _ hM.2.1, hM.2.2.1, hpar, hts _ hml, hts _ hM.2.2.2.2.2⟩ ⟨blindD G B _ w h, fun U hU hWm => ⟨rfl, preD_of C hW hS hU hWm⟩⟩ rfl (by rw [List.length_map]; exact hn) (hl.1.trans hLn) ?_ (lv_room (by rw [cv_sum]; exact Nat.le_of_ble_eq_true hcat)) hd ⟨Nat.le_trans z1 r3, Nat.le_trans z2 r4⟩) (fun v' h' e hp => by cases e; exact ⟨hnr, k h' hp⟩) (fun _ _ e _ => by cases e)
  · show 20 + d' + 1 ≤ R.frames
    omega
  · show 8 + (μ'.2.2.1 + 11) + (200 + 80 * d') ≤ R.locals
    have := hM.2.2.2.2.1
    omega
  · show stk.map (cv w.1) = _
    rw [hs]
    simp
/-- caught here; the exception goes into a local, and a number is returned -/
theorem vt_catch (C : Cx X μ tab d zR o P) {E : String} {r i : Nat} {nb : Nat} {ins : Instr} (pre : List ExceptionTableEntry) (x : ExceptionTableEntry) (suf : List ExceptionTableEntry) (hsplit : tab = pre ++ x :: suf) (hpass : ∀ y ∈ pre, y.catchType ≠ 0 ∧ ∃ nm : String, Cond.classLink μ.1.cls y.catchType nm ∈ TSg ∧ (E, nm) ∈ ncL) (hx : covers x pc = true) (h0 : x.catchType ≠ 0) (hlink : Cond.classLink μ.1.cls x.catchType E ∈ TSg) (hcast : Cond.castable E E ∈ lw_tbl) (hst : (ins = .astore i ∧ nb = 2) ∨ (∃ n : Fin 4, ins = .astore_n n ∧ nb = 1 ∧ (n : Nat) = i)) (hd1 : decode μ.2.1 x.handlerPc = .ok (ins, nb)) (hd2 : decode μ.2.1 (x.handlerPc + nb) = .ok (.iconst r, 1)) (hd3 : decode μ.2.1 (x.handlerPc + nb + 1) = .ok (.ireturn, 1)) (hL : Nat.blt i L.length = true) (hr : μ.2.2.2.1 = some .int) (ho : o = .inl (some (.int (nI r)))) (hz : z.1 ≤ zR.1 ∧ z.2 ≤ zR.2) (hP : P w h) : VT X z w h pc L st E := by
  have hV : V X z w h (x.handlerPc + nb) (List.replicate L.length none) [] := v_iconst C hd2 rfl (v_iret C hd3 hr ho hz hP)
  rcases X with ⟨p, l, e, R, s, m, args, below, meth, c, G, B, Q⟩
  intro H locs ls q ce hW hS hl hce hcv hcl
  have hEx := C.2.2.2.2.2.2.2.2.2.2.1
  have hts := C.2.2.2.2.1
  refine vx_catch (own := μ.1.cls) (name := E) (E := E) C.2.2.2.1 pre x suf (C.2.2.2.2.2.2.2.2.2.2.2.2.1.trans hsplit) (fun y hy => .inr ?_) hx h0 (hts _ hlink) (cast_of hEx hcast) hce hcv hcl ?_
  · obtain ⟨a, nm, b1, b2⟩ := hpass y hy
    exact ⟨a, nm, hts _ b1, hEx.2.2.1 _ b2⟩
  · have hfin : ∀ (ls' : Array Slot) (q' : List (Nat × Value)), lv_has ls' L.length q' → Lc w.1 (List.replicate L.length none) ls' := fun ls' q' hh => ⟨by rw [List.length_replicate]; exact hh.1, hh.2.1, fun i v hi => by
      have := List.mem_of_getElem? hi
      rw [List.mem_replicate] at this
      cases this.2⟩
    rcases hst with ⟨rfl, rfl⟩ | ⟨n, rfl, rfl, rfl⟩
    · exact lv_astore C.1 C.2.1 hd1 hl.has (Nat.le_of_ble_eq_true hL) rfl (fun ls' h' => hV H locs ls' hW hS (hfin _ _ h'))
    · exact lv_astore_n C.1 C.2.1 hd1 rfl hl.has (Nat.le_of_ble_eq_true hL) rfl (fun ls' h' => hV H locs ls' hW hS (hfin _ _ h'))
end VH
/-- what a wrapper comes to: the answer is written into out and 0 returned, or the number of the handler -/
def JO (rows : List (String × Nat)) (o : Oc) (z : Nat × Nat) (r : Nat) (f : Nat → Int64) (P R : Hp → Prop) : Prop := (∃ y, o = .inl (some (.int y)) ∧ z = (0, 0) ∧ r = 0 ∧ ∀ h1, P h1 → h1 88 = jo 1 f ∧ R (hu h1 88 (jo 1 (vp_updL f 0 y.toInt64)))) ∨ (∃ E, o = .inr E ∧ z = (1, 6) ∧ (E, r) ∈ rows ∧ ∀ h1, P h1 → R h1)
theorem caEIAE : Cond.castable EIAE EIAE ∈ lw_tbl := List.mem_append_right _ (List.mem_of_getElem? (i := 446) (by decide +kernel))
theorem caEIOO : Cond.castable EIOO EIOO ∈ lw_tbl := List.mem_append_right _ (List.mem_of_getElem? (i := 554) (by decide +kernel))
theorem caEISE : Cond.castable EISE EISE ∈ lw_tbl := List.mem_append_right _ (List.mem_of_getElem? (i := 617) (by decide +kernel))
theorem caEARI : Cond.castable EARI EARI ∈ lw_tbl := List.mem_append_right _ (List.mem_of_getElem? (i := 650) (by decide +kernel))
theorem caENSE : Cond.castable ENSE ENSE ∈ lw_tbl := List.mem_append_right _ (List.mem_of_getElem? (i := 1142) (by decide +kernel))
theorem clEIAE : Cond.classLink "PreimageAnalyzerLaw" 13 EIAE ∈ TSg := tj2 196 (by rfl) rfl
theorem clEIOO : Cond.classLink "PreimageAnalyzerLaw" 19 EIOO ∈ TSg := tj3 44 (by rfl) rfl
theorem clEISE : Cond.classLink "PreimageAnalyzerLaw" 34 EISE ∈ TSg := tj3 126 (by rfl) rfl
theorem clEARI : Cond.classLink "PreimageAnalyzerLaw" 40 EARI ∈ TSg := tj3 158 (by rfl) rfl
theorem clENSE : Cond.classLink "PreimageAnalyzerLaw" 75 ENSE ∈ TSg := tj5 158 (by rfl) rfl
def mL_setSize : Mi := (yL_setSize, cL_setSize, 5, some .int, 4)
def tL_setSize : Ct := [(0, .aload_n 3, 1), (1, .iconst 0, 1), (2, .aload_n 0, 1), (3, .iload_n 1, 1), (4, .iload_n 2, 1), (5, .invokevirtual 7, 3), (8, .i2l, 1), (9, .lastore, 1), (10, .goto 7, 3), (13, .astore 4, 2), (15, .iconst 1, 1), (16, .ireturn, 1), (17, .iconst 0, 1), (18, .ireturn, 1)]
set_option maxRecDepth 20000 in
theorem oL_setSize : CtOk mL_setSize.2.1 tL_setSize := by unfold CtOk; decide +kernel
def hhL_setSize : List (Nat × Nat × Nat × Nat) := [(0, 10, 13, 13)]
theorem kL_setSize : MKH mL_setSize hhL_setSize := ⟨tj2 195 (by rfl) rfl, tj1 0 (by rfl) rfl, by decide +kernel, by decide +kernel, by decide +kernel, tj2 194 (by rfl) rfl⟩
theorem cL_7 : MVL mL_setSize.1.cls 7 mX8_setSize 8 := ⟨kX8_setSize, vX8_setSize, tj2 197 (by rfl) rfl⟩
def rwL_setSize : List (String × Nat) := [(EIAE, 1)]
theorem xL_setSize {w : Wt} {h : Hp} {x0 : Int32} {x1 : Int32} {d8 r : Nat} {z' : Nat × Nat} {o' : Oc} {f : Nat → Int64} {fs : List Value} {P' R : Hp → Prop} (hJ : JO rwL_setSize o' z' r f P' R) (h0 : h 0 = .inr (8, fs)) (hd8 : Nat.blt d8 8 = true) (c8 : ConN mX8_setSize d8 z' w [.ref 0, .int x0, .int x1] h o' P') : ConH mL_setSize hhL_setSize 8 z' w [.ref 0, .int x0, .int x1, .ref 88] h (.inl (some (.int (nI r)))) (fun w' h' => w' = w ∧ R h') := by
  rcases hJ with ⟨y, rfl, rfl, rfl, hR⟩ | ⟨E, rfl, rfl, hE, hR⟩
  · refine conH (by decide +kernel) ⟨fun _ => rfl, rfl, by simp⟩ (fun X C => ?_)
    change V X (0, 0) w h 0 [some (.ref 0), some (.int x0), some (.int x1), some (.ref 88), none] []
    refine v_aload_n C (oL_setSize.at 0 rfl) rfl ?_
    refine v_iconst C (oL_setSize.at 1 rfl) (v := nI 0) rfl ?_
    refine v_aload_n C (oL_setSize.at 2 rfl) rfl ?_
    refine v_iload_n C (oL_setSize.at 3 rfl) rfl ?_
    refine v_iload_n C (oL_setSize.at 4 rfl) rfl ?_
    refine v_callV C (oL_setSize.at 5 rfl) cL_7 h0 c8 rfl hd8 rfl ⟨rfl, rfl⟩ rfl rfl (fun _ => rfl) (fun h1 hp => ?_)
    dsimp only [Option.toList, List.cons_append, List.nil_append]
    obtain ⟨hf, hR1⟩ := hR h1 hp
    refine v_i2l C (oL_setSize.at 6 rfl) ?_
    refine v_last C (oL_setSize.at 7 rfl) hf (by decide) rfl (j := 0) (by decide) ?_
    refine v_goto C (oL_setSize.at 8 rfl) (tgt := 17) (by decide) ?_
    refine v_iconst C (oL_setSize.at 12 rfl) (v := nI 0) rfl ?_
    exact v_iret C (oL_setSize.at 13 rfl) rfl rfl ⟨Nat.le_refl _, Nat.le_refl _⟩ ⟨rfl, hR1⟩
  · have hE : (E, r) = (EIAE, 1) := by simpa [rwL_setSize] using hE
    cases hE
    refine conH (by decide +kernel) ⟨fun _ => rfl, rfl, by simp⟩ (fun X C => ?_)
    change V X (0, 0) w h 0 [some (.ref 0), some (.int x0), some (.int x1), some (.ref 88), none] []
    refine v_aload_n C (oL_setSize.at 0 rfl) rfl ?_
    refine v_iconst C (oL_setSize.at 1 rfl) (v := nI 0) rfl ?_
    refine v_aload_n C (oL_setSize.at 2 rfl) rfl ?_
    refine v_iload_n C (oL_setSize.at 3 rfl) rfl ?_
    refine v_iload_n C (oL_setSize.at 4 rfl) rfl ?_
    refine v_callV0 C (oL_setSize.at 5 rfl) cL_7.1 cL_7.2.1 cL_7.2.2 h0 c8 rfl hd8 rfl ⟨rfl, rfl⟩ rfl rfl (fun _ _ e _ => by cases e) (fun E' h1 e hp => ?_)
    cases e
    exact vt_catch C (i := 4) [] ⟨0, 10, 13, 13⟩ [] rfl (fun y hy => by cases hy) rfl (by decide) clEIAE caEIAE (.inl ⟨rfl, rfl⟩) (oL_setSize.at 9 rfl) (oL_setSize.at 10 rfl) (oL_setSize.at 11 rfl) rfl rfl rfl ⟨by decide, by decide⟩ ⟨rfl, hR h1 hp⟩
def mL_size : Mi := (yL_size, cL_size, 4, some .int, 3)
def tL_size : Ct := [(0, .aload_n 2, 1), (1, .iconst 0, 1), (2, .aload_n 0, 1), (3, .iload_n 1, 1), (4, .invokevirtual 15, 3), (7, .i2l, 1), (8, .lastore, 1), (9, .goto 6, 3), (12, .astore_n 3, 1), (13, .iconst 1, 1), (14, .ireturn, 1), (15, .iconst 0, 1), (16, .ireturn, 1)]
set_option maxRecDepth 20000 in
theorem oL_size : CtOk mL_size.2.1 tL_size := by unfold CtOk; decide +kernel
def hhL_size : List (Nat × Nat × Nat × Nat) := [(0, 9, 12, 19)]
theorem kL_size : MKH mL_size hhL_size := ⟨tj3 43 (by rfl) rfl, tj1 0 (by rfl) rfl, by decide +kernel, by decide +kernel, by decide +kernel, tj3 42 (by rfl) rfl⟩
theorem cL_15 : MVL mL_size.1.cls 15 mX8_size 8 := ⟨kX8_size, vX8_size, tj3 68 (by rfl) rfl⟩
def rwL_size : List (String × Nat) := [(EIOO, 1)]
theorem xL_size {w : Wt} {h : Hp} {x0 : Int32} {d8 r : Nat} {z' : Nat × Nat} {o' : Oc} {f : Nat → Int64} {fs : List Value} {P' R : Hp → Prop} (hJ : JO rwL_size o' z' r f P' R) (h0 : h 0 = .inr (8, fs)) (hd8 : Nat.blt d8 8 = true) (c8 : ConN mX8_size d8 z' w [.ref 0, .int x0] h o' P') : ConH mL_size hhL_size 8 z' w [.ref 0, .int x0, .ref 88] h (.inl (some (.int (nI r)))) (fun w' h' => w' = w ∧ R h') := by
  rcases hJ with ⟨y, rfl, rfl, rfl, hR⟩ | ⟨E, rfl, rfl, hE, hR⟩
  · refine conH (by decide +kernel) ⟨fun _ => rfl, rfl, by simp⟩ (fun X C => ?_)
    change V X (0, 0) w h 0 [some (.ref 0), some (.int x0), some (.ref 88), none] []
    refine v_aload_n C (oL_size.at 0 rfl) rfl ?_
    refine v_iconst C (oL_size.at 1 rfl) (v := nI 0) rfl ?_
    refine v_aload_n C (oL_size.at 2 rfl) rfl ?_
    refine v_iload_n C (oL_size.at 3 rfl) rfl ?_
    refine v_callV C (oL_size.at 4 rfl) cL_15 h0 c8 rfl hd8 rfl ⟨rfl, rfl⟩ rfl rfl (fun _ => rfl) (fun h1 hp => ?_)
    dsimp only [Option.toList, List.cons_append, List.nil_append]
    obtain ⟨hf, hR1⟩ := hR h1 hp
    refine v_i2l C (oL_size.at 5 rfl) ?_
    refine v_last C (oL_size.at 6 rfl) hf (by decide) rfl (j := 0) (by decide) ?_
    refine v_goto C (oL_size.at 7 rfl) (tgt := 15) (by decide) ?_
    refine v_iconst C (oL_size.at 11 rfl) (v := nI 0) rfl ?_
    exact v_iret C (oL_size.at 12 rfl) rfl rfl ⟨Nat.le_refl _, Nat.le_refl _⟩ ⟨rfl, hR1⟩
  · have hE : (E, r) = (EIOO, 1) := by simpa [rwL_size] using hE
    cases hE
    refine conH (by decide +kernel) ⟨fun _ => rfl, rfl, by simp⟩ (fun X C => ?_)
    change V X (0, 0) w h 0 [some (.ref 0), some (.int x0), some (.ref 88), none] []
    refine v_aload_n C (oL_size.at 0 rfl) rfl ?_
    refine v_iconst C (oL_size.at 1 rfl) (v := nI 0) rfl ?_
    refine v_aload_n C (oL_size.at 2 rfl) rfl ?_
    refine v_iload_n C (oL_size.at 3 rfl) rfl ?_
    refine v_callV0 C (oL_size.at 4 rfl) cL_15.1 cL_15.2.1 cL_15.2.2 h0 c8 rfl hd8 rfl ⟨rfl, rfl⟩ rfl rfl (fun _ _ e _ => by cases e) (fun E' h1 e hp => ?_)
    cases e
    exact vt_catch C (i := 3) [] ⟨0, 9, 12, 19⟩ [] rfl (fun y hy => by cases hy) rfl (by decide) clEIOO caEIOO (.inr ⟨_, rfl, rfl, rfl⟩) (oL_size.at 8 rfl) (oL_size.at 9 rfl) (oL_size.at 10 rfl) rfl rfl rfl ⟨by decide, by decide⟩ ⟨rfl, hR h1 hp⟩
def mL_setOutput : Mi := (yL_setOutput, cL_setOutput, 5, some .int, 4)
def tL_setOutput : Ct := [(0, .aload_n 3, 1), (1, .iconst 0, 1), (2, .aload_n 0, 1), (3, .iload_n 1, 1), (4, .iload_n 2, 1), (5, .invokevirtual 21, 3), (8, .i2l, 1), (9, .lastore, 1), (10, .goto 11, 3), (13, .astore 4, 2), (15, .iconst 1, 1), (16, .ireturn, 1), (17, .astore 4, 2), (19, .iconst 2, 1), (20, .ireturn, 1), (21, .iconst 0, 1), (22, .ireturn, 1)]
set_option maxRecDepth 20000 in
theorem oL_setOutput : CtOk mL_setOutput.2.1 tL_setOutput := by unfold CtOk; decide +kernel
def hhL_setOutput : List (Nat × Nat × Nat × Nat) := [(0, 10, 13, 19), (0, 10, 17, 13)]
theorem kL_setOutput : MKH mL_setOutput hhL_setOutput := ⟨tj3 87 (by rfl) rfl, tj1 0 (by rfl) rfl, by decide +kernel, by decide +kernel, by decide +kernel, tj3 86 (by rfl) rfl⟩
theorem cL_21 : MVL mL_setOutput.1.cls 21 mX8_setOutput 8 := ⟨kX8_setOutput, vX8_setOutput, tj3 88 (by rfl) rfl⟩
def rwL_setOutput : List (String × Nat) := [(EIOO, 1), (EIAE, 2)]
theorem xL_setOutput {w : Wt} {h : Hp} {x0 : Int32} {x1 : Int32} {d8 r : Nat} {z' : Nat × Nat} {o' : Oc} {f : Nat → Int64} {fs : List Value} {P' R : Hp → Prop} (hJ : JO rwL_setOutput o' z' r f P' R) (h0 : h 0 = .inr (8, fs)) (hd8 : Nat.blt d8 8 = true) (c8 : ConN mX8_setOutput d8 z' w [.ref 0, .int x0, .int x1] h o' P') : ConH mL_setOutput hhL_setOutput 8 z' w [.ref 0, .int x0, .int x1, .ref 88] h (.inl (some (.int (nI r)))) (fun w' h' => w' = w ∧ R h') := by
  rcases hJ with ⟨y, rfl, rfl, rfl, hR⟩ | ⟨E, rfl, rfl, hE, hR⟩
  · refine conH (by decide +kernel) ⟨fun _ => rfl, rfl, by simp⟩ (fun X C => ?_)
    change V X (0, 0) w h 0 [some (.ref 0), some (.int x0), some (.int x1), some (.ref 88), none] []
    refine v_aload_n C (oL_setOutput.at 0 rfl) rfl ?_
    refine v_iconst C (oL_setOutput.at 1 rfl) (v := nI 0) rfl ?_
    refine v_aload_n C (oL_setOutput.at 2 rfl) rfl ?_
    refine v_iload_n C (oL_setOutput.at 3 rfl) rfl ?_
    refine v_iload_n C (oL_setOutput.at 4 rfl) rfl ?_
    refine v_callV C (oL_setOutput.at 5 rfl) cL_21 h0 c8 rfl hd8 rfl ⟨rfl, rfl⟩ rfl rfl (fun _ => rfl) (fun h1 hp => ?_)
    dsimp only [Option.toList, List.cons_append, List.nil_append]
    obtain ⟨hf, hR1⟩ := hR h1 hp
    refine v_i2l C (oL_setOutput.at 6 rfl) ?_
    refine v_last C (oL_setOutput.at 7 rfl) hf (by decide) rfl (j := 0) (by decide) ?_
    refine v_goto C (oL_setOutput.at 8 rfl) (tgt := 21) (by decide) ?_
    refine v_iconst C (oL_setOutput.at 15 rfl) (v := nI 0) rfl ?_
    exact v_iret C (oL_setOutput.at 16 rfl) rfl rfl ⟨Nat.le_refl _, Nat.le_refl _⟩ ⟨rfl, hR1⟩
  · have hE : (E, r) = (EIOO, 1) ∨ (E, r) = (EIAE, 2) := by simpa [rwL_setOutput] using hE
    rcases hE with hE | hE <;> cases hE
    · refine conH (by decide +kernel) ⟨fun _ => rfl, rfl, by simp⟩ (fun X C => ?_)
      change V X (0, 0) w h 0 [some (.ref 0), some (.int x0), some (.int x1), some (.ref 88), none] []
      refine v_aload_n C (oL_setOutput.at 0 rfl) rfl ?_
      refine v_iconst C (oL_setOutput.at 1 rfl) (v := nI 0) rfl ?_
      refine v_aload_n C (oL_setOutput.at 2 rfl) rfl ?_
      refine v_iload_n C (oL_setOutput.at 3 rfl) rfl ?_
      refine v_iload_n C (oL_setOutput.at 4 rfl) rfl ?_
      refine v_callV0 C (oL_setOutput.at 5 rfl) cL_21.1 cL_21.2.1 cL_21.2.2 h0 c8 rfl hd8 rfl ⟨rfl, rfl⟩ rfl rfl (fun _ _ e _ => by cases e) (fun E' h1 e hp => ?_)
      cases e
      exact vt_catch C (i := 4) [] ⟨0, 10, 13, 19⟩ [⟨0, 10, 17, 13⟩] rfl (fun y hy => by cases hy) rfl (by decide) clEIOO caEIOO (.inl ⟨rfl, rfl⟩) (oL_setOutput.at 9 rfl) (oL_setOutput.at 10 rfl) (oL_setOutput.at 11 rfl) rfl rfl rfl ⟨by decide, by decide⟩ ⟨rfl, hR h1 hp⟩
    · refine conH (by decide +kernel) ⟨fun _ => rfl, rfl, by simp⟩ (fun X C => ?_)
      change V X (0, 0) w h 0 [some (.ref 0), some (.int x0), some (.int x1), some (.ref 88), none] []
      refine v_aload_n C (oL_setOutput.at 0 rfl) rfl ?_
      refine v_iconst C (oL_setOutput.at 1 rfl) (v := nI 0) rfl ?_
      refine v_aload_n C (oL_setOutput.at 2 rfl) rfl ?_
      refine v_iload_n C (oL_setOutput.at 3 rfl) rfl ?_
      refine v_iload_n C (oL_setOutput.at 4 rfl) rfl ?_
      refine v_callV0 C (oL_setOutput.at 5 rfl) cL_21.1 cL_21.2.1 cL_21.2.2 h0 c8 rfl hd8 rfl ⟨rfl, rfl⟩ rfl rfl (fun _ _ e _ => by cases e) (fun E' h1 e hp => ?_)
      cases e
      exact vt_catch C (i := 4) [⟨0, 10, 13, 19⟩] ⟨0, 10, 17, 13⟩ [] rfl (fun y hy => by rw [List.mem_singleton.mp hy]; exact ⟨by decide, _, clEIOO, by decide⟩) rfl (by decide) clEIAE caEIAE (.inl ⟨rfl, rfl⟩) (oL_setOutput.at 12 rfl) (oL_setOutput.at 13 rfl) (oL_setOutput.at 14 rfl) rfl rfl rfl ⟨by decide, by decide⟩ ⟨rfl, hR h1 hp⟩
def mL_output : Mi := (yL_output, cL_output, 4, some .int, 3)
def tL_output : Ct := [(0, .aload_n 2, 1), (1, .iconst 0, 1), (2, .aload_n 0, 1), (3, .iload_n 1, 1), (4, .invokevirtual 24, 3), (7, .i2l, 1), (8, .lastore, 1), (9, .goto 6, 3), (12, .astore_n 3, 1), (13, .iconst 1, 1), (14, .ireturn, 1), (15, .iconst 0, 1), (16, .ireturn, 1)]
set_option maxRecDepth 20000 in
theorem oL_output : CtOk mL_output.2.1 tL_output := by unfold CtOk; decide +kernel
def hhL_output : List (Nat × Nat × Nat × Nat) := [(0, 9, 12, 19)]
theorem kL_output : MKH mL_output hhL_output := ⟨tj3 100 (by rfl) rfl, tj1 0 (by rfl) rfl, by decide +kernel, by decide +kernel, by decide +kernel, tj3 99 (by rfl) rfl⟩
theorem cL_24 : MVL mL_output.1.cls 24 mX8_output 8 := ⟨kX8_output, vX8_output, tj3 101 (by rfl) rfl⟩
def rwL_output : List (String × Nat) := [(EIOO, 1)]
theorem xL_output {w : Wt} {h : Hp} {x0 : Int32} {d8 r : Nat} {z' : Nat × Nat} {o' : Oc} {f : Nat → Int64} {fs : List Value} {P' R : Hp → Prop} (hJ : JO rwL_output o' z' r f P' R) (h0 : h 0 = .inr (8, fs)) (hd8 : Nat.blt d8 8 = true) (c8 : ConN mX8_output d8 z' w [.ref 0, .int x0] h o' P') : ConH mL_output hhL_output 8 z' w [.ref 0, .int x0, .ref 88] h (.inl (some (.int (nI r)))) (fun w' h' => w' = w ∧ R h') := by
  rcases hJ with ⟨y, rfl, rfl, rfl, hR⟩ | ⟨E, rfl, rfl, hE, hR⟩
  · refine conH (by decide +kernel) ⟨fun _ => rfl, rfl, by simp⟩ (fun X C => ?_)
    change V X (0, 0) w h 0 [some (.ref 0), some (.int x0), some (.ref 88), none] []
    refine v_aload_n C (oL_output.at 0 rfl) rfl ?_
    refine v_iconst C (oL_output.at 1 rfl) (v := nI 0) rfl ?_
    refine v_aload_n C (oL_output.at 2 rfl) rfl ?_
    refine v_iload_n C (oL_output.at 3 rfl) rfl ?_
    refine v_callV C (oL_output.at 4 rfl) cL_24 h0 c8 rfl hd8 rfl ⟨rfl, rfl⟩ rfl rfl (fun _ => rfl) (fun h1 hp => ?_)
    dsimp only [Option.toList, List.cons_append, List.nil_append]
    obtain ⟨hf, hR1⟩ := hR h1 hp
    refine v_i2l C (oL_output.at 5 rfl) ?_
    refine v_last C (oL_output.at 6 rfl) hf (by decide) rfl (j := 0) (by decide) ?_
    refine v_goto C (oL_output.at 7 rfl) (tgt := 15) (by decide) ?_
    refine v_iconst C (oL_output.at 11 rfl) (v := nI 0) rfl ?_
    exact v_iret C (oL_output.at 12 rfl) rfl rfl ⟨Nat.le_refl _, Nat.le_refl _⟩ ⟨rfl, hR1⟩
  · have hE : (E, r) = (EIOO, 1) := by simpa [rwL_output] using hE
    cases hE
    refine conH (by decide +kernel) ⟨fun _ => rfl, rfl, by simp⟩ (fun X C => ?_)
    change V X (0, 0) w h 0 [some (.ref 0), some (.int x0), some (.ref 88), none] []
    refine v_aload_n C (oL_output.at 0 rfl) rfl ?_
    refine v_iconst C (oL_output.at 1 rfl) (v := nI 0) rfl ?_
    refine v_aload_n C (oL_output.at 2 rfl) rfl ?_
    refine v_iload_n C (oL_output.at 3 rfl) rfl ?_
    refine v_callV0 C (oL_output.at 4 rfl) cL_24.1 cL_24.2.1 cL_24.2.2 h0 c8 rfl hd8 rfl ⟨rfl, rfl⟩ rfl rfl (fun _ _ e _ => by cases e) (fun E' h1 e hp => ?_)
    cases e
    exact vt_catch C (i := 3) [] ⟨0, 9, 12, 19⟩ [] rfl (fun y hy => by cases hy) rfl (by decide) clEIOO caEIOO (.inr ⟨_, rfl, rfl, rfl⟩) (oL_output.at 8 rfl) (oL_output.at 9 rfl) (oL_output.at 10 rfl) rfl rfl rfl ⟨by decide, by decide⟩ ⟨rfl, hR h1 hp⟩
def mL_setNumber : Mi := (yL_setNumber, cL_setNumber, 5, some .int, 3)
def tL_setNumber : Ct := [(0, .aload_n 3, 1), (1, .iconst 0, 1), (2, .aload_n 0, 1), (3, .lload_n 1, 1), (4, .invokevirtual 27, 3), (7, .i2l, 1), (8, .lastore, 1), (9, .goto 7, 3), (12, .astore 4, 2), (14, .iconst 1, 1), (15, .ireturn, 1), (16, .iconst 0, 1), (17, .ireturn, 1)]
set_option maxRecDepth 20000 in
theorem oL_setNumber : CtOk mL_setNumber.2.1 tL_setNumber := by unfold CtOk; decide +kernel
def hhL_setNumber : List (Nat × Nat × Nat × Nat) := [(0, 9, 12, 13)]
theorem kL_setNumber : MKH mL_setNumber hhL_setNumber := ⟨tj3 107 (by rfl) rfl, tj1 0 (by rfl) rfl, by decide +kernel, by decide +kernel, by decide +kernel, tj3 106 (by rfl) rfl⟩
theorem cL_27 : MVL mL_setNumber.1.cls 27 mX8_setNumber 8 := ⟨kX8_setNumber, vX8_setNumber, tj3 108 (by rfl) rfl⟩
def rwL_setNumber : List (String × Nat) := [(EIAE, 1)]
theorem xL_setNumber {w : Wt} {h : Hp} {x0 : Int64} {d8 r : Nat} {z' : Nat × Nat} {o' : Oc} {f : Nat → Int64} {fs : List Value} {P' R : Hp → Prop} (hJ : JO rwL_setNumber o' z' r f P' R) (h0 : h 0 = .inr (8, fs)) (hd8 : Nat.blt d8 8 = true) (c8 : ConN mX8_setNumber d8 z' w [.ref 0, .long x0] h o' P') : ConH mL_setNumber hhL_setNumber 8 z' w [.ref 0, .long x0, .ref 88] h (.inl (some (.int (nI r)))) (fun w' h' => w' = w ∧ R h') := by
  rcases hJ with ⟨y, rfl, rfl, rfl, hR⟩ | ⟨E, rfl, rfl, hE, hR⟩
  · refine conH (by decide +kernel) ⟨fun _ => rfl, rfl, by simp⟩ (fun X C => ?_)
    change V X (0, 0) w h 0 [some (.ref 0), some (.long x0), none, some (.ref 88), none] []
    refine v_aload_n C (oL_setNumber.at 0 rfl) rfl ?_
    refine v_iconst C (oL_setNumber.at 1 rfl) (v := nI 0) rfl ?_
    refine v_aload_n C (oL_setNumber.at 2 rfl) rfl ?_
    refine v_lload_n C (oL_setNumber.at 3 rfl) rfl ?_
    refine v_callV C (oL_setNumber.at 4 rfl) cL_27 h0 c8 rfl hd8 rfl ⟨rfl, rfl⟩ rfl rfl (fun _ => rfl) (fun h1 hp => ?_)
    dsimp only [Option.toList, List.cons_append, List.nil_append]
    obtain ⟨hf, hR1⟩ := hR h1 hp
    refine v_i2l C (oL_setNumber.at 5 rfl) ?_
    refine v_last C (oL_setNumber.at 6 rfl) hf (by decide) rfl (j := 0) (by decide) ?_
    refine v_goto C (oL_setNumber.at 7 rfl) (tgt := 16) (by decide) ?_
    refine v_iconst C (oL_setNumber.at 11 rfl) (v := nI 0) rfl ?_
    exact v_iret C (oL_setNumber.at 12 rfl) rfl rfl ⟨Nat.le_refl _, Nat.le_refl _⟩ ⟨rfl, hR1⟩
  · have hE : (E, r) = (EIAE, 1) := by simpa [rwL_setNumber] using hE
    cases hE
    refine conH (by decide +kernel) ⟨fun _ => rfl, rfl, by simp⟩ (fun X C => ?_)
    change V X (0, 0) w h 0 [some (.ref 0), some (.long x0), none, some (.ref 88), none] []
    refine v_aload_n C (oL_setNumber.at 0 rfl) rfl ?_
    refine v_iconst C (oL_setNumber.at 1 rfl) (v := nI 0) rfl ?_
    refine v_aload_n C (oL_setNumber.at 2 rfl) rfl ?_
    refine v_lload_n C (oL_setNumber.at 3 rfl) rfl ?_
    refine v_callV0 C (oL_setNumber.at 4 rfl) cL_27.1 cL_27.2.1 cL_27.2.2 h0 c8 rfl hd8 rfl ⟨rfl, rfl⟩ rfl rfl (fun _ _ e _ => by cases e) (fun E' h1 e hp => ?_)
    cases e
    exact vt_catch C (i := 4) [] ⟨0, 9, 12, 13⟩ [] rfl (fun y hy => by cases hy) rfl (by decide) clEIAE caEIAE (.inl ⟨rfl, rfl⟩) (oL_setNumber.at 8 rfl) (oL_setNumber.at 9 rfl) (oL_setNumber.at 10 rfl) rfl rfl rfl ⟨by decide, by decide⟩ ⟨rfl, hR h1 hp⟩
def mL_append : Mi := (yL_append, cL_append, 4, some .int, 3)
def tL_append : Ct := [(0, .aload_n 2, 1), (1, .iconst 0, 1), (2, .aload_n 0, 1), (3, .iload_n 1, 1), (4, .invokevirtual 31, 3), (7, .i2l, 1), (8, .lastore, 1), (9, .goto 9, 3), (12, .astore_n 3, 1), (13, .iconst 1, 1), (14, .ireturn, 1), (15, .astore_n 3, 1), (16, .iconst 2, 1), (17, .ireturn, 1), (18, .iconst 0, 1), (19, .ireturn, 1)]
set_option maxRecDepth 20000 in
theorem oL_append : CtOk mL_append.2.1 tL_append := by unfold CtOk; decide +kernel
def hhL_append : List (Nat × Nat × Nat × Nat) := [(0, 9, 12, 13), (0, 9, 15, 34)]
theorem kL_append : MKH mL_append hhL_append := ⟨tj3 125 (by rfl) rfl, tj1 0 (by rfl) rfl, by decide +kernel, by decide +kernel, by decide +kernel, tj3 124 (by rfl) rfl⟩
theorem cL_31 : MVL mL_append.1.cls 31 mX8_append 8 := ⟨kX8_append, vX8_append, tj3 127 (by rfl) rfl⟩
def rwL_append : List (String × Nat) := [(EIAE, 1), (EISE, 2)]
theorem xL_append {w : Wt} {h : Hp} {x0 : Int32} {d8 r : Nat} {z' : Nat × Nat} {o' : Oc} {f : Nat → Int64} {fs : List Value} {P' R : Hp → Prop} (hJ : JO rwL_append o' z' r f P' R) (h0 : h 0 = .inr (8, fs)) (hd8 : Nat.blt d8 8 = true) (c8 : ConN mX8_append d8 z' w [.ref 0, .int x0] h o' P') : ConH mL_append hhL_append 8 z' w [.ref 0, .int x0, .ref 88] h (.inl (some (.int (nI r)))) (fun w' h' => w' = w ∧ R h') := by
  rcases hJ with ⟨y, rfl, rfl, rfl, hR⟩ | ⟨E, rfl, rfl, hE, hR⟩
  · refine conH (by decide +kernel) ⟨fun _ => rfl, rfl, by simp⟩ (fun X C => ?_)
    change V X (0, 0) w h 0 [some (.ref 0), some (.int x0), some (.ref 88), none] []
    refine v_aload_n C (oL_append.at 0 rfl) rfl ?_
    refine v_iconst C (oL_append.at 1 rfl) (v := nI 0) rfl ?_
    refine v_aload_n C (oL_append.at 2 rfl) rfl ?_
    refine v_iload_n C (oL_append.at 3 rfl) rfl ?_
    refine v_callV C (oL_append.at 4 rfl) cL_31 h0 c8 rfl hd8 rfl ⟨rfl, rfl⟩ rfl rfl (fun _ => rfl) (fun h1 hp => ?_)
    dsimp only [Option.toList, List.cons_append, List.nil_append]
    obtain ⟨hf, hR1⟩ := hR h1 hp
    refine v_i2l C (oL_append.at 5 rfl) ?_
    refine v_last C (oL_append.at 6 rfl) hf (by decide) rfl (j := 0) (by decide) ?_
    refine v_goto C (oL_append.at 7 rfl) (tgt := 18) (by decide) ?_
    refine v_iconst C (oL_append.at 14 rfl) (v := nI 0) rfl ?_
    exact v_iret C (oL_append.at 15 rfl) rfl rfl ⟨Nat.le_refl _, Nat.le_refl _⟩ ⟨rfl, hR1⟩
  · have hE : (E, r) = (EIAE, 1) ∨ (E, r) = (EISE, 2) := by simpa [rwL_append] using hE
    rcases hE with hE | hE <;> cases hE
    · refine conH (by decide +kernel) ⟨fun _ => rfl, rfl, by simp⟩ (fun X C => ?_)
      change V X (0, 0) w h 0 [some (.ref 0), some (.int x0), some (.ref 88), none] []
      refine v_aload_n C (oL_append.at 0 rfl) rfl ?_
      refine v_iconst C (oL_append.at 1 rfl) (v := nI 0) rfl ?_
      refine v_aload_n C (oL_append.at 2 rfl) rfl ?_
      refine v_iload_n C (oL_append.at 3 rfl) rfl ?_
      refine v_callV0 C (oL_append.at 4 rfl) cL_31.1 cL_31.2.1 cL_31.2.2 h0 c8 rfl hd8 rfl ⟨rfl, rfl⟩ rfl rfl (fun _ _ e _ => by cases e) (fun E' h1 e hp => ?_)
      cases e
      exact vt_catch C (i := 3) [] ⟨0, 9, 12, 13⟩ [⟨0, 9, 15, 34⟩] rfl (fun y hy => by cases hy) rfl (by decide) clEIAE caEIAE (.inr ⟨_, rfl, rfl, rfl⟩) (oL_append.at 8 rfl) (oL_append.at 9 rfl) (oL_append.at 10 rfl) rfl rfl rfl ⟨by decide, by decide⟩ ⟨rfl, hR h1 hp⟩
    · refine conH (by decide +kernel) ⟨fun _ => rfl, rfl, by simp⟩ (fun X C => ?_)
      change V X (0, 0) w h 0 [some (.ref 0), some (.int x0), some (.ref 88), none] []
      refine v_aload_n C (oL_append.at 0 rfl) rfl ?_
      refine v_iconst C (oL_append.at 1 rfl) (v := nI 0) rfl ?_
      refine v_aload_n C (oL_append.at 2 rfl) rfl ?_
      refine v_iload_n C (oL_append.at 3 rfl) rfl ?_
      refine v_callV0 C (oL_append.at 4 rfl) cL_31.1 cL_31.2.1 cL_31.2.2 h0 c8 rfl hd8 rfl ⟨rfl, rfl⟩ rfl rfl (fun _ _ e _ => by cases e) (fun E' h1 e hp => ?_)
      cases e
      exact vt_catch C (i := 3) [⟨0, 9, 12, 13⟩] ⟨0, 9, 15, 34⟩ [] rfl (fun y hy => by rw [List.mem_singleton.mp hy]; exact ⟨by decide, _, clEIAE, by decide⟩) rfl (by decide) clEISE caEISE (.inr ⟨_, rfl, rfl, rfl⟩) (oL_append.at 11 rfl) (oL_append.at 12 rfl) (oL_append.at 13 rfl) rfl rfl rfl ⟨by decide, by decide⟩ ⟨rfl, hR h1 hp⟩
def mL_compile : Mi := (yL_compile, cL_compile, 3, some .int, 2)
def tL_compile : Ct := [(0, .aload_n 1, 1), (1, .iconst 0, 1), (2, .aload_n 0, 1), (3, .invokevirtual 36, 3), (6, .i2l, 1), (7, .lastore, 1), (8, .goto 9, 3), (11, .astore_n 2, 1), (12, .iconst 1, 1), (13, .ireturn, 1), (14, .astore_n 2, 1), (15, .iconst 2, 1), (16, .ireturn, 1), (17, .iconst 0, 1), (18, .ireturn, 1)]
set_option maxRecDepth 20000 in
theorem oL_compile : CtOk mL_compile.2.1 tL_compile := by unfold CtOk; decide +kernel
def hhL_compile : List (Nat × Nat × Nat × Nat) := [(0, 8, 11, 13), (0, 8, 14, 40)]
theorem kL_compile : MKH mL_compile hhL_compile := ⟨tj3 157 (by rfl) rfl, tj1 0 (by rfl) rfl, by decide +kernel, by decide +kernel, by decide +kernel, tj3 156 (by rfl) rfl⟩
theorem cL_36 : MVL mL_compile.1.cls 36 mX8_compile 8 := ⟨kX8_compile, vX8_compile, tj3 172 (by rfl) rfl⟩
def rwL_compile : List (String × Nat) := [(EIAE, 1), (EARI, 2)]
theorem xL_compile {w : Wt} {h : Hp}  {d8 r : Nat} {z' : Nat × Nat} {o' : Oc} {f : Nat → Int64} {fs : List Value} {P' R : Hp → Prop} (hJ : JO rwL_compile o' z' r f P' R) (h0 : h 0 = .inr (8, fs)) (hd8 : Nat.blt d8 8 = true) (c8 : ConN mX8_compile d8 z' w [.ref 0] h o' P') : ConH mL_compile hhL_compile 8 z' w [.ref 0, .ref 88] h (.inl (some (.int (nI r)))) (fun w' h' => w' = w ∧ R h') := by
  rcases hJ with ⟨y, rfl, rfl, rfl, hR⟩ | ⟨E, rfl, rfl, hE, hR⟩
  · refine conH (by decide +kernel) ⟨fun _ => rfl, rfl, by simp⟩ (fun X C => ?_)
    change V X (0, 0) w h 0 [some (.ref 0), some (.ref 88), none] []
    refine v_aload_n C (oL_compile.at 0 rfl) rfl ?_
    refine v_iconst C (oL_compile.at 1 rfl) (v := nI 0) rfl ?_
    refine v_aload_n C (oL_compile.at 2 rfl) rfl ?_
    refine v_callV C (oL_compile.at 3 rfl) cL_36 h0 c8 rfl hd8 rfl ⟨rfl, rfl⟩ rfl rfl (fun _ => rfl) (fun h1 hp => ?_)
    dsimp only [Option.toList, List.cons_append, List.nil_append]
    obtain ⟨hf, hR1⟩ := hR h1 hp
    refine v_i2l C (oL_compile.at 4 rfl) ?_
    refine v_last C (oL_compile.at 5 rfl) hf (by decide) rfl (j := 0) (by decide) ?_
    refine v_goto C (oL_compile.at 6 rfl) (tgt := 17) (by decide) ?_
    refine v_iconst C (oL_compile.at 13 rfl) (v := nI 0) rfl ?_
    exact v_iret C (oL_compile.at 14 rfl) rfl rfl ⟨Nat.le_refl _, Nat.le_refl _⟩ ⟨rfl, hR1⟩
  · have hE : (E, r) = (EIAE, 1) ∨ (E, r) = (EARI, 2) := by simpa [rwL_compile] using hE
    rcases hE with hE | hE <;> cases hE
    · refine conH (by decide +kernel) ⟨fun _ => rfl, rfl, by simp⟩ (fun X C => ?_)
      change V X (0, 0) w h 0 [some (.ref 0), some (.ref 88), none] []
      refine v_aload_n C (oL_compile.at 0 rfl) rfl ?_
      refine v_iconst C (oL_compile.at 1 rfl) (v := nI 0) rfl ?_
      refine v_aload_n C (oL_compile.at 2 rfl) rfl ?_
      refine v_callV0 C (oL_compile.at 3 rfl) cL_36.1 cL_36.2.1 cL_36.2.2 h0 c8 rfl hd8 rfl ⟨rfl, rfl⟩ rfl rfl (fun _ _ e _ => by cases e) (fun E' h1 e hp => ?_)
      cases e
      exact vt_catch C (i := 2) [] ⟨0, 8, 11, 13⟩ [⟨0, 8, 14, 40⟩] rfl (fun y hy => by cases hy) rfl (by decide) clEIAE caEIAE (.inr ⟨_, rfl, rfl, rfl⟩) (oL_compile.at 7 rfl) (oL_compile.at 8 rfl) (oL_compile.at 9 rfl) rfl rfl rfl ⟨by decide, by decide⟩ ⟨rfl, hR h1 hp⟩
    · refine conH (by decide +kernel) ⟨fun _ => rfl, rfl, by simp⟩ (fun X C => ?_)
      change V X (0, 0) w h 0 [some (.ref 0), some (.ref 88), none] []
      refine v_aload_n C (oL_compile.at 0 rfl) rfl ?_
      refine v_iconst C (oL_compile.at 1 rfl) (v := nI 0) rfl ?_
      refine v_aload_n C (oL_compile.at 2 rfl) rfl ?_
      refine v_callV0 C (oL_compile.at 3 rfl) cL_36.1 cL_36.2.1 cL_36.2.2 h0 c8 rfl hd8 rfl ⟨rfl, rfl⟩ rfl rfl (fun _ _ e _ => by cases e) (fun E' h1 e hp => ?_)
      cases e
      exact vt_catch C (i := 2) [⟨0, 8, 11, 13⟩] ⟨0, 8, 14, 40⟩ [] rfl (fun y hy => by rw [List.mem_singleton.mp hy]; exact ⟨by decide, _, clEIAE, by decide⟩) rfl (by decide) clEARI caEARI (.inr ⟨_, rfl, rfl, rfl⟩) (oL_compile.at 10 rfl) (oL_compile.at 11 rfl) (oL_compile.at 12 rfl) rfl rfl rfl ⟨by decide, by decide⟩ ⟨rfl, hR h1 hp⟩
def mL_error : Mi := (yL_error, cL_error, 4, some .int, 3)
def tL_error : Ct := [(0, .aload_n 2, 1), (1, .iconst 0, 1), (2, .aload_n 0, 1), (3, .iload_n 1, 1), (4, .invokevirtual 42, 3), (7, .i2l, 1), (8, .lastore, 1), (9, .goto 6, 3), (12, .astore_n 3, 1), (13, .iconst 1, 1), (14, .ireturn, 1), (15, .iconst 0, 1), (16, .ireturn, 1)]
set_option maxRecDepth 20000 in
theorem oL_error : CtOk mL_error.2.1 tL_error := by unfold CtOk; decide +kernel
def hhL_error : List (Nat × Nat × Nat × Nat) := [(0, 9, 12, 19)]
theorem kL_error : MKH mL_error hhL_error := ⟨tj4 3 (by rfl) rfl, tj1 0 (by rfl) rfl, by decide +kernel, by decide +kernel, by decide +kernel, tj4 2 (by rfl) rfl⟩
theorem cL_42 : MVL mL_error.1.cls 42 mX8_error 8 := ⟨kX8_error, vX8_error, tj4 4 (by rfl) rfl⟩
def rwL_error : List (String × Nat) := [(EIOO, 1)]
theorem xL_error {w : Wt} {h : Hp} {x0 : Int32} {d8 r : Nat} {z' : Nat × Nat} {o' : Oc} {f : Nat → Int64} {fs : List Value} {P' R : Hp → Prop} (hJ : JO rwL_error o' z' r f P' R) (h0 : h 0 = .inr (8, fs)) (hd8 : Nat.blt d8 8 = true) (c8 : ConN mX8_error d8 z' w [.ref 0, .int x0] h o' P') : ConH mL_error hhL_error 8 z' w [.ref 0, .int x0, .ref 88] h (.inl (some (.int (nI r)))) (fun w' h' => w' = w ∧ R h') := by
  rcases hJ with ⟨y, rfl, rfl, rfl, hR⟩ | ⟨E, rfl, rfl, hE, hR⟩
  · refine conH (by decide +kernel) ⟨fun _ => rfl, rfl, by simp⟩ (fun X C => ?_)
    change V X (0, 0) w h 0 [some (.ref 0), some (.int x0), some (.ref 88), none] []
    refine v_aload_n C (oL_error.at 0 rfl) rfl ?_
    refine v_iconst C (oL_error.at 1 rfl) (v := nI 0) rfl ?_
    refine v_aload_n C (oL_error.at 2 rfl) rfl ?_
    refine v_iload_n C (oL_error.at 3 rfl) rfl ?_
    refine v_callV C (oL_error.at 4 rfl) cL_42 h0 c8 rfl hd8 rfl ⟨rfl, rfl⟩ rfl rfl (fun _ => rfl) (fun h1 hp => ?_)
    dsimp only [Option.toList, List.cons_append, List.nil_append]
    obtain ⟨hf, hR1⟩ := hR h1 hp
    refine v_i2l C (oL_error.at 5 rfl) ?_
    refine v_last C (oL_error.at 6 rfl) hf (by decide) rfl (j := 0) (by decide) ?_
    refine v_goto C (oL_error.at 7 rfl) (tgt := 15) (by decide) ?_
    refine v_iconst C (oL_error.at 11 rfl) (v := nI 0) rfl ?_
    exact v_iret C (oL_error.at 12 rfl) rfl rfl ⟨Nat.le_refl _, Nat.le_refl _⟩ ⟨rfl, hR1⟩
  · have hE : (E, r) = (EIOO, 1) := by simpa [rwL_error] using hE
    cases hE
    refine conH (by decide +kernel) ⟨fun _ => rfl, rfl, by simp⟩ (fun X C => ?_)
    change V X (0, 0) w h 0 [some (.ref 0), some (.int x0), some (.ref 88), none] []
    refine v_aload_n C (oL_error.at 0 rfl) rfl ?_
    refine v_iconst C (oL_error.at 1 rfl) (v := nI 0) rfl ?_
    refine v_aload_n C (oL_error.at 2 rfl) rfl ?_
    refine v_iload_n C (oL_error.at 3 rfl) rfl ?_
    refine v_callV0 C (oL_error.at 4 rfl) cL_42.1 cL_42.2.1 cL_42.2.2 h0 c8 rfl hd8 rfl ⟨rfl, rfl⟩ rfl rfl (fun _ _ e _ => by cases e) (fun E' h1 e hp => ?_)
    cases e
    exact vt_catch C (i := 3) [] ⟨0, 9, 12, 19⟩ [] rfl (fun y hy => by cases hy) rfl (by decide) clEIOO caEIOO (.inr ⟨_, rfl, rfl, rfl⟩) (oL_error.at 8 rfl) (oL_error.at 9 rfl) (oL_error.at 10 rfl) rfl rfl rfl ⟨by decide, by decide⟩ ⟨rfl, hR h1 hp⟩
def mL_compose : Mi := (yL_compose, cL_compose, 3, some .int, 2)
def tL_compose : Ct := [(0, .aload_n 1, 1), (1, .iconst 0, 1), (2, .aload_n 0, 1), (3, .invokevirtual 45, 3), (6, .i2l, 1), (7, .lastore, 1), (8, .goto 6, 3), (11, .astore_n 2, 1), (12, .iconst 1, 1), (13, .ireturn, 1), (14, .iconst 0, 1), (15, .ireturn, 1)]
set_option maxRecDepth 20000 in
theorem oL_compose : CtOk mL_compose.2.1 tL_compose := by unfold CtOk; decide +kernel
def hhL_compose : List (Nat × Nat × Nat × Nat) := [(0, 8, 11, 34)]
theorem kL_compose : MKH mL_compose hhL_compose := ⟨tj4 14 (by rfl) rfl, tj1 0 (by rfl) rfl, by decide +kernel, by decide +kernel, by decide +kernel, tj4 13 (by rfl) rfl⟩
theorem cL_45 : MVL mL_compose.1.cls 45 mX8_compose 8 := ⟨kX8_compose, vX8_compose, tj4 15 (by rfl) rfl⟩
def rwL_compose : List (String × Nat) := [(EISE, 1)]
theorem xL_compose {w : Wt} {h : Hp}  {d8 r : Nat} {z' : Nat × Nat} {o' : Oc} {f : Nat → Int64} {fs : List Value} {P' R : Hp → Prop} (hJ : JO rwL_compose o' z' r f P' R) (h0 : h 0 = .inr (8, fs)) (hd8 : Nat.blt d8 8 = true) (c8 : ConN mX8_compose d8 z' w [.ref 0] h o' P') : ConH mL_compose hhL_compose 8 z' w [.ref 0, .ref 88] h (.inl (some (.int (nI r)))) (fun w' h' => w' = w ∧ R h') := by
  rcases hJ with ⟨y, rfl, rfl, rfl, hR⟩ | ⟨E, rfl, rfl, hE, hR⟩
  · refine conH (by decide +kernel) ⟨fun _ => rfl, rfl, by simp⟩ (fun X C => ?_)
    change V X (0, 0) w h 0 [some (.ref 0), some (.ref 88), none] []
    refine v_aload_n C (oL_compose.at 0 rfl) rfl ?_
    refine v_iconst C (oL_compose.at 1 rfl) (v := nI 0) rfl ?_
    refine v_aload_n C (oL_compose.at 2 rfl) rfl ?_
    refine v_callV C (oL_compose.at 3 rfl) cL_45 h0 c8 rfl hd8 rfl ⟨rfl, rfl⟩ rfl rfl (fun _ => rfl) (fun h1 hp => ?_)
    dsimp only [Option.toList, List.cons_append, List.nil_append]
    obtain ⟨hf, hR1⟩ := hR h1 hp
    refine v_i2l C (oL_compose.at 4 rfl) ?_
    refine v_last C (oL_compose.at 5 rfl) hf (by decide) rfl (j := 0) (by decide) ?_
    refine v_goto C (oL_compose.at 6 rfl) (tgt := 14) (by decide) ?_
    refine v_iconst C (oL_compose.at 10 rfl) (v := nI 0) rfl ?_
    exact v_iret C (oL_compose.at 11 rfl) rfl rfl ⟨Nat.le_refl _, Nat.le_refl _⟩ ⟨rfl, hR1⟩
  · have hE : (E, r) = (EISE, 1) := by simpa [rwL_compose] using hE
    cases hE
    refine conH (by decide +kernel) ⟨fun _ => rfl, rfl, by simp⟩ (fun X C => ?_)
    change V X (0, 0) w h 0 [some (.ref 0), some (.ref 88), none] []
    refine v_aload_n C (oL_compose.at 0 rfl) rfl ?_
    refine v_iconst C (oL_compose.at 1 rfl) (v := nI 0) rfl ?_
    refine v_aload_n C (oL_compose.at 2 rfl) rfl ?_
    refine v_callV0 C (oL_compose.at 3 rfl) cL_45.1 cL_45.2.1 cL_45.2.2 h0 c8 rfl hd8 rfl ⟨rfl, rfl⟩ rfl rfl (fun _ _ e _ => by cases e) (fun E' h1 e hp => ?_)
    cases e
    exact vt_catch C (i := 2) [] ⟨0, 8, 11, 34⟩ [] rfl (fun y hy => by cases hy) rfl (by decide) clEISE caEISE (.inr ⟨_, rfl, rfl, rfl⟩) (oL_compose.at 7 rfl) (oL_compose.at 8 rfl) (oL_compose.at 9 rfl) rfl rfl rfl ⟨by decide, by decide⟩ ⟨rfl, hR h1 hp⟩
def mL_setWord : Mi := (yL_setWord, cL_setWord, 6, some .int, 5)
def tL_setWord : Ct := [(0, .aload 4, 2), (2, .iconst 0, 1), (3, .aload_n 0, 1), (4, .iload_n 1, 1), (5, .iload_n 2, 1), (6, .iload_n 3, 1), (7, .invokevirtual 48, 3), (10, .i2l, 1), (11, .lastore, 1), (12, .goto 11, 3), (15, .astore 5, 2), (17, .iconst 1, 1), (18, .ireturn, 1), (19, .astore 5, 2), (21, .iconst 2, 1), (22, .ireturn, 1), (23, .iconst 0, 1), (24, .ireturn, 1)]
set_option maxRecDepth 20000 in
theorem oL_setWord : CtOk mL_setWord.2.1 tL_setWord := by unfold CtOk; decide +kernel
def hhL_setWord : List (Nat × Nat × Nat × Nat) := [(0, 12, 15, 19), (0, 12, 19, 13)]
theorem kL_setWord : MKH mL_setWord hhL_setWord := ⟨tj4 33 (by rfl) rfl, tj1 0 (by rfl) rfl, by decide +kernel, by decide +kernel, by decide +kernel, tj4 32 (by rfl) rfl⟩
theorem cL_48 : MVL mL_setWord.1.cls 48 mX8_setWord 8 := ⟨kX8_setWord, vX8_setWord, tj4 34 (by rfl) rfl⟩
def rwL_setWord : List (String × Nat) := [(EIOO, 1), (EIAE, 2)]
theorem xL_setWord {w : Wt} {h : Hp} {x0 : Int32} {x1 : Int32} {x2 : Int32} {d8 r : Nat} {z' : Nat × Nat} {o' : Oc} {f : Nat → Int64} {fs : List Value} {P' R : Hp → Prop} (hJ : JO rwL_setWord o' z' r f P' R) (h0 : h 0 = .inr (8, fs)) (hd8 : Nat.blt d8 8 = true) (c8 : ConN mX8_setWord d8 z' w [.ref 0, .int x0, .int x1, .int x2] h o' P') : ConH mL_setWord hhL_setWord 8 z' w [.ref 0, .int x0, .int x1, .int x2, .ref 88] h (.inl (some (.int (nI r)))) (fun w' h' => w' = w ∧ R h') := by
  rcases hJ with ⟨y, rfl, rfl, rfl, hR⟩ | ⟨E, rfl, rfl, hE, hR⟩
  · refine conH (by decide +kernel) ⟨fun _ => rfl, rfl, by simp⟩ (fun X C => ?_)
    change V X (0, 0) w h 0 [some (.ref 0), some (.int x0), some (.int x1), some (.int x2), some (.ref 88), none] []
    refine v_aload C (oL_setWord.at 0 rfl) rfl ?_
    refine v_iconst C (oL_setWord.at 1 rfl) (v := nI 0) rfl ?_
    refine v_aload_n C (oL_setWord.at 2 rfl) rfl ?_
    refine v_iload_n C (oL_setWord.at 3 rfl) rfl ?_
    refine v_iload_n C (oL_setWord.at 4 rfl) rfl ?_
    refine v_iload_n C (oL_setWord.at 5 rfl) rfl ?_
    refine v_callV C (oL_setWord.at 6 rfl) cL_48 h0 c8 rfl hd8 rfl ⟨rfl, rfl⟩ rfl rfl (fun _ => rfl) (fun h1 hp => ?_)
    dsimp only [Option.toList, List.cons_append, List.nil_append]
    obtain ⟨hf, hR1⟩ := hR h1 hp
    refine v_i2l C (oL_setWord.at 7 rfl) ?_
    refine v_last C (oL_setWord.at 8 rfl) hf (by decide) rfl (j := 0) (by decide) ?_
    refine v_goto C (oL_setWord.at 9 rfl) (tgt := 23) (by decide) ?_
    refine v_iconst C (oL_setWord.at 16 rfl) (v := nI 0) rfl ?_
    exact v_iret C (oL_setWord.at 17 rfl) rfl rfl ⟨Nat.le_refl _, Nat.le_refl _⟩ ⟨rfl, hR1⟩
  · have hE : (E, r) = (EIOO, 1) ∨ (E, r) = (EIAE, 2) := by simpa [rwL_setWord] using hE
    rcases hE with hE | hE <;> cases hE
    · refine conH (by decide +kernel) ⟨fun _ => rfl, rfl, by simp⟩ (fun X C => ?_)
      change V X (0, 0) w h 0 [some (.ref 0), some (.int x0), some (.int x1), some (.int x2), some (.ref 88), none] []
      refine v_aload C (oL_setWord.at 0 rfl) rfl ?_
      refine v_iconst C (oL_setWord.at 1 rfl) (v := nI 0) rfl ?_
      refine v_aload_n C (oL_setWord.at 2 rfl) rfl ?_
      refine v_iload_n C (oL_setWord.at 3 rfl) rfl ?_
      refine v_iload_n C (oL_setWord.at 4 rfl) rfl ?_
      refine v_iload_n C (oL_setWord.at 5 rfl) rfl ?_
      refine v_callV0 C (oL_setWord.at 6 rfl) cL_48.1 cL_48.2.1 cL_48.2.2 h0 c8 rfl hd8 rfl ⟨rfl, rfl⟩ rfl rfl (fun _ _ e _ => by cases e) (fun E' h1 e hp => ?_)
      cases e
      exact vt_catch C (i := 5) [] ⟨0, 12, 15, 19⟩ [⟨0, 12, 19, 13⟩] rfl (fun y hy => by cases hy) rfl (by decide) clEIOO caEIOO (.inl ⟨rfl, rfl⟩) (oL_setWord.at 10 rfl) (oL_setWord.at 11 rfl) (oL_setWord.at 12 rfl) rfl rfl rfl ⟨by decide, by decide⟩ ⟨rfl, hR h1 hp⟩
    · refine conH (by decide +kernel) ⟨fun _ => rfl, rfl, by simp⟩ (fun X C => ?_)
      change V X (0, 0) w h 0 [some (.ref 0), some (.int x0), some (.int x1), some (.int x2), some (.ref 88), none] []
      refine v_aload C (oL_setWord.at 0 rfl) rfl ?_
      refine v_iconst C (oL_setWord.at 1 rfl) (v := nI 0) rfl ?_
      refine v_aload_n C (oL_setWord.at 2 rfl) rfl ?_
      refine v_iload_n C (oL_setWord.at 3 rfl) rfl ?_
      refine v_iload_n C (oL_setWord.at 4 rfl) rfl ?_
      refine v_iload_n C (oL_setWord.at 5 rfl) rfl ?_
      refine v_callV0 C (oL_setWord.at 6 rfl) cL_48.1 cL_48.2.1 cL_48.2.2 h0 c8 rfl hd8 rfl ⟨rfl, rfl⟩ rfl rfl (fun _ _ e _ => by cases e) (fun E' h1 e hp => ?_)
      cases e
      exact vt_catch C (i := 5) [⟨0, 12, 15, 19⟩] ⟨0, 12, 19, 13⟩ [] rfl (fun y hy => by rw [List.mem_singleton.mp hy]; exact ⟨by decide, _, clEIOO, by decide⟩) rfl (by decide) clEIAE caEIAE (.inl ⟨rfl, rfl⟩) (oL_setWord.at 13 rfl) (oL_setWord.at 14 rfl) (oL_setWord.at 15 rfl) rfl rfl rfl ⟨by decide, by decide⟩ ⟨rfl, hR h1 hp⟩
def mL_wordLength : Mi := (yL_wordLength, cL_wordLength, 4, some .int, 3)
def tL_wordLength : Ct := [(0, .aload_n 2, 1), (1, .iconst 0, 1), (2, .aload_n 0, 1), (3, .iload_n 1, 1), (4, .invokevirtual 52, 3), (7, .i2l, 1), (8, .lastore, 1), (9, .goto 6, 3), (12, .astore_n 3, 1), (13, .iconst 1, 1), (14, .ireturn, 1), (15, .iconst 0, 1), (16, .ireturn, 1)]
set_option maxRecDepth 20000 in
theorem oL_wordLength : CtOk mL_wordLength.2.1 tL_wordLength := by unfold CtOk; decide +kernel
def hhL_wordLength : List (Nat × Nat × Nat × Nat) := [(0, 9, 12, 19)]
theorem kL_wordLength : MKH mL_wordLength hhL_wordLength := ⟨tj4 50 (by rfl) rfl, tj1 0 (by rfl) rfl, by decide +kernel, by decide +kernel, by decide +kernel, tj4 49 (by rfl) rfl⟩
theorem cL_52 : MVL mL_wordLength.1.cls 52 mX8_wordLength 8 := ⟨kX8_wordLength, vX8_wordLength, tj4 51 (by rfl) rfl⟩
def rwL_wordLength : List (String × Nat) := [(EIOO, 1)]
theorem xL_wordLength {w : Wt} {h : Hp} {x0 : Int32} {d8 r : Nat} {z' : Nat × Nat} {o' : Oc} {f : Nat → Int64} {fs : List Value} {P' R : Hp → Prop} (hJ : JO rwL_wordLength o' z' r f P' R) (h0 : h 0 = .inr (8, fs)) (hd8 : Nat.blt d8 8 = true) (c8 : ConN mX8_wordLength d8 z' w [.ref 0, .int x0] h o' P') : ConH mL_wordLength hhL_wordLength 8 z' w [.ref 0, .int x0, .ref 88] h (.inl (some (.int (nI r)))) (fun w' h' => w' = w ∧ R h') := by
  rcases hJ with ⟨y, rfl, rfl, rfl, hR⟩ | ⟨E, rfl, rfl, hE, hR⟩
  · refine conH (by decide +kernel) ⟨fun _ => rfl, rfl, by simp⟩ (fun X C => ?_)
    change V X (0, 0) w h 0 [some (.ref 0), some (.int x0), some (.ref 88), none] []
    refine v_aload_n C (oL_wordLength.at 0 rfl) rfl ?_
    refine v_iconst C (oL_wordLength.at 1 rfl) (v := nI 0) rfl ?_
    refine v_aload_n C (oL_wordLength.at 2 rfl) rfl ?_
    refine v_iload_n C (oL_wordLength.at 3 rfl) rfl ?_
    refine v_callV C (oL_wordLength.at 4 rfl) cL_52 h0 c8 rfl hd8 rfl ⟨rfl, rfl⟩ rfl rfl (fun _ => rfl) (fun h1 hp => ?_)
    dsimp only [Option.toList, List.cons_append, List.nil_append]
    obtain ⟨hf, hR1⟩ := hR h1 hp
    refine v_i2l C (oL_wordLength.at 5 rfl) ?_
    refine v_last C (oL_wordLength.at 6 rfl) hf (by decide) rfl (j := 0) (by decide) ?_
    refine v_goto C (oL_wordLength.at 7 rfl) (tgt := 15) (by decide) ?_
    refine v_iconst C (oL_wordLength.at 11 rfl) (v := nI 0) rfl ?_
    exact v_iret C (oL_wordLength.at 12 rfl) rfl rfl ⟨Nat.le_refl _, Nat.le_refl _⟩ ⟨rfl, hR1⟩
  · have hE : (E, r) = (EIOO, 1) := by simpa [rwL_wordLength] using hE
    cases hE
    refine conH (by decide +kernel) ⟨fun _ => rfl, rfl, by simp⟩ (fun X C => ?_)
    change V X (0, 0) w h 0 [some (.ref 0), some (.int x0), some (.ref 88), none] []
    refine v_aload_n C (oL_wordLength.at 0 rfl) rfl ?_
    refine v_iconst C (oL_wordLength.at 1 rfl) (v := nI 0) rfl ?_
    refine v_aload_n C (oL_wordLength.at 2 rfl) rfl ?_
    refine v_iload_n C (oL_wordLength.at 3 rfl) rfl ?_
    refine v_callV0 C (oL_wordLength.at 4 rfl) cL_52.1 cL_52.2.1 cL_52.2.2 h0 c8 rfl hd8 rfl ⟨rfl, rfl⟩ rfl rfl (fun _ _ e _ => by cases e) (fun E' h1 e hp => ?_)
    cases e
    exact vt_catch C (i := 3) [] ⟨0, 9, 12, 19⟩ [] rfl (fun y hy => by cases hy) rfl (by decide) clEIOO caEIOO (.inr ⟨_, rfl, rfl, rfl⟩) (oL_wordLength.at 8 rfl) (oL_wordLength.at 9 rfl) (oL_wordLength.at 10 rfl) rfl rfl rfl ⟨by decide, by decide⟩ ⟨rfl, hR h1 hp⟩
def mL_wordIndex : Mi := (yL_wordIndex, cL_wordIndex, 4, some .int, 3)
def tL_wordIndex : Ct := [(0, .aload_n 2, 1), (1, .iconst 0, 1), (2, .aload_n 0, 1), (3, .iload_n 1, 1), (4, .invokevirtual 55, 3), (7, .i2l, 1), (8, .lastore, 1), (9, .goto 6, 3), (12, .astore_n 3, 1), (13, .iconst 1, 1), (14, .ireturn, 1), (15, .iconst 0, 1), (16, .ireturn, 1)]
set_option maxRecDepth 20000 in
theorem oL_wordIndex : CtOk mL_wordIndex.2.1 tL_wordIndex := by unfold CtOk; decide +kernel
def hhL_wordIndex : List (Nat × Nat × Nat × Nat) := [(0, 9, 12, 19)]
theorem kL_wordIndex : MKH mL_wordIndex hhL_wordIndex := ⟨tj4 57 (by rfl) rfl, tj1 0 (by rfl) rfl, by decide +kernel, by decide +kernel, by decide +kernel, tj4 56 (by rfl) rfl⟩
theorem cL_55 : MVL mL_wordIndex.1.cls 55 mX8_wordIndex 8 := ⟨kX8_wordIndex, vX8_wordIndex, tj4 58 (by rfl) rfl⟩
def rwL_wordIndex : List (String × Nat) := [(EIOO, 1)]
theorem xL_wordIndex {w : Wt} {h : Hp} {x0 : Int32} {d8 r : Nat} {z' : Nat × Nat} {o' : Oc} {f : Nat → Int64} {fs : List Value} {P' R : Hp → Prop} (hJ : JO rwL_wordIndex o' z' r f P' R) (h0 : h 0 = .inr (8, fs)) (hd8 : Nat.blt d8 8 = true) (c8 : ConN mX8_wordIndex d8 z' w [.ref 0, .int x0] h o' P') : ConH mL_wordIndex hhL_wordIndex 8 z' w [.ref 0, .int x0, .ref 88] h (.inl (some (.int (nI r)))) (fun w' h' => w' = w ∧ R h') := by
  rcases hJ with ⟨y, rfl, rfl, rfl, hR⟩ | ⟨E, rfl, rfl, hE, hR⟩
  · refine conH (by decide +kernel) ⟨fun _ => rfl, rfl, by simp⟩ (fun X C => ?_)
    change V X (0, 0) w h 0 [some (.ref 0), some (.int x0), some (.ref 88), none] []
    refine v_aload_n C (oL_wordIndex.at 0 rfl) rfl ?_
    refine v_iconst C (oL_wordIndex.at 1 rfl) (v := nI 0) rfl ?_
    refine v_aload_n C (oL_wordIndex.at 2 rfl) rfl ?_
    refine v_iload_n C (oL_wordIndex.at 3 rfl) rfl ?_
    refine v_callV C (oL_wordIndex.at 4 rfl) cL_55 h0 c8 rfl hd8 rfl ⟨rfl, rfl⟩ rfl rfl (fun _ => rfl) (fun h1 hp => ?_)
    dsimp only [Option.toList, List.cons_append, List.nil_append]
    obtain ⟨hf, hR1⟩ := hR h1 hp
    refine v_i2l C (oL_wordIndex.at 5 rfl) ?_
    refine v_last C (oL_wordIndex.at 6 rfl) hf (by decide) rfl (j := 0) (by decide) ?_
    refine v_goto C (oL_wordIndex.at 7 rfl) (tgt := 15) (by decide) ?_
    refine v_iconst C (oL_wordIndex.at 11 rfl) (v := nI 0) rfl ?_
    exact v_iret C (oL_wordIndex.at 12 rfl) rfl rfl ⟨Nat.le_refl _, Nat.le_refl _⟩ ⟨rfl, hR1⟩
  · have hE : (E, r) = (EIOO, 1) := by simpa [rwL_wordIndex] using hE
    cases hE
    refine conH (by decide +kernel) ⟨fun _ => rfl, rfl, by simp⟩ (fun X C => ?_)
    change V X (0, 0) w h 0 [some (.ref 0), some (.int x0), some (.ref 88), none] []
    refine v_aload_n C (oL_wordIndex.at 0 rfl) rfl ?_
    refine v_iconst C (oL_wordIndex.at 1 rfl) (v := nI 0) rfl ?_
    refine v_aload_n C (oL_wordIndex.at 2 rfl) rfl ?_
    refine v_iload_n C (oL_wordIndex.at 3 rfl) rfl ?_
    refine v_callV0 C (oL_wordIndex.at 4 rfl) cL_55.1 cL_55.2.1 cL_55.2.2 h0 c8 rfl hd8 rfl ⟨rfl, rfl⟩ rfl rfl (fun _ _ e _ => by cases e) (fun E' h1 e hp => ?_)
    cases e
    exact vt_catch C (i := 3) [] ⟨0, 9, 12, 19⟩ [] rfl (fun y hy => by cases hy) rfl (by decide) clEIOO caEIOO (.inr ⟨_, rfl, rfl, rfl⟩) (oL_wordIndex.at 8 rfl) (oL_wordIndex.at 9 rfl) (oL_wordIndex.at 10 rfl) rfl rfl rfl ⟨by decide, by decide⟩ ⟨rfl, hR h1 hp⟩
def mL_cell : Mi := (yL_cell, cL_cell, 5, some .int, 4)
def tL_cell : Ct := [(0, .aload_n 3, 1), (1, .iconst 0, 1), (2, .aload_n 0, 1), (3, .iload_n 1, 1), (4, .iload_n 2, 1), (5, .invokevirtual 58, 3), (8, .i2l, 1), (9, .lastore, 1), (10, .goto 7, 3), (13, .astore 4, 2), (15, .iconst 1, 1), (16, .ireturn, 1), (17, .iconst 0, 1), (18, .ireturn, 1)]
set_option maxRecDepth 20000 in
theorem oL_cell : CtOk mL_cell.2.1 tL_cell := by unfold CtOk; decide +kernel
def hhL_cell : List (Nat × Nat × Nat × Nat) := [(0, 10, 13, 19)]
theorem kL_cell : MKH mL_cell hhL_cell := ⟨tj4 64 (by rfl) rfl, tj1 0 (by rfl) rfl, by decide +kernel, by decide +kernel, by decide +kernel, tj4 63 (by rfl) rfl⟩
theorem cL_58 : MVL mL_cell.1.cls 58 mX8_cell 8 := ⟨kX8_cell, vX8_cell, tj4 65 (by rfl) rfl⟩
def rwL_cell : List (String × Nat) := [(EIOO, 1)]
theorem xL_cell {w : Wt} {h : Hp} {x0 : Int32} {x1 : Int32} {d8 r : Nat} {z' : Nat × Nat} {o' : Oc} {f : Nat → Int64} {fs : List Value} {P' R : Hp → Prop} (hJ : JO rwL_cell o' z' r f P' R) (h0 : h 0 = .inr (8, fs)) (hd8 : Nat.blt d8 8 = true) (c8 : ConN mX8_cell d8 z' w [.ref 0, .int x0, .int x1] h o' P') : ConH mL_cell hhL_cell 8 z' w [.ref 0, .int x0, .int x1, .ref 88] h (.inl (some (.int (nI r)))) (fun w' h' => w' = w ∧ R h') := by
  rcases hJ with ⟨y, rfl, rfl, rfl, hR⟩ | ⟨E, rfl, rfl, hE, hR⟩
  · refine conH (by decide +kernel) ⟨fun _ => rfl, rfl, by simp⟩ (fun X C => ?_)
    change V X (0, 0) w h 0 [some (.ref 0), some (.int x0), some (.int x1), some (.ref 88), none] []
    refine v_aload_n C (oL_cell.at 0 rfl) rfl ?_
    refine v_iconst C (oL_cell.at 1 rfl) (v := nI 0) rfl ?_
    refine v_aload_n C (oL_cell.at 2 rfl) rfl ?_
    refine v_iload_n C (oL_cell.at 3 rfl) rfl ?_
    refine v_iload_n C (oL_cell.at 4 rfl) rfl ?_
    refine v_callV C (oL_cell.at 5 rfl) cL_58 h0 c8 rfl hd8 rfl ⟨rfl, rfl⟩ rfl rfl (fun _ => rfl) (fun h1 hp => ?_)
    dsimp only [Option.toList, List.cons_append, List.nil_append]
    obtain ⟨hf, hR1⟩ := hR h1 hp
    refine v_i2l C (oL_cell.at 6 rfl) ?_
    refine v_last C (oL_cell.at 7 rfl) hf (by decide) rfl (j := 0) (by decide) ?_
    refine v_goto C (oL_cell.at 8 rfl) (tgt := 17) (by decide) ?_
    refine v_iconst C (oL_cell.at 12 rfl) (v := nI 0) rfl ?_
    exact v_iret C (oL_cell.at 13 rfl) rfl rfl ⟨Nat.le_refl _, Nat.le_refl _⟩ ⟨rfl, hR1⟩
  · have hE : (E, r) = (EIOO, 1) := by simpa [rwL_cell] using hE
    cases hE
    refine conH (by decide +kernel) ⟨fun _ => rfl, rfl, by simp⟩ (fun X C => ?_)
    change V X (0, 0) w h 0 [some (.ref 0), some (.int x0), some (.int x1), some (.ref 88), none] []
    refine v_aload_n C (oL_cell.at 0 rfl) rfl ?_
    refine v_iconst C (oL_cell.at 1 rfl) (v := nI 0) rfl ?_
    refine v_aload_n C (oL_cell.at 2 rfl) rfl ?_
    refine v_iload_n C (oL_cell.at 3 rfl) rfl ?_
    refine v_iload_n C (oL_cell.at 4 rfl) rfl ?_
    refine v_callV0 C (oL_cell.at 5 rfl) cL_58.1 cL_58.2.1 cL_58.2.2 h0 c8 rfl hd8 rfl ⟨rfl, rfl⟩ rfl rfl (fun _ _ e _ => by cases e) (fun E' h1 e hp => ?_)
    cases e
    exact vt_catch C (i := 4) [] ⟨0, 10, 13, 19⟩ [] rfl (fun y hy => by cases hy) rfl (by decide) clEIOO caEIOO (.inl ⟨rfl, rfl⟩) (oL_cell.at 9 rfl) (oL_cell.at 10 rfl) (oL_cell.at 11 rfl) rfl rfl rfl ⟨by decide, by decide⟩ ⟨rfl, hR h1 hp⟩
def mL_apply : Mi := (yL_apply, cL_apply, 5, some .int, 4)
def tL_apply : Ct := [(0, .aload_n 3, 1), (1, .iconst 0, 1), (2, .aload_n 0, 1), (3, .iload_n 1, 1), (4, .iload_n 2, 1), (5, .invokevirtual 61, 3), (8, .i2l, 1), (9, .lastore, 1), (10, .goto 11, 3), (13, .astore 4, 2), (15, .iconst 1, 1), (16, .ireturn, 1), (17, .astore 4, 2), (19, .iconst 2, 1), (20, .ireturn, 1), (21, .iconst 0, 1), (22, .ireturn, 1)]
set_option maxRecDepth 20000 in
theorem oL_apply : CtOk mL_apply.2.1 tL_apply := by unfold CtOk; decide +kernel
def hhL_apply : List (Nat × Nat × Nat × Nat) := [(0, 10, 13, 19), (0, 10, 17, 34)]
theorem kL_apply : MKH mL_apply hhL_apply := ⟨tj4 76 (by rfl) rfl, tj1 0 (by rfl) rfl, by decide +kernel, by decide +kernel, by decide +kernel, tj4 75 (by rfl) rfl⟩
theorem cL_61 : MVL mL_apply.1.cls 61 mX8_apply 8 := ⟨kX8_apply, vX8_apply, tj4 77 (by rfl) rfl⟩
def rwL_apply : List (String × Nat) := [(EIOO, 1), (EISE, 2)]
theorem xL_apply {w : Wt} {h : Hp} {x0 : Int32} {x1 : Int32} {d8 r : Nat} {z' : Nat × Nat} {o' : Oc} {f : Nat → Int64} {fs : List Value} {P' R : Hp → Prop} (hJ : JO rwL_apply o' z' r f P' R) (h0 : h 0 = .inr (8, fs)) (hd8 : Nat.blt d8 8 = true) (c8 : ConN mX8_apply d8 z' w [.ref 0, .int x0, .int x1] h o' P') : ConH mL_apply hhL_apply 8 z' w [.ref 0, .int x0, .int x1, .ref 88] h (.inl (some (.int (nI r)))) (fun w' h' => w' = w ∧ R h') := by
  rcases hJ with ⟨y, rfl, rfl, rfl, hR⟩ | ⟨E, rfl, rfl, hE, hR⟩
  · refine conH (by decide +kernel) ⟨fun _ => rfl, rfl, by simp⟩ (fun X C => ?_)
    change V X (0, 0) w h 0 [some (.ref 0), some (.int x0), some (.int x1), some (.ref 88), none] []
    refine v_aload_n C (oL_apply.at 0 rfl) rfl ?_
    refine v_iconst C (oL_apply.at 1 rfl) (v := nI 0) rfl ?_
    refine v_aload_n C (oL_apply.at 2 rfl) rfl ?_
    refine v_iload_n C (oL_apply.at 3 rfl) rfl ?_
    refine v_iload_n C (oL_apply.at 4 rfl) rfl ?_
    refine v_callV C (oL_apply.at 5 rfl) cL_61 h0 c8 rfl hd8 rfl ⟨rfl, rfl⟩ rfl rfl (fun _ => rfl) (fun h1 hp => ?_)
    dsimp only [Option.toList, List.cons_append, List.nil_append]
    obtain ⟨hf, hR1⟩ := hR h1 hp
    refine v_i2l C (oL_apply.at 6 rfl) ?_
    refine v_last C (oL_apply.at 7 rfl) hf (by decide) rfl (j := 0) (by decide) ?_
    refine v_goto C (oL_apply.at 8 rfl) (tgt := 21) (by decide) ?_
    refine v_iconst C (oL_apply.at 15 rfl) (v := nI 0) rfl ?_
    exact v_iret C (oL_apply.at 16 rfl) rfl rfl ⟨Nat.le_refl _, Nat.le_refl _⟩ ⟨rfl, hR1⟩
  · have hE : (E, r) = (EIOO, 1) ∨ (E, r) = (EISE, 2) := by simpa [rwL_apply] using hE
    rcases hE with hE | hE <;> cases hE
    · refine conH (by decide +kernel) ⟨fun _ => rfl, rfl, by simp⟩ (fun X C => ?_)
      change V X (0, 0) w h 0 [some (.ref 0), some (.int x0), some (.int x1), some (.ref 88), none] []
      refine v_aload_n C (oL_apply.at 0 rfl) rfl ?_
      refine v_iconst C (oL_apply.at 1 rfl) (v := nI 0) rfl ?_
      refine v_aload_n C (oL_apply.at 2 rfl) rfl ?_
      refine v_iload_n C (oL_apply.at 3 rfl) rfl ?_
      refine v_iload_n C (oL_apply.at 4 rfl) rfl ?_
      refine v_callV0 C (oL_apply.at 5 rfl) cL_61.1 cL_61.2.1 cL_61.2.2 h0 c8 rfl hd8 rfl ⟨rfl, rfl⟩ rfl rfl (fun _ _ e _ => by cases e) (fun E' h1 e hp => ?_)
      cases e
      exact vt_catch C (i := 4) [] ⟨0, 10, 13, 19⟩ [⟨0, 10, 17, 34⟩] rfl (fun y hy => by cases hy) rfl (by decide) clEIOO caEIOO (.inl ⟨rfl, rfl⟩) (oL_apply.at 9 rfl) (oL_apply.at 10 rfl) (oL_apply.at 11 rfl) rfl rfl rfl ⟨by decide, by decide⟩ ⟨rfl, hR h1 hp⟩
    · refine conH (by decide +kernel) ⟨fun _ => rfl, rfl, by simp⟩ (fun X C => ?_)
      change V X (0, 0) w h 0 [some (.ref 0), some (.int x0), some (.int x1), some (.ref 88), none] []
      refine v_aload_n C (oL_apply.at 0 rfl) rfl ?_
      refine v_iconst C (oL_apply.at 1 rfl) (v := nI 0) rfl ?_
      refine v_aload_n C (oL_apply.at 2 rfl) rfl ?_
      refine v_iload_n C (oL_apply.at 3 rfl) rfl ?_
      refine v_iload_n C (oL_apply.at 4 rfl) rfl ?_
      refine v_callV0 C (oL_apply.at 5 rfl) cL_61.1 cL_61.2.1 cL_61.2.2 h0 c8 rfl hd8 rfl ⟨rfl, rfl⟩ rfl rfl (fun _ _ e _ => by cases e) (fun E' h1 e hp => ?_)
      cases e
      exact vt_catch C (i := 4) [⟨0, 10, 13, 19⟩] ⟨0, 10, 17, 34⟩ [] rfl (fun y hy => by rw [List.mem_singleton.mp hy]; exact ⟨by decide, _, clEIOO, by decide⟩) rfl (by decide) clEISE caEISE (.inl ⟨rfl, rfl⟩) (oL_apply.at 12 rfl) (oL_apply.at 13 rfl) (oL_apply.at 14 rfl) rfl rfl rfl ⟨by decide, by decide⟩ ⟨rfl, hR h1 hp⟩
def mL_orbit : Mi := (yL_orbit, cL_orbit, 5, some .int, 4)
def tL_orbit : Ct := [(0, .aload_n 3, 1), (1, .iconst 0, 1), (2, .aload_n 0, 1), (3, .iload_n 1, 1), (4, .iload_n 2, 1), (5, .invokevirtual 65, 3), (8, .i2l, 1), (9, .lastore, 1), (10, .goto 11, 3), (13, .astore 4, 2), (15, .iconst 1, 1), (16, .ireturn, 1), (17, .astore 4, 2), (19, .iconst 2, 1), (20, .ireturn, 1), (21, .iconst 0, 1), (22, .ireturn, 1)]
set_option maxRecDepth 20000 in
theorem oL_orbit : CtOk mL_orbit.2.1 tL_orbit := by unfold CtOk; decide +kernel
def hhL_orbit : List (Nat × Nat × Nat × Nat) := [(0, 10, 13, 19), (0, 10, 17, 34)]
theorem kL_orbit : MKH mL_orbit hhL_orbit := ⟨tj4 88 (by rfl) rfl, tj1 0 (by rfl) rfl, by decide +kernel, by decide +kernel, by decide +kernel, tj4 87 (by rfl) rfl⟩
theorem cL_65 : MVL mL_orbit.1.cls 65 mX8_orbit 8 := ⟨kX8_orbit, vX8_orbit, tj4 89 (by rfl) rfl⟩
def rwL_orbit : List (String × Nat) := [(EIOO, 1), (EISE, 2)]
theorem xL_orbit {w : Wt} {h : Hp} {x0 : Int32} {x1 : Int32} {d8 r : Nat} {z' : Nat × Nat} {o' : Oc} {f : Nat → Int64} {fs : List Value} {P' R : Hp → Prop} (hJ : JO rwL_orbit o' z' r f P' R) (h0 : h 0 = .inr (8, fs)) (hd8 : Nat.blt d8 8 = true) (c8 : ConN mX8_orbit d8 z' w [.ref 0, .int x0, .int x1] h o' P') : ConH mL_orbit hhL_orbit 8 z' w [.ref 0, .int x0, .int x1, .ref 88] h (.inl (some (.int (nI r)))) (fun w' h' => w' = w ∧ R h') := by
  rcases hJ with ⟨y, rfl, rfl, rfl, hR⟩ | ⟨E, rfl, rfl, hE, hR⟩
  · refine conH (by decide +kernel) ⟨fun _ => rfl, rfl, by simp⟩ (fun X C => ?_)
    change V X (0, 0) w h 0 [some (.ref 0), some (.int x0), some (.int x1), some (.ref 88), none] []
    refine v_aload_n C (oL_orbit.at 0 rfl) rfl ?_
    refine v_iconst C (oL_orbit.at 1 rfl) (v := nI 0) rfl ?_
    refine v_aload_n C (oL_orbit.at 2 rfl) rfl ?_
    refine v_iload_n C (oL_orbit.at 3 rfl) rfl ?_
    refine v_iload_n C (oL_orbit.at 4 rfl) rfl ?_
    refine v_callV C (oL_orbit.at 5 rfl) cL_65 h0 c8 rfl hd8 rfl ⟨rfl, rfl⟩ rfl rfl (fun _ => rfl) (fun h1 hp => ?_)
    dsimp only [Option.toList, List.cons_append, List.nil_append]
    obtain ⟨hf, hR1⟩ := hR h1 hp
    refine v_i2l C (oL_orbit.at 6 rfl) ?_
    refine v_last C (oL_orbit.at 7 rfl) hf (by decide) rfl (j := 0) (by decide) ?_
    refine v_goto C (oL_orbit.at 8 rfl) (tgt := 21) (by decide) ?_
    refine v_iconst C (oL_orbit.at 15 rfl) (v := nI 0) rfl ?_
    exact v_iret C (oL_orbit.at 16 rfl) rfl rfl ⟨Nat.le_refl _, Nat.le_refl _⟩ ⟨rfl, hR1⟩
  · have hE : (E, r) = (EIOO, 1) ∨ (E, r) = (EISE, 2) := by simpa [rwL_orbit] using hE
    rcases hE with hE | hE <;> cases hE
    · refine conH (by decide +kernel) ⟨fun _ => rfl, rfl, by simp⟩ (fun X C => ?_)
      change V X (0, 0) w h 0 [some (.ref 0), some (.int x0), some (.int x1), some (.ref 88), none] []
      refine v_aload_n C (oL_orbit.at 0 rfl) rfl ?_
      refine v_iconst C (oL_orbit.at 1 rfl) (v := nI 0) rfl ?_
      refine v_aload_n C (oL_orbit.at 2 rfl) rfl ?_
      refine v_iload_n C (oL_orbit.at 3 rfl) rfl ?_
      refine v_iload_n C (oL_orbit.at 4 rfl) rfl ?_
      refine v_callV0 C (oL_orbit.at 5 rfl) cL_65.1 cL_65.2.1 cL_65.2.2 h0 c8 rfl hd8 rfl ⟨rfl, rfl⟩ rfl rfl (fun _ _ e _ => by cases e) (fun E' h1 e hp => ?_)
      cases e
      exact vt_catch C (i := 4) [] ⟨0, 10, 13, 19⟩ [⟨0, 10, 17, 34⟩] rfl (fun y hy => by cases hy) rfl (by decide) clEIOO caEIOO (.inl ⟨rfl, rfl⟩) (oL_orbit.at 9 rfl) (oL_orbit.at 10 rfl) (oL_orbit.at 11 rfl) rfl rfl rfl ⟨by decide, by decide⟩ ⟨rfl, hR h1 hp⟩
    · refine conH (by decide +kernel) ⟨fun _ => rfl, rfl, by simp⟩ (fun X C => ?_)
      change V X (0, 0) w h 0 [some (.ref 0), some (.int x0), some (.int x1), some (.ref 88), none] []
      refine v_aload_n C (oL_orbit.at 0 rfl) rfl ?_
      refine v_iconst C (oL_orbit.at 1 rfl) (v := nI 0) rfl ?_
      refine v_aload_n C (oL_orbit.at 2 rfl) rfl ?_
      refine v_iload_n C (oL_orbit.at 3 rfl) rfl ?_
      refine v_iload_n C (oL_orbit.at 4 rfl) rfl ?_
      refine v_callV0 C (oL_orbit.at 5 rfl) cL_65.1 cL_65.2.1 cL_65.2.2 h0 c8 rfl hd8 rfl ⟨rfl, rfl⟩ rfl rfl (fun _ _ e _ => by cases e) (fun E' h1 e hp => ?_)
      cases e
      exact vt_catch C (i := 4) [⟨0, 10, 13, 19⟩] ⟨0, 10, 17, 34⟩ [] rfl (fun y hy => by rw [List.mem_singleton.mp hy]; exact ⟨by decide, _, clEIOO, by decide⟩) rfl (by decide) clEISE caEISE (.inl ⟨rfl, rfl⟩) (oL_orbit.at 12 rfl) (oL_orbit.at 13 rfl) (oL_orbit.at 14 rfl) rfl rfl rfl ⟨by decide, by decide⟩ ⟨rfl, hR h1 hp⟩
def mL_preimageCount : Mi := (yL_preimageCount, cL_preimageCount, 5, some .int, 4)
def tL_preimageCount : Ct := [(0, .aload_n 3, 1), (1, .iconst 0, 1), (2, .aload_n 0, 1), (3, .iload_n 1, 1), (4, .iload_n 2, 1), (5, .invokevirtual 68, 3), (8, .i2l, 1), (9, .lastore, 1), (10, .goto 7, 3), (13, .astore 4, 2), (15, .iconst 1, 1), (16, .ireturn, 1), (17, .iconst 0, 1), (18, .ireturn, 1)]
set_option maxRecDepth 20000 in
theorem oL_preimageCount : CtOk mL_preimageCount.2.1 tL_preimageCount := by unfold CtOk; decide +kernel
def hhL_preimageCount : List (Nat × Nat × Nat × Nat) := [(0, 10, 13, 19)]
theorem kL_preimageCount : MKH mL_preimageCount hhL_preimageCount := ⟨tj5 109 (by rfl) rfl, tj1 0 (by rfl) rfl, by decide +kernel, by decide +kernel, by decide +kernel, tj5 108 (by rfl) rfl⟩
theorem cL_68 : MVL mL_preimageCount.1.cls 68 mX8_preimageCount 8 := ⟨kX8_preimageCount, vX8_preimageCount, tj5 110 (by rfl) rfl⟩
def rwL_preimageCount : List (String × Nat) := [(EIOO, 1)]
theorem xL_preimageCount {w : Wt} {h : Hp} {x0 : Int32} {x1 : Int32} {d8 r : Nat} {z' : Nat × Nat} {o' : Oc} {f : Nat → Int64} {fs : List Value} {P' R : Hp → Prop} (hJ : JO rwL_preimageCount o' z' r f P' R) (h0 : h 0 = .inr (8, fs)) (hd8 : Nat.blt d8 8 = true) (c8 : ConN mX8_preimageCount d8 z' w [.ref 0, .int x0, .int x1] h o' P') : ConH mL_preimageCount hhL_preimageCount 8 z' w [.ref 0, .int x0, .int x1, .ref 88] h (.inl (some (.int (nI r)))) (fun w' h' => w' = w ∧ R h') := by
  rcases hJ with ⟨y, rfl, rfl, rfl, hR⟩ | ⟨E, rfl, rfl, hE, hR⟩
  · refine conH (by decide +kernel) ⟨fun _ => rfl, rfl, by simp⟩ (fun X C => ?_)
    change V X (0, 0) w h 0 [some (.ref 0), some (.int x0), some (.int x1), some (.ref 88), none] []
    refine v_aload_n C (oL_preimageCount.at 0 rfl) rfl ?_
    refine v_iconst C (oL_preimageCount.at 1 rfl) (v := nI 0) rfl ?_
    refine v_aload_n C (oL_preimageCount.at 2 rfl) rfl ?_
    refine v_iload_n C (oL_preimageCount.at 3 rfl) rfl ?_
    refine v_iload_n C (oL_preimageCount.at 4 rfl) rfl ?_
    refine v_callV C (oL_preimageCount.at 5 rfl) cL_68 h0 c8 rfl hd8 rfl ⟨rfl, rfl⟩ rfl rfl (fun _ => rfl) (fun h1 hp => ?_)
    dsimp only [Option.toList, List.cons_append, List.nil_append]
    obtain ⟨hf, hR1⟩ := hR h1 hp
    refine v_i2l C (oL_preimageCount.at 6 rfl) ?_
    refine v_last C (oL_preimageCount.at 7 rfl) hf (by decide) rfl (j := 0) (by decide) ?_
    refine v_goto C (oL_preimageCount.at 8 rfl) (tgt := 17) (by decide) ?_
    refine v_iconst C (oL_preimageCount.at 12 rfl) (v := nI 0) rfl ?_
    exact v_iret C (oL_preimageCount.at 13 rfl) rfl rfl ⟨Nat.le_refl _, Nat.le_refl _⟩ ⟨rfl, hR1⟩
  · have hE : (E, r) = (EIOO, 1) := by simpa [rwL_preimageCount] using hE
    cases hE
    refine conH (by decide +kernel) ⟨fun _ => rfl, rfl, by simp⟩ (fun X C => ?_)
    change V X (0, 0) w h 0 [some (.ref 0), some (.int x0), some (.int x1), some (.ref 88), none] []
    refine v_aload_n C (oL_preimageCount.at 0 rfl) rfl ?_
    refine v_iconst C (oL_preimageCount.at 1 rfl) (v := nI 0) rfl ?_
    refine v_aload_n C (oL_preimageCount.at 2 rfl) rfl ?_
    refine v_iload_n C (oL_preimageCount.at 3 rfl) rfl ?_
    refine v_iload_n C (oL_preimageCount.at 4 rfl) rfl ?_
    refine v_callV0 C (oL_preimageCount.at 5 rfl) cL_68.1 cL_68.2.1 cL_68.2.2 h0 c8 rfl hd8 rfl ⟨rfl, rfl⟩ rfl rfl (fun _ _ e _ => by cases e) (fun E' h1 e hp => ?_)
    cases e
    exact vt_catch C (i := 4) [] ⟨0, 10, 13, 19⟩ [] rfl (fun y hy => by cases hy) rfl (by decide) clEIOO caEIOO (.inl ⟨rfl, rfl⟩) (oL_preimageCount.at 9 rfl) (oL_preimageCount.at 10 rfl) (oL_preimageCount.at 11 rfl) rfl rfl rfl ⟨by decide, by decide⟩ ⟨rfl, hR h1 hp⟩
def mL_preimage : Mi := (yL_preimage, cL_preimage, 7, some .int, 6)
def tL_preimage : Ct := [(0, .aload 5, 2), (2, .iconst 0, 1), (3, .aload_n 0, 1), (4, .iload_n 1, 1), (5, .iload_n 2, 1), (6, .iload_n 3, 1), (7, .iload 4, 2), (9, .invokevirtual 71, 3), (12, .i2l, 1), (13, .lastore, 1), (14, .goto 15, 3), (17, .astore 6, 2), (19, .iconst 1, 1), (20, .ireturn, 1), (21, .astore 6, 2), (23, .iconst 2, 1), (24, .ireturn, 1), (25, .astore 6, 2), (27, .iconst 3, 1), (28, .ireturn, 1), (29, .iconst 0, 1), (30, .ireturn, 1)]
set_option maxRecDepth 20000 in
theorem oL_preimage : CtOk mL_preimage.2.1 tL_preimage := by unfold CtOk; decide +kernel
def hhL_preimage : List (Nat × Nat × Nat × Nat) := [(0, 14, 17, 19), (0, 14, 21, 34), (0, 14, 25, 75)]
theorem kL_preimage : MKH mL_preimage hhL_preimage := ⟨tj5 157 (by rfl) rfl, tj1 0 (by rfl) rfl, by decide +kernel, by decide +kernel, by decide +kernel, tj5 156 (by rfl) rfl⟩
theorem cL_71 : MVL mL_preimage.1.cls 71 mX8_preimage 8 := ⟨kX8_preimage, vX8_preimage, tj5 159 (by rfl) rfl⟩
def rwL_preimage : List (String × Nat) := [(EIOO, 1), (EISE, 2), (ENSE, 3)]
theorem xL_preimage {w : Wt} {h : Hp} {x0 : Int32} {x1 : Int32} {x2 : Int32} {x3 : Int32} {d8 r : Nat} {z' : Nat × Nat} {o' : Oc} {f : Nat → Int64} {fs : List Value} {P' R : Hp → Prop} (hJ : JO rwL_preimage o' z' r f P' R) (h0 : h 0 = .inr (8, fs)) (hd8 : Nat.blt d8 8 = true) (c8 : ConN mX8_preimage d8 z' w [.ref 0, .int x0, .int x1, .int x2, .int x3] h o' P') : ConH mL_preimage hhL_preimage 8 z' w [.ref 0, .int x0, .int x1, .int x2, .int x3, .ref 88] h (.inl (some (.int (nI r)))) (fun w' h' => w' = w ∧ R h') := by
  rcases hJ with ⟨y, rfl, rfl, rfl, hR⟩ | ⟨E, rfl, rfl, hE, hR⟩
  · refine conH (by decide +kernel) ⟨fun _ => rfl, rfl, by simp⟩ (fun X C => ?_)
    change V X (0, 0) w h 0 [some (.ref 0), some (.int x0), some (.int x1), some (.int x2), some (.int x3), some (.ref 88), none] []
    refine v_aload C (oL_preimage.at 0 rfl) rfl ?_
    refine v_iconst C (oL_preimage.at 1 rfl) (v := nI 0) rfl ?_
    refine v_aload_n C (oL_preimage.at 2 rfl) rfl ?_
    refine v_iload_n C (oL_preimage.at 3 rfl) rfl ?_
    refine v_iload_n C (oL_preimage.at 4 rfl) rfl ?_
    refine v_iload_n C (oL_preimage.at 5 rfl) rfl ?_
    refine v_iload C (oL_preimage.at 6 rfl) rfl ?_
    refine v_callV C (oL_preimage.at 7 rfl) cL_71 h0 c8 rfl hd8 rfl ⟨rfl, rfl⟩ rfl rfl (fun _ => rfl) (fun h1 hp => ?_)
    dsimp only [Option.toList, List.cons_append, List.nil_append]
    obtain ⟨hf, hR1⟩ := hR h1 hp
    refine v_i2l C (oL_preimage.at 8 rfl) ?_
    refine v_last C (oL_preimage.at 9 rfl) hf (by decide) rfl (j := 0) (by decide) ?_
    refine v_goto C (oL_preimage.at 10 rfl) (tgt := 29) (by decide) ?_
    refine v_iconst C (oL_preimage.at 20 rfl) (v := nI 0) rfl ?_
    exact v_iret C (oL_preimage.at 21 rfl) rfl rfl ⟨Nat.le_refl _, Nat.le_refl _⟩ ⟨rfl, hR1⟩
  · have hE : (E, r) = (EIOO, 1) ∨ (E, r) = (EISE, 2) ∨ (E, r) = (ENSE, 3) := by simpa [rwL_preimage] using hE
    rcases hE with hE | hE | hE <;> cases hE
    · refine conH (by decide +kernel) ⟨fun _ => rfl, rfl, by simp⟩ (fun X C => ?_)
      change V X (0, 0) w h 0 [some (.ref 0), some (.int x0), some (.int x1), some (.int x2), some (.int x3), some (.ref 88), none] []
      refine v_aload C (oL_preimage.at 0 rfl) rfl ?_
      refine v_iconst C (oL_preimage.at 1 rfl) (v := nI 0) rfl ?_
      refine v_aload_n C (oL_preimage.at 2 rfl) rfl ?_
      refine v_iload_n C (oL_preimage.at 3 rfl) rfl ?_
      refine v_iload_n C (oL_preimage.at 4 rfl) rfl ?_
      refine v_iload_n C (oL_preimage.at 5 rfl) rfl ?_
      refine v_iload C (oL_preimage.at 6 rfl) rfl ?_
      refine v_callV0 C (oL_preimage.at 7 rfl) cL_71.1 cL_71.2.1 cL_71.2.2 h0 c8 rfl hd8 rfl ⟨rfl, rfl⟩ rfl rfl (fun _ _ e _ => by cases e) (fun E' h1 e hp => ?_)
      cases e
      exact vt_catch C (i := 6) [] ⟨0, 14, 17, 19⟩ [⟨0, 14, 21, 34⟩, ⟨0, 14, 25, 75⟩] rfl (fun y hy => by cases hy) rfl (by decide) clEIOO caEIOO (.inl ⟨rfl, rfl⟩) (oL_preimage.at 11 rfl) (oL_preimage.at 12 rfl) (oL_preimage.at 13 rfl) rfl rfl rfl ⟨by decide, by decide⟩ ⟨rfl, hR h1 hp⟩
    · refine conH (by decide +kernel) ⟨fun _ => rfl, rfl, by simp⟩ (fun X C => ?_)
      change V X (0, 0) w h 0 [some (.ref 0), some (.int x0), some (.int x1), some (.int x2), some (.int x3), some (.ref 88), none] []
      refine v_aload C (oL_preimage.at 0 rfl) rfl ?_
      refine v_iconst C (oL_preimage.at 1 rfl) (v := nI 0) rfl ?_
      refine v_aload_n C (oL_preimage.at 2 rfl) rfl ?_
      refine v_iload_n C (oL_preimage.at 3 rfl) rfl ?_
      refine v_iload_n C (oL_preimage.at 4 rfl) rfl ?_
      refine v_iload_n C (oL_preimage.at 5 rfl) rfl ?_
      refine v_iload C (oL_preimage.at 6 rfl) rfl ?_
      refine v_callV0 C (oL_preimage.at 7 rfl) cL_71.1 cL_71.2.1 cL_71.2.2 h0 c8 rfl hd8 rfl ⟨rfl, rfl⟩ rfl rfl (fun _ _ e _ => by cases e) (fun E' h1 e hp => ?_)
      cases e
      exact vt_catch C (i := 6) [⟨0, 14, 17, 19⟩] ⟨0, 14, 21, 34⟩ [⟨0, 14, 25, 75⟩] rfl (fun y hy => by rw [List.mem_singleton.mp hy]; exact ⟨by decide, _, clEIOO, by decide⟩) rfl (by decide) clEISE caEISE (.inl ⟨rfl, rfl⟩) (oL_preimage.at 14 rfl) (oL_preimage.at 15 rfl) (oL_preimage.at 16 rfl) rfl rfl rfl ⟨by decide, by decide⟩ ⟨rfl, hR h1 hp⟩
    · refine conH (by decide +kernel) ⟨fun _ => rfl, rfl, by simp⟩ (fun X C => ?_)
      change V X (0, 0) w h 0 [some (.ref 0), some (.int x0), some (.int x1), some (.int x2), some (.int x3), some (.ref 88), none] []
      refine v_aload C (oL_preimage.at 0 rfl) rfl ?_
      refine v_iconst C (oL_preimage.at 1 rfl) (v := nI 0) rfl ?_
      refine v_aload_n C (oL_preimage.at 2 rfl) rfl ?_
      refine v_iload_n C (oL_preimage.at 3 rfl) rfl ?_
      refine v_iload_n C (oL_preimage.at 4 rfl) rfl ?_
      refine v_iload_n C (oL_preimage.at 5 rfl) rfl ?_
      refine v_iload C (oL_preimage.at 6 rfl) rfl ?_
      refine v_callV0 C (oL_preimage.at 7 rfl) cL_71.1 cL_71.2.1 cL_71.2.2 h0 c8 rfl hd8 rfl ⟨rfl, rfl⟩ rfl rfl (fun _ _ e _ => by cases e) (fun E' h1 e hp => ?_)
      cases e
      exact vt_catch C (i := 6) [⟨0, 14, 17, 19⟩, ⟨0, 14, 21, 34⟩] ⟨0, 14, 25, 75⟩ [] rfl (fun y hy => by rcases List.mem_cons.mp hy with h1 | h1; (rw [h1]; exact ⟨by decide, _, clEIOO, by decide⟩); (rw [List.mem_singleton.mp h1]; exact ⟨by decide, _, clEISE, by decide⟩)) rfl (by decide) clENSE caENSE (.inl ⟨rfl, rfl⟩) (oL_preimage.at 17 rfl) (oL_preimage.at 18 rfl) (oL_preimage.at 19 rfl) rfl rfl rfl ⟨by decide, by decide⟩ ⟨rfl, hR h1 hp⟩
def mL_preimagesBetween : Mi := (yL_preimagesBetween, cL_preimagesBetween, 6, some .int, 5)
def tL_preimagesBetween : Ct := [(0, .aload 4, 2), (2, .iconst 0, 1), (3, .aload_n 0, 1), (4, .iload_n 1, 1), (5, .iload_n 2, 1), (6, .iload_n 3, 1), (7, .invokevirtual 77, 3), (10, .i2l, 1), (11, .lastore, 1), (12, .goto 7, 3), (15, .astore 5, 2), (17, .iconst 1, 1), (18, .ireturn, 1), (19, .iconst 0, 1), (20, .ireturn, 1)]
set_option maxRecDepth 20000 in
theorem oL_preimagesBetween : CtOk mL_preimagesBetween.2.1 tL_preimagesBetween := by unfold CtOk; decide +kernel
def hhL_preimagesBetween : List (Nat × Nat × Nat × Nat) := [(0, 12, 15, 19)]
theorem kL_preimagesBetween : MKH mL_preimagesBetween hhL_preimagesBetween := ⟨tj5 198 (by rfl) rfl, tj1 0 (by rfl) rfl, by decide +kernel, by decide +kernel, by decide +kernel, tj5 197 (by rfl) rfl⟩
theorem cL_77 : MVL mL_preimagesBetween.1.cls 77 mX8_preimagesBetween 8 := ⟨kX8_preimagesBetween, vX8_preimagesBetween, tj5 199 (by rfl) rfl⟩
def rwL_preimagesBetween : List (String × Nat) := [(EIOO, 1)]
theorem xL_preimagesBetween {w : Wt} {h : Hp} {x0 : Int32} {x1 : Int32} {x2 : Int32} {d8 r : Nat} {z' : Nat × Nat} {o' : Oc} {f : Nat → Int64} {fs : List Value} {P' R : Hp → Prop} (hJ : JO rwL_preimagesBetween o' z' r f P' R) (h0 : h 0 = .inr (8, fs)) (hd8 : Nat.blt d8 8 = true) (c8 : ConN mX8_preimagesBetween d8 z' w [.ref 0, .int x0, .int x1, .int x2] h o' P') : ConH mL_preimagesBetween hhL_preimagesBetween 8 z' w [.ref 0, .int x0, .int x1, .int x2, .ref 88] h (.inl (some (.int (nI r)))) (fun w' h' => w' = w ∧ R h') := by
  rcases hJ with ⟨y, rfl, rfl, rfl, hR⟩ | ⟨E, rfl, rfl, hE, hR⟩
  · refine conH (by decide +kernel) ⟨fun _ => rfl, rfl, by simp⟩ (fun X C => ?_)
    change V X (0, 0) w h 0 [some (.ref 0), some (.int x0), some (.int x1), some (.int x2), some (.ref 88), none] []
    refine v_aload C (oL_preimagesBetween.at 0 rfl) rfl ?_
    refine v_iconst C (oL_preimagesBetween.at 1 rfl) (v := nI 0) rfl ?_
    refine v_aload_n C (oL_preimagesBetween.at 2 rfl) rfl ?_
    refine v_iload_n C (oL_preimagesBetween.at 3 rfl) rfl ?_
    refine v_iload_n C (oL_preimagesBetween.at 4 rfl) rfl ?_
    refine v_iload_n C (oL_preimagesBetween.at 5 rfl) rfl ?_
    refine v_callV C (oL_preimagesBetween.at 6 rfl) cL_77 h0 c8 rfl hd8 rfl ⟨rfl, rfl⟩ rfl rfl (fun _ => rfl) (fun h1 hp => ?_)
    dsimp only [Option.toList, List.cons_append, List.nil_append]
    obtain ⟨hf, hR1⟩ := hR h1 hp
    refine v_i2l C (oL_preimagesBetween.at 7 rfl) ?_
    refine v_last C (oL_preimagesBetween.at 8 rfl) hf (by decide) rfl (j := 0) (by decide) ?_
    refine v_goto C (oL_preimagesBetween.at 9 rfl) (tgt := 19) (by decide) ?_
    refine v_iconst C (oL_preimagesBetween.at 13 rfl) (v := nI 0) rfl ?_
    exact v_iret C (oL_preimagesBetween.at 14 rfl) rfl rfl ⟨Nat.le_refl _, Nat.le_refl _⟩ ⟨rfl, hR1⟩
  · have hE : (E, r) = (EIOO, 1) := by simpa [rwL_preimagesBetween] using hE
    cases hE
    refine conH (by decide +kernel) ⟨fun _ => rfl, rfl, by simp⟩ (fun X C => ?_)
    change V X (0, 0) w h 0 [some (.ref 0), some (.int x0), some (.int x1), some (.int x2), some (.ref 88), none] []
    refine v_aload C (oL_preimagesBetween.at 0 rfl) rfl ?_
    refine v_iconst C (oL_preimagesBetween.at 1 rfl) (v := nI 0) rfl ?_
    refine v_aload_n C (oL_preimagesBetween.at 2 rfl) rfl ?_
    refine v_iload_n C (oL_preimagesBetween.at 3 rfl) rfl ?_
    refine v_iload_n C (oL_preimagesBetween.at 4 rfl) rfl ?_
    refine v_iload_n C (oL_preimagesBetween.at 5 rfl) rfl ?_
    refine v_callV0 C (oL_preimagesBetween.at 6 rfl) cL_77.1 cL_77.2.1 cL_77.2.2 h0 c8 rfl hd8 rfl ⟨rfl, rfl⟩ rfl rfl (fun _ _ e _ => by cases e) (fun E' h1 e hp => ?_)
    cases e
    exact vt_catch C (i := 5) [] ⟨0, 12, 15, 19⟩ [] rfl (fun y hy => by cases hy) rfl (by decide) clEIOO caEIOO (.inl ⟨rfl, rfl⟩) (oL_preimagesBetween.at 10 rfl) (oL_preimagesBetween.at 11 rfl) (oL_preimagesBetween.at 12 rfl) rfl rfl rfl ⟨by decide, by decide⟩ ⟨rfl, hR h1 hp⟩
def mL_wordsWith : Mi := (yL_wordsWith, cL_wordsWith, 5, some .int, 4)
def tL_wordsWith : Ct := [(0, .aload_n 3, 1), (1, .iconst 0, 1), (2, .aload_n 0, 1), (3, .iload_n 1, 1), (4, .iload_n 2, 1), (5, .invokevirtual 80, 3), (8, .i2l, 1), (9, .lastore, 1), (10, .goto 7, 3), (13, .astore 4, 2), (15, .iconst 1, 1), (16, .ireturn, 1), (17, .iconst 0, 1), (18, .ireturn, 1)]
set_option maxRecDepth 20000 in
theorem oL_wordsWith : CtOk mL_wordsWith.2.1 tL_wordsWith := by unfold CtOk; decide +kernel
def hhL_wordsWith : List (Nat × Nat × Nat × Nat) := [(0, 10, 13, 13)]
theorem kL_wordsWith : MKH mL_wordsWith hhL_wordsWith := ⟨tj5 211 (by rfl) rfl, tj1 0 (by rfl) rfl, by decide +kernel, by decide +kernel, by decide +kernel, tj5 210 (by rfl) rfl⟩
theorem cL_80 : MVL mL_wordsWith.1.cls 80 mX8_wordsWith 8 := ⟨kX8_wordsWith, vX8_wordsWith, tj5 212 (by rfl) rfl⟩
def rwL_wordsWith : List (String × Nat) := [(EIAE, 1)]
theorem xL_wordsWith {w : Wt} {h : Hp} {x0 : Int32} {x1 : Int32} {d8 r : Nat} {z' : Nat × Nat} {o' : Oc} {f : Nat → Int64} {fs : List Value} {P' R : Hp → Prop} (hJ : JO rwL_wordsWith o' z' r f P' R) (h0 : h 0 = .inr (8, fs)) (hd8 : Nat.blt d8 8 = true) (c8 : ConN mX8_wordsWith d8 z' w [.ref 0, .int x0, .int x1] h o' P') : ConH mL_wordsWith hhL_wordsWith 8 z' w [.ref 0, .int x0, .int x1, .ref 88] h (.inl (some (.int (nI r)))) (fun w' h' => w' = w ∧ R h') := by
  rcases hJ with ⟨y, rfl, rfl, rfl, hR⟩ | ⟨E, rfl, rfl, hE, hR⟩
  · refine conH (by decide +kernel) ⟨fun _ => rfl, rfl, by simp⟩ (fun X C => ?_)
    change V X (0, 0) w h 0 [some (.ref 0), some (.int x0), some (.int x1), some (.ref 88), none] []
    refine v_aload_n C (oL_wordsWith.at 0 rfl) rfl ?_
    refine v_iconst C (oL_wordsWith.at 1 rfl) (v := nI 0) rfl ?_
    refine v_aload_n C (oL_wordsWith.at 2 rfl) rfl ?_
    refine v_iload_n C (oL_wordsWith.at 3 rfl) rfl ?_
    refine v_iload_n C (oL_wordsWith.at 4 rfl) rfl ?_
    refine v_callV C (oL_wordsWith.at 5 rfl) cL_80 h0 c8 rfl hd8 rfl ⟨rfl, rfl⟩ rfl rfl (fun _ => rfl) (fun h1 hp => ?_)
    dsimp only [Option.toList, List.cons_append, List.nil_append]
    obtain ⟨hf, hR1⟩ := hR h1 hp
    refine v_i2l C (oL_wordsWith.at 6 rfl) ?_
    refine v_last C (oL_wordsWith.at 7 rfl) hf (by decide) rfl (j := 0) (by decide) ?_
    refine v_goto C (oL_wordsWith.at 8 rfl) (tgt := 17) (by decide) ?_
    refine v_iconst C (oL_wordsWith.at 12 rfl) (v := nI 0) rfl ?_
    exact v_iret C (oL_wordsWith.at 13 rfl) rfl rfl ⟨Nat.le_refl _, Nat.le_refl _⟩ ⟨rfl, hR1⟩
  · have hE : (E, r) = (EIAE, 1) := by simpa [rwL_wordsWith] using hE
    cases hE
    refine conH (by decide +kernel) ⟨fun _ => rfl, rfl, by simp⟩ (fun X C => ?_)
    change V X (0, 0) w h 0 [some (.ref 0), some (.int x0), some (.int x1), some (.ref 88), none] []
    refine v_aload_n C (oL_wordsWith.at 0 rfl) rfl ?_
    refine v_iconst C (oL_wordsWith.at 1 rfl) (v := nI 0) rfl ?_
    refine v_aload_n C (oL_wordsWith.at 2 rfl) rfl ?_
    refine v_iload_n C (oL_wordsWith.at 3 rfl) rfl ?_
    refine v_iload_n C (oL_wordsWith.at 4 rfl) rfl ?_
    refine v_callV0 C (oL_wordsWith.at 5 rfl) cL_80.1 cL_80.2.1 cL_80.2.2 h0 c8 rfl hd8 rfl ⟨rfl, rfl⟩ rfl rfl (fun _ _ e _ => by cases e) (fun E' h1 e hp => ?_)
    cases e
    exact vt_catch C (i := 4) [] ⟨0, 10, 13, 13⟩ [] rfl (fun y hy => by cases hy) rfl (by decide) clEIAE caEIAE (.inl ⟨rfl, rfl⟩) (oL_wordsWith.at 9 rfl) (oL_wordsWith.at 10 rfl) (oL_wordsWith.at 11 rfl) rfl rfl rfl ⟨by decide, by decide⟩ ⟨rfl, hR h1 hp⟩
def mL_mostPreimages : Mi := (yL_mostPreimages, cL_mostPreimages, 4, some .int, 3)
def tL_mostPreimages : Ct := [(0, .aload_n 2, 1), (1, .iconst 0, 1), (2, .aload_n 0, 1), (3, .iload_n 1, 1), (4, .invokevirtual 83, 3), (7, .i2l, 1), (8, .lastore, 1), (9, .goto 6, 3), (12, .astore_n 3, 1), (13, .iconst 1, 1), (14, .ireturn, 1), (15, .iconst 0, 1), (16, .ireturn, 1)]
set_option maxRecDepth 20000 in
theorem oL_mostPreimages : CtOk mL_mostPreimages.2.1 tL_mostPreimages := by unfold CtOk; decide +kernel
def hhL_mostPreimages : List (Nat × Nat × Nat × Nat) := [(0, 9, 12, 13)]
theorem kL_mostPreimages : MKH mL_mostPreimages hhL_mostPreimages := ⟨tj5 235 (by rfl) rfl, tj1 0 (by rfl) rfl, by decide +kernel, by decide +kernel, by decide +kernel, tj5 234 (by rfl) rfl⟩
theorem cL_83 : MVL mL_mostPreimages.1.cls 83 mX8_mostPreimages 8 := ⟨kX8_mostPreimages, vX8_mostPreimages, tj5 236 (by rfl) rfl⟩
def rwL_mostPreimages : List (String × Nat) := [(EIAE, 1)]
theorem xL_mostPreimages {w : Wt} {h : Hp} {x0 : Int32} {d8 r : Nat} {z' : Nat × Nat} {o' : Oc} {f : Nat → Int64} {fs : List Value} {P' R : Hp → Prop} (hJ : JO rwL_mostPreimages o' z' r f P' R) (h0 : h 0 = .inr (8, fs)) (hd8 : Nat.blt d8 8 = true) (c8 : ConN mX8_mostPreimages d8 z' w [.ref 0, .int x0] h o' P') : ConH mL_mostPreimages hhL_mostPreimages 8 z' w [.ref 0, .int x0, .ref 88] h (.inl (some (.int (nI r)))) (fun w' h' => w' = w ∧ R h') := by
  rcases hJ with ⟨y, rfl, rfl, rfl, hR⟩ | ⟨E, rfl, rfl, hE, hR⟩
  · refine conH (by decide +kernel) ⟨fun _ => rfl, rfl, by simp⟩ (fun X C => ?_)
    change V X (0, 0) w h 0 [some (.ref 0), some (.int x0), some (.ref 88), none] []
    refine v_aload_n C (oL_mostPreimages.at 0 rfl) rfl ?_
    refine v_iconst C (oL_mostPreimages.at 1 rfl) (v := nI 0) rfl ?_
    refine v_aload_n C (oL_mostPreimages.at 2 rfl) rfl ?_
    refine v_iload_n C (oL_mostPreimages.at 3 rfl) rfl ?_
    refine v_callV C (oL_mostPreimages.at 4 rfl) cL_83 h0 c8 rfl hd8 rfl ⟨rfl, rfl⟩ rfl rfl (fun _ => rfl) (fun h1 hp => ?_)
    dsimp only [Option.toList, List.cons_append, List.nil_append]
    obtain ⟨hf, hR1⟩ := hR h1 hp
    refine v_i2l C (oL_mostPreimages.at 5 rfl) ?_
    refine v_last C (oL_mostPreimages.at 6 rfl) hf (by decide) rfl (j := 0) (by decide) ?_
    refine v_goto C (oL_mostPreimages.at 7 rfl) (tgt := 15) (by decide) ?_
    refine v_iconst C (oL_mostPreimages.at 11 rfl) (v := nI 0) rfl ?_
    exact v_iret C (oL_mostPreimages.at 12 rfl) rfl rfl ⟨Nat.le_refl _, Nat.le_refl _⟩ ⟨rfl, hR1⟩
  · have hE : (E, r) = (EIAE, 1) := by simpa [rwL_mostPreimages] using hE
    cases hE
    refine conH (by decide +kernel) ⟨fun _ => rfl, rfl, by simp⟩ (fun X C => ?_)
    change V X (0, 0) w h 0 [some (.ref 0), some (.int x0), some (.ref 88), none] []
    refine v_aload_n C (oL_mostPreimages.at 0 rfl) rfl ?_
    refine v_iconst C (oL_mostPreimages.at 1 rfl) (v := nI 0) rfl ?_
    refine v_aload_n C (oL_mostPreimages.at 2 rfl) rfl ?_
    refine v_iload_n C (oL_mostPreimages.at 3 rfl) rfl ?_
    refine v_callV0 C (oL_mostPreimages.at 4 rfl) cL_83.1 cL_83.2.1 cL_83.2.2 h0 c8 rfl hd8 rfl ⟨rfl, rfl⟩ rfl rfl (fun _ _ e _ => by cases e) (fun E' h1 e hp => ?_)
    cases e
    exact vt_catch C (i := 3) [] ⟨0, 9, 12, 13⟩ [] rfl (fun y hy => by cases hy) rfl (by decide) clEIAE caEIAE (.inr ⟨_, rfl, rfl, rfl⟩) (oL_mostPreimages.at 8 rfl) (oL_mostPreimages.at 9 rfl) (oL_mostPreimages.at 10 rfl) rfl rfl rfl ⟨by decide, by decide⟩ ⟨rfl, hR h1 hp⟩
def mL_fixedWords : Mi := (yL_fixedWords, cL_fixedWords, 4, some .int, 3)
def tL_fixedWords : Ct := [(0, .aload_n 2, 1), (1, .iconst 0, 1), (2, .aload_n 0, 1), (3, .iload_n 1, 1), (4, .invokevirtual 86, 3), (7, .i2l, 1), (8, .lastore, 1), (9, .goto 6, 3), (12, .astore_n 3, 1), (13, .iconst 1, 1), (14, .ireturn, 1), (15, .iconst 0, 1), (16, .ireturn, 1)]
set_option maxRecDepth 20000 in
theorem oL_fixedWords : CtOk mL_fixedWords.2.1 tL_fixedWords := by unfold CtOk; decide +kernel
def hhL_fixedWords : List (Nat × Nat × Nat × Nat) := [(0, 9, 12, 13)]
theorem kL_fixedWords : MKH mL_fixedWords hhL_fixedWords := ⟨tj6 2 (by rfl) rfl, tj1 0 (by rfl) rfl, by decide +kernel, by decide +kernel, by decide +kernel, tj6 1 (by rfl) rfl⟩
theorem cL_86 : MVL mL_fixedWords.1.cls 86 mX8_fixedWords 8 := ⟨kX8_fixedWords, vX8_fixedWords, tj6 3 (by rfl) rfl⟩
def rwL_fixedWords : List (String × Nat) := [(EIAE, 1)]
theorem xL_fixedWords {w : Wt} {h : Hp} {x0 : Int32} {d8 r : Nat} {z' : Nat × Nat} {o' : Oc} {f : Nat → Int64} {fs : List Value} {P' R : Hp → Prop} (hJ : JO rwL_fixedWords o' z' r f P' R) (h0 : h 0 = .inr (8, fs)) (hd8 : Nat.blt d8 8 = true) (c8 : ConN mX8_fixedWords d8 z' w [.ref 0, .int x0] h o' P') : ConH mL_fixedWords hhL_fixedWords 8 z' w [.ref 0, .int x0, .ref 88] h (.inl (some (.int (nI r)))) (fun w' h' => w' = w ∧ R h') := by
  rcases hJ with ⟨y, rfl, rfl, rfl, hR⟩ | ⟨E, rfl, rfl, hE, hR⟩
  · refine conH (by decide +kernel) ⟨fun _ => rfl, rfl, by simp⟩ (fun X C => ?_)
    change V X (0, 0) w h 0 [some (.ref 0), some (.int x0), some (.ref 88), none] []
    refine v_aload_n C (oL_fixedWords.at 0 rfl) rfl ?_
    refine v_iconst C (oL_fixedWords.at 1 rfl) (v := nI 0) rfl ?_
    refine v_aload_n C (oL_fixedWords.at 2 rfl) rfl ?_
    refine v_iload_n C (oL_fixedWords.at 3 rfl) rfl ?_
    refine v_callV C (oL_fixedWords.at 4 rfl) cL_86 h0 c8 rfl hd8 rfl ⟨rfl, rfl⟩ rfl rfl (fun _ => rfl) (fun h1 hp => ?_)
    dsimp only [Option.toList, List.cons_append, List.nil_append]
    obtain ⟨hf, hR1⟩ := hR h1 hp
    refine v_i2l C (oL_fixedWords.at 5 rfl) ?_
    refine v_last C (oL_fixedWords.at 6 rfl) hf (by decide) rfl (j := 0) (by decide) ?_
    refine v_goto C (oL_fixedWords.at 7 rfl) (tgt := 15) (by decide) ?_
    refine v_iconst C (oL_fixedWords.at 11 rfl) (v := nI 0) rfl ?_
    exact v_iret C (oL_fixedWords.at 12 rfl) rfl rfl ⟨Nat.le_refl _, Nat.le_refl _⟩ ⟨rfl, hR1⟩
  · have hE : (E, r) = (EIAE, 1) := by simpa [rwL_fixedWords] using hE
    cases hE
    refine conH (by decide +kernel) ⟨fun _ => rfl, rfl, by simp⟩ (fun X C => ?_)
    change V X (0, 0) w h 0 [some (.ref 0), some (.int x0), some (.ref 88), none] []
    refine v_aload_n C (oL_fixedWords.at 0 rfl) rfl ?_
    refine v_iconst C (oL_fixedWords.at 1 rfl) (v := nI 0) rfl ?_
    refine v_aload_n C (oL_fixedWords.at 2 rfl) rfl ?_
    refine v_iload_n C (oL_fixedWords.at 3 rfl) rfl ?_
    refine v_callV0 C (oL_fixedWords.at 4 rfl) cL_86.1 cL_86.2.1 cL_86.2.2 h0 c8 rfl hd8 rfl ⟨rfl, rfl⟩ rfl rfl (fun _ _ e _ => by cases e) (fun E' h1 e hp => ?_)
    cases e
    exact vt_catch C (i := 3) [] ⟨0, 9, 12, 13⟩ [] rfl (fun y hy => by cases hy) rfl (by decide) clEIAE caEIAE (.inr ⟨_, rfl, rfl, rfl⟩) (oL_fixedWords.at 8 rfl) (oL_fixedWords.at 9 rfl) (oL_fixedWords.at 10 rfl) rfl rfl rfl ⟨by decide, by decide⟩ ⟨rfl, hR h1 hp⟩
def mL_edge : Mi := (yL_edge, cL_edge, 6, some .int, 5)
def tL_edge : Ct := [(0, .aload 4, 2), (2, .iconst 0, 1), (3, .aload_n 0, 1), (4, .iload_n 1, 1), (5, .iload_n 2, 1), (6, .iload_n 3, 1), (7, .invokevirtual 89, 3), (10, .i2l, 1), (11, .lastore, 1), (12, .goto 7, 3), (15, .astore 5, 2), (17, .iconst 1, 1), (18, .ireturn, 1), (19, .iconst 0, 1), (20, .ireturn, 1)]
set_option maxRecDepth 20000 in
theorem oL_edge : CtOk mL_edge.2.1 tL_edge := by unfold CtOk; decide +kernel
def hhL_edge : List (Nat × Nat × Nat × Nat) := [(0, 12, 15, 19)]
theorem kL_edge : MKH mL_edge hhL_edge := ⟨tj6 16 (by rfl) rfl, tj1 0 (by rfl) rfl, by decide +kernel, by decide +kernel, by decide +kernel, tj6 15 (by rfl) rfl⟩
theorem cL_89 : MVL mL_edge.1.cls 89 mX8_edge 8 := ⟨kX8_edge, vX8_edge, tj6 17 (by rfl) rfl⟩
def rwL_edge : List (String × Nat) := [(EIOO, 1)]
theorem xL_edge {w : Wt} {h : Hp} {x0 : Int32} {x1 : Int32} {x2 : Int32} {d8 r : Nat} {z' : Nat × Nat} {o' : Oc} {f : Nat → Int64} {fs : List Value} {P' R : Hp → Prop} (hJ : JO rwL_edge o' z' r f P' R) (h0 : h 0 = .inr (8, fs)) (hd8 : Nat.blt d8 8 = true) (c8 : ConN mX8_edge d8 z' w [.ref 0, .int x0, .int x1, .int x2] h o' P') : ConH mL_edge hhL_edge 8 z' w [.ref 0, .int x0, .int x1, .int x2, .ref 88] h (.inl (some (.int (nI r)))) (fun w' h' => w' = w ∧ R h') := by
  rcases hJ with ⟨y, rfl, rfl, rfl, hR⟩ | ⟨E, rfl, rfl, hE, hR⟩
  · refine conH (by decide +kernel) ⟨fun _ => rfl, rfl, by simp⟩ (fun X C => ?_)
    change V X (0, 0) w h 0 [some (.ref 0), some (.int x0), some (.int x1), some (.int x2), some (.ref 88), none] []
    refine v_aload C (oL_edge.at 0 rfl) rfl ?_
    refine v_iconst C (oL_edge.at 1 rfl) (v := nI 0) rfl ?_
    refine v_aload_n C (oL_edge.at 2 rfl) rfl ?_
    refine v_iload_n C (oL_edge.at 3 rfl) rfl ?_
    refine v_iload_n C (oL_edge.at 4 rfl) rfl ?_
    refine v_iload_n C (oL_edge.at 5 rfl) rfl ?_
    refine v_callV C (oL_edge.at 6 rfl) cL_89 h0 c8 rfl hd8 rfl ⟨rfl, rfl⟩ rfl rfl (fun _ => rfl) (fun h1 hp => ?_)
    dsimp only [Option.toList, List.cons_append, List.nil_append]
    obtain ⟨hf, hR1⟩ := hR h1 hp
    refine v_i2l C (oL_edge.at 7 rfl) ?_
    refine v_last C (oL_edge.at 8 rfl) hf (by decide) rfl (j := 0) (by decide) ?_
    refine v_goto C (oL_edge.at 9 rfl) (tgt := 19) (by decide) ?_
    refine v_iconst C (oL_edge.at 13 rfl) (v := nI 0) rfl ?_
    exact v_iret C (oL_edge.at 14 rfl) rfl rfl ⟨Nat.le_refl _, Nat.le_refl _⟩ ⟨rfl, hR1⟩
  · have hE : (E, r) = (EIOO, 1) := by simpa [rwL_edge] using hE
    cases hE
    refine conH (by decide +kernel) ⟨fun _ => rfl, rfl, by simp⟩ (fun X C => ?_)
    change V X (0, 0) w h 0 [some (.ref 0), some (.int x0), some (.int x1), some (.int x2), some (.ref 88), none] []
    refine v_aload C (oL_edge.at 0 rfl) rfl ?_
    refine v_iconst C (oL_edge.at 1 rfl) (v := nI 0) rfl ?_
    refine v_aload_n C (oL_edge.at 2 rfl) rfl ?_
    refine v_iload_n C (oL_edge.at 3 rfl) rfl ?_
    refine v_iload_n C (oL_edge.at 4 rfl) rfl ?_
    refine v_iload_n C (oL_edge.at 5 rfl) rfl ?_
    refine v_callV0 C (oL_edge.at 6 rfl) cL_89.1 cL_89.2.1 cL_89.2.2 h0 c8 rfl hd8 rfl ⟨rfl, rfl⟩ rfl rfl (fun _ _ e _ => by cases e) (fun E' h1 e hp => ?_)
    cases e
    exact vt_catch C (i := 5) [] ⟨0, 12, 15, 19⟩ [] rfl (fun y hy => by cases hy) rfl (by decide) clEIOO caEIOO (.inl ⟨rfl, rfl⟩) (oL_edge.at 10 rfl) (oL_edge.at 11 rfl) (oL_edge.at 12 rfl) rfl rfl rfl ⟨by decide, by decide⟩ ⟨rfl, hR h1 hp⟩
def mL_orphans : Mi := (yL_orphans, cL_orphans, 4, some .int, 3)
def tL_orphans : Ct := [(0, .aload_n 2, 1), (1, .iconst 0, 1), (2, .aload_n 0, 1), (3, .iload_n 1, 1), (4, .invokevirtual 92, 3), (7, .i2l, 1), (8, .lastore, 1), (9, .goto 6, 3), (12, .astore_n 3, 1), (13, .iconst 1, 1), (14, .ireturn, 1), (15, .iconst 0, 1), (16, .ireturn, 1)]
set_option maxRecDepth 20000 in
theorem oL_orphans : CtOk mL_orphans.2.1 tL_orphans := by unfold CtOk; decide +kernel
def hhL_orphans : List (Nat × Nat × Nat × Nat) := [(0, 9, 12, 13)]
theorem kL_orphans : MKH mL_orphans hhL_orphans := ⟨tj6 24 (by rfl) rfl, tj1 0 (by rfl) rfl, by decide +kernel, by decide +kernel, by decide +kernel, tj6 23 (by rfl) rfl⟩
theorem cL_92 : MVL mL_orphans.1.cls 92 mX8_orphans 8 := ⟨kX8_orphans, vX8_orphans, tj6 25 (by rfl) rfl⟩
def rwL_orphans : List (String × Nat) := [(EIAE, 1)]
theorem xL_orphans {w : Wt} {h : Hp} {x0 : Int32} {d8 r : Nat} {z' : Nat × Nat} {o' : Oc} {f : Nat → Int64} {fs : List Value} {P' R : Hp → Prop} (hJ : JO rwL_orphans o' z' r f P' R) (h0 : h 0 = .inr (8, fs)) (hd8 : Nat.blt d8 8 = true) (c8 : ConN mX8_orphans d8 z' w [.ref 0, .int x0] h o' P') : ConH mL_orphans hhL_orphans 8 z' w [.ref 0, .int x0, .ref 88] h (.inl (some (.int (nI r)))) (fun w' h' => w' = w ∧ R h') := by
  rcases hJ with ⟨y, rfl, rfl, rfl, hR⟩ | ⟨E, rfl, rfl, hE, hR⟩
  · refine conH (by decide +kernel) ⟨fun _ => rfl, rfl, by simp⟩ (fun X C => ?_)
    change V X (0, 0) w h 0 [some (.ref 0), some (.int x0), some (.ref 88), none] []
    refine v_aload_n C (oL_orphans.at 0 rfl) rfl ?_
    refine v_iconst C (oL_orphans.at 1 rfl) (v := nI 0) rfl ?_
    refine v_aload_n C (oL_orphans.at 2 rfl) rfl ?_
    refine v_iload_n C (oL_orphans.at 3 rfl) rfl ?_
    refine v_callV C (oL_orphans.at 4 rfl) cL_92 h0 c8 rfl hd8 rfl ⟨rfl, rfl⟩ rfl rfl (fun _ => rfl) (fun h1 hp => ?_)
    dsimp only [Option.toList, List.cons_append, List.nil_append]
    obtain ⟨hf, hR1⟩ := hR h1 hp
    refine v_i2l C (oL_orphans.at 5 rfl) ?_
    refine v_last C (oL_orphans.at 6 rfl) hf (by decide) rfl (j := 0) (by decide) ?_
    refine v_goto C (oL_orphans.at 7 rfl) (tgt := 15) (by decide) ?_
    refine v_iconst C (oL_orphans.at 11 rfl) (v := nI 0) rfl ?_
    exact v_iret C (oL_orphans.at 12 rfl) rfl rfl ⟨Nat.le_refl _, Nat.le_refl _⟩ ⟨rfl, hR1⟩
  · have hE : (E, r) = (EIAE, 1) := by simpa [rwL_orphans] using hE
    cases hE
    refine conH (by decide +kernel) ⟨fun _ => rfl, rfl, by simp⟩ (fun X C => ?_)
    change V X (0, 0) w h 0 [some (.ref 0), some (.int x0), some (.ref 88), none] []
    refine v_aload_n C (oL_orphans.at 0 rfl) rfl ?_
    refine v_iconst C (oL_orphans.at 1 rfl) (v := nI 0) rfl ?_
    refine v_aload_n C (oL_orphans.at 2 rfl) rfl ?_
    refine v_iload_n C (oL_orphans.at 3 rfl) rfl ?_
    refine v_callV0 C (oL_orphans.at 4 rfl) cL_92.1 cL_92.2.1 cL_92.2.2 h0 c8 rfl hd8 rfl ⟨rfl, rfl⟩ rfl rfl (fun _ _ e _ => by cases e) (fun E' h1 e hp => ?_)
    cases e
    exact vt_catch C (i := 3) [] ⟨0, 9, 12, 13⟩ [] rfl (fun y hy => by cases hy) rfl (by decide) clEIAE caEIAE (.inr ⟨_, rfl, rfl, rfl⟩) (oL_orphans.at 8 rfl) (oL_orphans.at 9 rfl) (oL_orphans.at 10 rfl) rfl rfl rfl ⟨by decide, by decide⟩ ⟨rfl, hR h1 hp⟩
def mL_shortestOrphan : Mi := (yL_shortestOrphan, cL_shortestOrphan, 4, some .int, 3)
def tL_shortestOrphan : Ct := [(0, .aload_n 2, 1), (1, .iconst 0, 1), (2, .aload_n 0, 1), (3, .iload_n 1, 1), (4, .invokevirtual 95, 3), (7, .i2l, 1), (8, .lastore, 1), (9, .goto 12, 3), (12, .astore_n 3, 1), (13, .iconst 1, 1), (14, .ireturn, 1), (15, .astore_n 3, 1), (16, .iconst 2, 1), (17, .ireturn, 1), (18, .astore_n 3, 1), (19, .iconst 3, 1), (20, .ireturn, 1), (21, .iconst 0, 1), (22, .ireturn, 1)]
set_option maxRecDepth 20000 in
theorem oL_shortestOrphan : CtOk mL_shortestOrphan.2.1 tL_shortestOrphan := by unfold CtOk; decide +kernel
def hhL_shortestOrphan : List (Nat × Nat × Nat × Nat) := [(0, 9, 12, 19), (0, 9, 15, 75), (0, 9, 18, 34)]
theorem kL_shortestOrphan : MKH mL_shortestOrphan hhL_shortestOrphan := ⟨tj6 45 (by rfl) rfl, tj1 0 (by rfl) rfl, by decide +kernel, by decide +kernel, by decide +kernel, tj6 44 (by rfl) rfl⟩
theorem cL_95 : MVL mL_shortestOrphan.1.cls 95 mX8_shortestOrphan 8 := ⟨kX8_shortestOrphan, vX8_shortestOrphan, tj6 46 (by rfl) rfl⟩
def rwL_shortestOrphan : List (String × Nat) := [(EIOO, 1), (ENSE, 2), (EISE, 3)]
theorem xL_shortestOrphan {w : Wt} {h : Hp} {x0 : Int32} {d8 r : Nat} {z' : Nat × Nat} {o' : Oc} {f : Nat → Int64} {fs : List Value} {P' R : Hp → Prop} (hJ : JO rwL_shortestOrphan o' z' r f P' R) (h0 : h 0 = .inr (8, fs)) (hd8 : Nat.blt d8 8 = true) (c8 : ConN mX8_shortestOrphan d8 z' w [.ref 0, .int x0] h o' P') : ConH mL_shortestOrphan hhL_shortestOrphan 8 z' w [.ref 0, .int x0, .ref 88] h (.inl (some (.int (nI r)))) (fun w' h' => w' = w ∧ R h') := by
  rcases hJ with ⟨y, rfl, rfl, rfl, hR⟩ | ⟨E, rfl, rfl, hE, hR⟩
  · refine conH (by decide +kernel) ⟨fun _ => rfl, rfl, by simp⟩ (fun X C => ?_)
    change V X (0, 0) w h 0 [some (.ref 0), some (.int x0), some (.ref 88), none] []
    refine v_aload_n C (oL_shortestOrphan.at 0 rfl) rfl ?_
    refine v_iconst C (oL_shortestOrphan.at 1 rfl) (v := nI 0) rfl ?_
    refine v_aload_n C (oL_shortestOrphan.at 2 rfl) rfl ?_
    refine v_iload_n C (oL_shortestOrphan.at 3 rfl) rfl ?_
    refine v_callV C (oL_shortestOrphan.at 4 rfl) cL_95 h0 c8 rfl hd8 rfl ⟨rfl, rfl⟩ rfl rfl (fun _ => rfl) (fun h1 hp => ?_)
    dsimp only [Option.toList, List.cons_append, List.nil_append]
    obtain ⟨hf, hR1⟩ := hR h1 hp
    refine v_i2l C (oL_shortestOrphan.at 5 rfl) ?_
    refine v_last C (oL_shortestOrphan.at 6 rfl) hf (by decide) rfl (j := 0) (by decide) ?_
    refine v_goto C (oL_shortestOrphan.at 7 rfl) (tgt := 21) (by decide) ?_
    refine v_iconst C (oL_shortestOrphan.at 17 rfl) (v := nI 0) rfl ?_
    exact v_iret C (oL_shortestOrphan.at 18 rfl) rfl rfl ⟨Nat.le_refl _, Nat.le_refl _⟩ ⟨rfl, hR1⟩
  · have hE : (E, r) = (EIOO, 1) ∨ (E, r) = (ENSE, 2) ∨ (E, r) = (EISE, 3) := by simpa [rwL_shortestOrphan] using hE
    rcases hE with hE | hE | hE <;> cases hE
    · refine conH (by decide +kernel) ⟨fun _ => rfl, rfl, by simp⟩ (fun X C => ?_)
      change V X (0, 0) w h 0 [some (.ref 0), some (.int x0), some (.ref 88), none] []
      refine v_aload_n C (oL_shortestOrphan.at 0 rfl) rfl ?_
      refine v_iconst C (oL_shortestOrphan.at 1 rfl) (v := nI 0) rfl ?_
      refine v_aload_n C (oL_shortestOrphan.at 2 rfl) rfl ?_
      refine v_iload_n C (oL_shortestOrphan.at 3 rfl) rfl ?_
      refine v_callV0 C (oL_shortestOrphan.at 4 rfl) cL_95.1 cL_95.2.1 cL_95.2.2 h0 c8 rfl hd8 rfl ⟨rfl, rfl⟩ rfl rfl (fun _ _ e _ => by cases e) (fun E' h1 e hp => ?_)
      cases e
      exact vt_catch C (i := 3) [] ⟨0, 9, 12, 19⟩ [⟨0, 9, 15, 75⟩, ⟨0, 9, 18, 34⟩] rfl (fun y hy => by cases hy) rfl (by decide) clEIOO caEIOO (.inr ⟨_, rfl, rfl, rfl⟩) (oL_shortestOrphan.at 8 rfl) (oL_shortestOrphan.at 9 rfl) (oL_shortestOrphan.at 10 rfl) rfl rfl rfl ⟨by decide, by decide⟩ ⟨rfl, hR h1 hp⟩
    · refine conH (by decide +kernel) ⟨fun _ => rfl, rfl, by simp⟩ (fun X C => ?_)
      change V X (0, 0) w h 0 [some (.ref 0), some (.int x0), some (.ref 88), none] []
      refine v_aload_n C (oL_shortestOrphan.at 0 rfl) rfl ?_
      refine v_iconst C (oL_shortestOrphan.at 1 rfl) (v := nI 0) rfl ?_
      refine v_aload_n C (oL_shortestOrphan.at 2 rfl) rfl ?_
      refine v_iload_n C (oL_shortestOrphan.at 3 rfl) rfl ?_
      refine v_callV0 C (oL_shortestOrphan.at 4 rfl) cL_95.1 cL_95.2.1 cL_95.2.2 h0 c8 rfl hd8 rfl ⟨rfl, rfl⟩ rfl rfl (fun _ _ e _ => by cases e) (fun E' h1 e hp => ?_)
      cases e
      exact vt_catch C (i := 3) [⟨0, 9, 12, 19⟩] ⟨0, 9, 15, 75⟩ [⟨0, 9, 18, 34⟩] rfl (fun y hy => by rw [List.mem_singleton.mp hy]; exact ⟨by decide, _, clEIOO, by decide⟩) rfl (by decide) clENSE caENSE (.inr ⟨_, rfl, rfl, rfl⟩) (oL_shortestOrphan.at 11 rfl) (oL_shortestOrphan.at 12 rfl) (oL_shortestOrphan.at 13 rfl) rfl rfl rfl ⟨by decide, by decide⟩ ⟨rfl, hR h1 hp⟩
    · refine conH (by decide +kernel) ⟨fun _ => rfl, rfl, by simp⟩ (fun X C => ?_)
      change V X (0, 0) w h 0 [some (.ref 0), some (.int x0), some (.ref 88), none] []
      refine v_aload_n C (oL_shortestOrphan.at 0 rfl) rfl ?_
      refine v_iconst C (oL_shortestOrphan.at 1 rfl) (v := nI 0) rfl ?_
      refine v_aload_n C (oL_shortestOrphan.at 2 rfl) rfl ?_
      refine v_iload_n C (oL_shortestOrphan.at 3 rfl) rfl ?_
      refine v_callV0 C (oL_shortestOrphan.at 4 rfl) cL_95.1 cL_95.2.1 cL_95.2.2 h0 c8 rfl hd8 rfl ⟨rfl, rfl⟩ rfl rfl (fun _ _ e _ => by cases e) (fun E' h1 e hp => ?_)
      cases e
      exact vt_catch C (i := 3) [⟨0, 9, 12, 19⟩, ⟨0, 9, 15, 75⟩] ⟨0, 9, 18, 34⟩ [] rfl (fun y hy => by rcases List.mem_cons.mp hy with h1 | h1; (rw [h1]; exact ⟨by decide, _, clEIOO, by decide⟩); (rw [List.mem_singleton.mp h1]; exact ⟨by decide, _, clENSE, by decide⟩)) rfl (by decide) clEISE caEISE (.inr ⟨_, rfl, rfl, rfl⟩) (oL_shortestOrphan.at 14 rfl) (oL_shortestOrphan.at 15 rfl) (oL_shortestOrphan.at 16 rfl) rfl rfl rfl ⟨by decide, by decide⟩ ⟨rfl, hR h1 hp⟩
def mL_has : Mi := (yL_has, cL_has, 4, some .int, 3)
def tL_has : Ct := [(0, .aload_n 2, 1), (1, .iconst 0, 1), (2, .aload_n 0, 1), (3, .iload_n 1, 1), (4, .invokevirtual 98, 3), (7, .ifCond .eq 7, 3), (10, .lconst 1, 1), (11, .goto 4, 3), (14, .lconst 0, 1), (15, .lastore, 1), (16, .goto 6, 3), (19, .astore_n 3, 1), (20, .iconst 1, 1), (21, .ireturn, 1), (22, .iconst 0, 1), (23, .ireturn, 1)]
set_option maxRecDepth 20000 in
theorem oL_has : CtOk mL_has.2.1 tL_has := by unfold CtOk; decide +kernel
def hhL_has : List (Nat × Nat × Nat × Nat) := [(0, 16, 19, 19)]
theorem kL_has : MKH mL_has hhL_has := ⟨tj6 63 (by rfl) rfl, tj1 0 (by rfl) rfl, by decide +kernel, by decide +kernel, by decide +kernel, tj6 62 (by rfl) rfl⟩
theorem cL_98 : MVL mL_has.1.cls 98 mX8_has 8 := ⟨kX8_has, vX8_has, tj6 64 (by rfl) rfl⟩
def JOB (rows : List (String × Nat)) (o : Oc) (z : Nat × Nat) (r : Nat) (f : Nat → Int64) (P R : Hp → Prop) : Prop := (∃ b : Bool, o = .inl (some (.int (bI b))) ∧ z = (0, 0) ∧ r = 0 ∧ ∀ h1, P h1 → h1 88 = jo 1 f ∧ R (hu h1 88 (jo 1 (vp_updL f 0 (if b then 1 else 0))))) ∨ (∃ E, o = .inr E ∧ z = (1, 6) ∧ (E, r) ∈ rows ∧ ∀ h1, P h1 → R h1)
def rwL_has : List (String × Nat) := [(EIOO, 1)]
theorem xL_has {w : Wt} {h : Hp} {x0 : Int32} {d8 r : Nat} {z' : Nat × Nat} {o' : Oc} {f : Nat → Int64} {fs : List Value} {P' R : Hp → Prop} (hJ : JOB rwL_has o' z' r f P' R) (h0 : h 0 = .inr (8, fs)) (hd8 : Nat.blt d8 8 = true) (c8 : ConN mX8_has d8 z' w [.ref 0, .int x0] h o' P') : ConH mL_has hhL_has 8 z' w [.ref 0, .int x0, .ref 88] h (.inl (some (.int (nI r)))) (fun w' h' => w' = w ∧ R h') := by
  rcases hJ with ⟨b, rfl, rfl, rfl, hR⟩ | ⟨E, rfl, rfl, hE, hR⟩
  · refine conH (by decide +kernel) ⟨fun _ => rfl, rfl, by simp⟩ (fun X C => ?_)
    change V X (0, 0) w h 0 [some (.ref 0), some (.int x0), some (.ref 88), none] []
    refine v_aload_n C (oL_has.at 0 rfl) rfl ?_
    refine v_iconst C (oL_has.at 1 rfl) (v := nI 0) rfl ?_
    refine v_aload_n C (oL_has.at 2 rfl) rfl ?_
    refine v_iload_n C (oL_has.at 3 rfl) rfl ?_
    refine v_callV C (oL_has.at 4 rfl) cL_98 h0 c8 rfl hd8 rfl ⟨rfl, rfl⟩ rfl rfl (fun _ => rfl) (fun h1 hp => ?_)
    dsimp only [Option.toList, List.cons_append, List.nil_append]
    obtain ⟨hf, hR1⟩ := hR h1 hp
    refine v_if_eqB C (oL_has.at 5 rfl) (tgt := 14) (by decide) (fun hb => ?_) (fun hb => ?_)
    · subst hb
      refine v_lconst C (oL_has.at 8 rfl) (v := 0) rfl ?_
      refine v_last C (oL_has.at 9 rfl) hf (by decide) rfl (j := 0) (by decide) ?_
      refine v_goto C (oL_has.at 10 rfl) (tgt := 22) (by decide) ?_
      refine v_iconst C (oL_has.at 14 rfl) (v := nI 0) rfl ?_
      exact v_iret C (oL_has.at 15 rfl) rfl rfl ⟨Nat.le_refl _, Nat.le_refl _⟩ ⟨rfl, hR1⟩
    · subst hb
      refine v_lconst C (oL_has.at 6 rfl) (v := 1) rfl ?_
      refine v_goto C (oL_has.at 7 rfl) (tgt := 15) (by decide) ?_
      refine v_last C (oL_has.at 9 rfl) hf (by decide) rfl (j := 0) (by decide) ?_
      refine v_goto C (oL_has.at 10 rfl) (tgt := 22) (by decide) ?_
      refine v_iconst C (oL_has.at 14 rfl) (v := nI 0) rfl ?_
      exact v_iret C (oL_has.at 15 rfl) rfl rfl ⟨Nat.le_refl _, Nat.le_refl _⟩ ⟨rfl, hR1⟩
  · have hE : (E, r) = (EIOO, 1) := by simpa [rwL_has] using hE
    cases hE
    refine conH (by decide +kernel) ⟨fun _ => rfl, rfl, by simp⟩ (fun X C => ?_)
    change V X (0, 0) w h 0 [some (.ref 0), some (.int x0), some (.ref 88), none] []
    refine v_aload_n C (oL_has.at 0 rfl) rfl ?_
    refine v_iconst C (oL_has.at 1 rfl) (v := nI 0) rfl ?_
    refine v_aload_n C (oL_has.at 2 rfl) rfl ?_
    refine v_iload_n C (oL_has.at 3 rfl) rfl ?_
    refine v_callV0 C (oL_has.at 4 rfl) cL_98.1 cL_98.2.1 cL_98.2.2 h0 c8 rfl hd8 rfl ⟨rfl, rfl⟩ rfl rfl (fun _ _ e _ => by cases e) (fun E' h1 e hp => ?_)
    cases e
    exact vt_catch C (i := 3) [] ⟨0, 16, 19, 19⟩ [] rfl (fun y hy => by cases hy) rfl (by decide) clEIOO caEIOO (.inr ⟨_, rfl, rfl, rfl⟩) (oL_has.at 11 rfl) (oL_has.at 12 rfl) (oL_has.at 13 rfl) rfl rfl rfl ⟨by decide, by decide⟩ ⟨rfl, hR h1 hp⟩
def mL_inverse : Mi := (yL_inverse, cL_inverse, 4, some .int, 3)
def tL_inverse : Ct := [(0, .aload_n 2, 1), (1, .iconst 0, 1), (2, .aload_n 0, 1), (3, .iload_n 1, 1), (4, .invokevirtual 102, 3), (7, .i2l, 1), (8, .lastore, 1), (9, .goto 9, 3), (12, .astore_n 3, 1), (13, .iconst 1, 1), (14, .ireturn, 1), (15, .astore_n 3, 1), (16, .iconst 2, 1), (17, .ireturn, 1), (18, .iconst 0, 1), (19, .ireturn, 1)]
set_option maxRecDepth 20000 in
theorem oL_inverse : CtOk mL_inverse.2.1 tL_inverse := by unfold CtOk; decide +kernel
def hhL_inverse : List (Nat × Nat × Nat × Nat) := [(0, 9, 12, 19), (0, 9, 15, 75)]
theorem kL_inverse : MKH mL_inverse hhL_inverse := ⟨tj6 88 (by rfl) rfl, tj1 0 (by rfl) rfl, by decide +kernel, by decide +kernel, by decide +kernel, tj6 87 (by rfl) rfl⟩
theorem cL_102 : MVL mL_inverse.1.cls 102 mX8_inverse 8 := ⟨kX8_inverse, vX8_inverse, tj6 89 (by rfl) rfl⟩
def rwL_inverse : List (String × Nat) := [(EIOO, 1), (ENSE, 2)]
theorem xL_inverse {w : Wt} {h : Hp} {x0 : Int32} {d8 r : Nat} {z' : Nat × Nat} {o' : Oc} {f : Nat → Int64} {fs : List Value} {P' R : Hp → Prop} (hJ : JO rwL_inverse o' z' r f P' R) (h0 : h 0 = .inr (8, fs)) (hd8 : Nat.blt d8 8 = true) (c8 : ConN mX8_inverse d8 z' w [.ref 0, .int x0] h o' P') : ConH mL_inverse hhL_inverse 8 z' w [.ref 0, .int x0, .ref 88] h (.inl (some (.int (nI r)))) (fun w' h' => w' = w ∧ R h') := by
  rcases hJ with ⟨y, rfl, rfl, rfl, hR⟩ | ⟨E, rfl, rfl, hE, hR⟩
  · refine conH (by decide +kernel) ⟨fun _ => rfl, rfl, by simp⟩ (fun X C => ?_)
    change V X (0, 0) w h 0 [some (.ref 0), some (.int x0), some (.ref 88), none] []
    refine v_aload_n C (oL_inverse.at 0 rfl) rfl ?_
    refine v_iconst C (oL_inverse.at 1 rfl) (v := nI 0) rfl ?_
    refine v_aload_n C (oL_inverse.at 2 rfl) rfl ?_
    refine v_iload_n C (oL_inverse.at 3 rfl) rfl ?_
    refine v_callV C (oL_inverse.at 4 rfl) cL_102 h0 c8 rfl hd8 rfl ⟨rfl, rfl⟩ rfl rfl (fun _ => rfl) (fun h1 hp => ?_)
    dsimp only [Option.toList, List.cons_append, List.nil_append]
    obtain ⟨hf, hR1⟩ := hR h1 hp
    refine v_i2l C (oL_inverse.at 5 rfl) ?_
    refine v_last C (oL_inverse.at 6 rfl) hf (by decide) rfl (j := 0) (by decide) ?_
    refine v_goto C (oL_inverse.at 7 rfl) (tgt := 18) (by decide) ?_
    refine v_iconst C (oL_inverse.at 14 rfl) (v := nI 0) rfl ?_
    exact v_iret C (oL_inverse.at 15 rfl) rfl rfl ⟨Nat.le_refl _, Nat.le_refl _⟩ ⟨rfl, hR1⟩
  · have hE : (E, r) = (EIOO, 1) ∨ (E, r) = (ENSE, 2) := by simpa [rwL_inverse] using hE
    rcases hE with hE | hE <;> cases hE
    · refine conH (by decide +kernel) ⟨fun _ => rfl, rfl, by simp⟩ (fun X C => ?_)
      change V X (0, 0) w h 0 [some (.ref 0), some (.int x0), some (.ref 88), none] []
      refine v_aload_n C (oL_inverse.at 0 rfl) rfl ?_
      refine v_iconst C (oL_inverse.at 1 rfl) (v := nI 0) rfl ?_
      refine v_aload_n C (oL_inverse.at 2 rfl) rfl ?_
      refine v_iload_n C (oL_inverse.at 3 rfl) rfl ?_
      refine v_callV0 C (oL_inverse.at 4 rfl) cL_102.1 cL_102.2.1 cL_102.2.2 h0 c8 rfl hd8 rfl ⟨rfl, rfl⟩ rfl rfl (fun _ _ e _ => by cases e) (fun E' h1 e hp => ?_)
      cases e
      exact vt_catch C (i := 3) [] ⟨0, 9, 12, 19⟩ [⟨0, 9, 15, 75⟩] rfl (fun y hy => by cases hy) rfl (by decide) clEIOO caEIOO (.inr ⟨_, rfl, rfl, rfl⟩) (oL_inverse.at 8 rfl) (oL_inverse.at 9 rfl) (oL_inverse.at 10 rfl) rfl rfl rfl ⟨by decide, by decide⟩ ⟨rfl, hR h1 hp⟩
    · refine conH (by decide +kernel) ⟨fun _ => rfl, rfl, by simp⟩ (fun X C => ?_)
      change V X (0, 0) w h 0 [some (.ref 0), some (.int x0), some (.ref 88), none] []
      refine v_aload_n C (oL_inverse.at 0 rfl) rfl ?_
      refine v_iconst C (oL_inverse.at 1 rfl) (v := nI 0) rfl ?_
      refine v_aload_n C (oL_inverse.at 2 rfl) rfl ?_
      refine v_iload_n C (oL_inverse.at 3 rfl) rfl ?_
      refine v_callV0 C (oL_inverse.at 4 rfl) cL_102.1 cL_102.2.1 cL_102.2.2 h0 c8 rfl hd8 rfl ⟨rfl, rfl⟩ rfl rfl (fun _ _ e _ => by cases e) (fun E' h1 e hp => ?_)
      cases e
      exact vt_catch C (i := 3) [⟨0, 9, 12, 19⟩] ⟨0, 9, 15, 75⟩ [] rfl (fun y hy => by rw [List.mem_singleton.mp hy]; exact ⟨by decide, _, clEIOO, by decide⟩) rfl (by decide) clENSE caENSE (.inr ⟨_, rfl, rfl, rfl⟩) (oL_inverse.at 11 rfl) (oL_inverse.at 12 rfl) (oL_inverse.at 13 rfl) rfl rfl rfl ⟨by decide, by decide⟩ ⟨rfl, hR h1 hp⟩
def mL_inverseOutput : Mi := (yL_inverseOutput, cL_inverseOutput, 4, some .int, 3)
def tL_inverseOutput : Ct := [(0, .aload_n 2, 1), (1, .iconst 0, 1), (2, .aload_n 0, 1), (3, .iload_n 1, 1), (4, .invokevirtual 105, 3), (7, .i2l, 1), (8, .lastore, 1), (9, .goto 9, 3), (12, .astore_n 3, 1), (13, .iconst 1, 1), (14, .ireturn, 1), (15, .astore_n 3, 1), (16, .iconst 2, 1), (17, .ireturn, 1), (18, .iconst 0, 1), (19, .ireturn, 1)]
set_option maxRecDepth 20000 in
theorem oL_inverseOutput : CtOk mL_inverseOutput.2.1 tL_inverseOutput := by unfold CtOk; decide +kernel
def hhL_inverseOutput : List (Nat × Nat × Nat × Nat) := [(0, 9, 12, 75), (0, 9, 15, 19)]
theorem kL_inverseOutput : MKH mL_inverseOutput hhL_inverseOutput := ⟨tj6 124 (by rfl) rfl, tj1 0 (by rfl) rfl, by decide +kernel, by decide +kernel, by decide +kernel, tj6 123 (by rfl) rfl⟩
theorem cL_105 : MVL mL_inverseOutput.1.cls 105 mX8_inverseOutput 8 := ⟨kX8_inverseOutput, vX8_inverseOutput, tj6 125 (by rfl) rfl⟩
def rwL_inverseOutput : List (String × Nat) := [(ENSE, 1), (EIOO, 2)]
theorem xL_inverseOutput {w : Wt} {h : Hp} {x0 : Int32} {d8 r : Nat} {z' : Nat × Nat} {o' : Oc} {f : Nat → Int64} {fs : List Value} {P' R : Hp → Prop} (hJ : JO rwL_inverseOutput o' z' r f P' R) (h0 : h 0 = .inr (8, fs)) (hd8 : Nat.blt d8 8 = true) (c8 : ConN mX8_inverseOutput d8 z' w [.ref 0, .int x0] h o' P') : ConH mL_inverseOutput hhL_inverseOutput 8 z' w [.ref 0, .int x0, .ref 88] h (.inl (some (.int (nI r)))) (fun w' h' => w' = w ∧ R h') := by
  rcases hJ with ⟨y, rfl, rfl, rfl, hR⟩ | ⟨E, rfl, rfl, hE, hR⟩
  · refine conH (by decide +kernel) ⟨fun _ => rfl, rfl, by simp⟩ (fun X C => ?_)
    change V X (0, 0) w h 0 [some (.ref 0), some (.int x0), some (.ref 88), none] []
    refine v_aload_n C (oL_inverseOutput.at 0 rfl) rfl ?_
    refine v_iconst C (oL_inverseOutput.at 1 rfl) (v := nI 0) rfl ?_
    refine v_aload_n C (oL_inverseOutput.at 2 rfl) rfl ?_
    refine v_iload_n C (oL_inverseOutput.at 3 rfl) rfl ?_
    refine v_callV C (oL_inverseOutput.at 4 rfl) cL_105 h0 c8 rfl hd8 rfl ⟨rfl, rfl⟩ rfl rfl (fun _ => rfl) (fun h1 hp => ?_)
    dsimp only [Option.toList, List.cons_append, List.nil_append]
    obtain ⟨hf, hR1⟩ := hR h1 hp
    refine v_i2l C (oL_inverseOutput.at 5 rfl) ?_
    refine v_last C (oL_inverseOutput.at 6 rfl) hf (by decide) rfl (j := 0) (by decide) ?_
    refine v_goto C (oL_inverseOutput.at 7 rfl) (tgt := 18) (by decide) ?_
    refine v_iconst C (oL_inverseOutput.at 14 rfl) (v := nI 0) rfl ?_
    exact v_iret C (oL_inverseOutput.at 15 rfl) rfl rfl ⟨Nat.le_refl _, Nat.le_refl _⟩ ⟨rfl, hR1⟩
  · have hE : (E, r) = (ENSE, 1) ∨ (E, r) = (EIOO, 2) := by simpa [rwL_inverseOutput] using hE
    rcases hE with hE | hE <;> cases hE
    · refine conH (by decide +kernel) ⟨fun _ => rfl, rfl, by simp⟩ (fun X C => ?_)
      change V X (0, 0) w h 0 [some (.ref 0), some (.int x0), some (.ref 88), none] []
      refine v_aload_n C (oL_inverseOutput.at 0 rfl) rfl ?_
      refine v_iconst C (oL_inverseOutput.at 1 rfl) (v := nI 0) rfl ?_
      refine v_aload_n C (oL_inverseOutput.at 2 rfl) rfl ?_
      refine v_iload_n C (oL_inverseOutput.at 3 rfl) rfl ?_
      refine v_callV0 C (oL_inverseOutput.at 4 rfl) cL_105.1 cL_105.2.1 cL_105.2.2 h0 c8 rfl hd8 rfl ⟨rfl, rfl⟩ rfl rfl (fun _ _ e _ => by cases e) (fun E' h1 e hp => ?_)
      cases e
      exact vt_catch C (i := 3) [] ⟨0, 9, 12, 75⟩ [⟨0, 9, 15, 19⟩] rfl (fun y hy => by cases hy) rfl (by decide) clENSE caENSE (.inr ⟨_, rfl, rfl, rfl⟩) (oL_inverseOutput.at 8 rfl) (oL_inverseOutput.at 9 rfl) (oL_inverseOutput.at 10 rfl) rfl rfl rfl ⟨by decide, by decide⟩ ⟨rfl, hR h1 hp⟩
    · refine conH (by decide +kernel) ⟨fun _ => rfl, rfl, by simp⟩ (fun X C => ?_)
      change V X (0, 0) w h 0 [some (.ref 0), some (.int x0), some (.ref 88), none] []
      refine v_aload_n C (oL_inverseOutput.at 0 rfl) rfl ?_
      refine v_iconst C (oL_inverseOutput.at 1 rfl) (v := nI 0) rfl ?_
      refine v_aload_n C (oL_inverseOutput.at 2 rfl) rfl ?_
      refine v_iload_n C (oL_inverseOutput.at 3 rfl) rfl ?_
      refine v_callV0 C (oL_inverseOutput.at 4 rfl) cL_105.1 cL_105.2.1 cL_105.2.2 h0 c8 rfl hd8 rfl ⟨rfl, rfl⟩ rfl rfl (fun _ _ e _ => by cases e) (fun E' h1 e hp => ?_)
      cases e
      exact vt_catch C (i := 3) [⟨0, 9, 12, 75⟩] ⟨0, 9, 15, 19⟩ [] rfl (fun y hy => by rw [List.mem_singleton.mp hy]; exact ⟨by decide, _, clENSE, by decide⟩) rfl (by decide) clEIOO caEIOO (.inr ⟨_, rfl, rfl, rfl⟩) (oL_inverseOutput.at 11 rfl) (oL_inverseOutput.at 12 rfl) (oL_inverseOutput.at 13 rfl) rfl rfl rfl ⟨by decide, by decide⟩ ⟨rfl, hR h1 hp⟩
def mL_restore : Mi := (yL_restore, cL_restore, 3, some .int, 2)
def tL_restore : Ct := [(0, .aload_n 1, 1), (1, .iconst 0, 1), (2, .aload_n 0, 1), (3, .invokevirtual 108, 3), (6, .lastore, 1), (7, .goto 6, 3), (10, .astore_n 2, 1), (11, .iconst 1, 1), (12, .ireturn, 1), (13, .iconst 0, 1), (14, .ireturn, 1)]
set_option maxRecDepth 20000 in
theorem oL_restore : CtOk mL_restore.2.1 tL_restore := by unfold CtOk; decide +kernel
def hhL_restore : List (Nat × Nat × Nat × Nat) := [(0, 7, 10, 34)]
theorem kL_restore : MKH mL_restore hhL_restore := ⟨tj6 137 (by rfl) rfl, tj1 0 (by rfl) rfl, by decide +kernel, by decide +kernel, by decide +kernel, tj6 136 (by rfl) rfl⟩
theorem cL_108 : MVL mL_restore.1.cls 108 mX8_restore 8 := ⟨kX8_restore, vX8_restore, tj6 138 (by rfl) rfl⟩
def JOL (rows : List (String × Nat)) (o : Oc) (z : Nat × Nat) (r : Nat) (f : Nat → Int64) (P R : Hp → Prop) : Prop := (∃ y : Int64, o = .inl (some (.long y)) ∧ z = (0, 0) ∧ r = 0 ∧ ∀ h1, P h1 → h1 88 = jo 1 f ∧ R (hu h1 88 (jo 1 (vp_updL f 0 y)))) ∨ (∃ E, o = .inr E ∧ z = (1, 6) ∧ (E, r) ∈ rows ∧ ∀ h1, P h1 → R h1)
def rwL_restore : List (String × Nat) := [(EISE, 1)]
theorem xL_restore {w : Wt} {h : Hp}  {d8 r : Nat} {z' : Nat × Nat} {o' : Oc} {f : Nat → Int64} {fs : List Value} {P' R : Hp → Prop} (hJ : JOL rwL_restore o' z' r f P' R) (h0 : h 0 = .inr (8, fs)) (hd8 : Nat.blt d8 8 = true) (c8 : ConN mX8_restore d8 z' w [.ref 0] h o' P') : ConH mL_restore hhL_restore 8 z' w [.ref 0, .ref 88] h (.inl (some (.int (nI r)))) (fun w' h' => w' = w ∧ R h') := by
  rcases hJ with ⟨y, rfl, rfl, rfl, hR⟩ | ⟨E, rfl, rfl, hE, hR⟩
  · refine conH (by decide +kernel) ⟨fun _ => rfl, rfl, by simp⟩ (fun X C => ?_)
    change V X (0, 0) w h 0 [some (.ref 0), some (.ref 88), none] []
    refine v_aload_n C (oL_restore.at 0 rfl) rfl ?_
    refine v_iconst C (oL_restore.at 1 rfl) (v := nI 0) rfl ?_
    refine v_aload_n C (oL_restore.at 2 rfl) rfl ?_
    refine v_callV C (oL_restore.at 3 rfl) cL_108 h0 c8 rfl hd8 rfl ⟨rfl, rfl⟩ rfl rfl (fun _ => rfl) (fun h1 hp => ?_)
    dsimp only [Option.toList, List.cons_append, List.nil_append]
    obtain ⟨hf, hR1⟩ := hR h1 hp
    refine v_last C (oL_restore.at 4 rfl) hf (by decide) rfl (j := 0) (by decide) ?_
    refine v_goto C (oL_restore.at 5 rfl) (tgt := 13) (by decide) ?_
    refine v_iconst C (oL_restore.at 9 rfl) (v := nI 0) rfl ?_
    exact v_iret C (oL_restore.at 10 rfl) rfl rfl ⟨Nat.le_refl _, Nat.le_refl _⟩ ⟨rfl, hR1⟩
  · have hE : (E, r) = (EISE, 1) := by simpa [rwL_restore] using hE
    cases hE
    refine conH (by decide +kernel) ⟨fun _ => rfl, rfl, by simp⟩ (fun X C => ?_)
    change V X (0, 0) w h 0 [some (.ref 0), some (.ref 88), none] []
    refine v_aload_n C (oL_restore.at 0 rfl) rfl ?_
    refine v_iconst C (oL_restore.at 1 rfl) (v := nI 0) rfl ?_
    refine v_aload_n C (oL_restore.at 2 rfl) rfl ?_
    refine v_callV0 C (oL_restore.at 3 rfl) cL_108.1 cL_108.2.1 cL_108.2.2 h0 c8 rfl hd8 rfl ⟨rfl, rfl⟩ rfl rfl (fun _ _ e _ => by cases e) (fun E' h1 e hp => ?_)
    cases e
    exact vt_catch C (i := 2) [] ⟨0, 7, 10, 34⟩ [] rfl (fun y hy => by cases hy) rfl (by decide) clEISE caEISE (.inr ⟨_, rfl, rfl, rfl⟩) (oL_restore.at 6 rfl) (oL_restore.at 7 rfl) (oL_restore.at 8 rfl) rfl rfl rfl ⟨by decide, by decide⟩ ⟨rfl, hR h1 hp⟩
