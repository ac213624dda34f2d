/-! ===== the rules of V for use: calls by outcome, throws, numbers as naturals ===== -/
def MVL (own : String) (ix : Nat) (μ' : Mi) (ci : Nat) : Prop := MK μ' ∧ MKv μ' ci ∧ Cond.methodLink own ix μ'.1 ∈ TSg
def MSL (own : String) (ix : Nat) (μ' : Mi) : Prop := MK μ' ∧ Cond.static μ'.1 ∈ TSg ∧ Cond.methodLink own ix μ'.1 ∈ TSg
theorem ofInt_nI (n : Nat) : Int32.ofInt (n : Int) = nI n := rfl
theorem Wd.kept {G : GG} {B : Nat} {w : Wt} {h : Hp} {H H1 : Heap} (hW : Wd G B w h H) (hk : ∀ q : Nat, q < H.size → H1[q]? = H[q]?) : Wd G B w h H1 := ⟨hW.1.kept (fun k q hq => hk q.1 ((hW.1 k q hq).lt)), hW.2⟩
def xnm : List String := ["java/lang/RuntimeException", "java/lang/Exception"]
def THR (ik ic : Nat) (E : String) : Prop := Bundle.fit E = true ∧ Cond.classLink RX8 ik E ∈ TSg ∧ Cond.initialized E ∈ TSg ∧ ∀ w ∈ vx_atS RX8 ic E xnm, vx_ot w = true ∧ (w ∈ TSg ∨ (exOk w = true ∧ w ∈ lw_tbl))
theorem hu_hu (h : Hp) (q : Nat) (c c' : PE) : hu (hu h q c) q c' = hu h q c' := by
  funext j; unfold hu; split <;> rfl
theorem hu_id (h : Hp) {q : Nat} {c : PE} (e : h q = c) : hu h q c = h := by
  funext j; unfold hu; split
  · rename_i e2; rw [e2, e]
  · rfl
def mix (f g : Nat → Int32) (i : Nat) : Nat → Int32 := fun j => if j < i then g j else f j
theorem mix_0 (f g : Nat → Int32) : mix f g 0 = f := by funext j; simp [mix]
theorem mix_s (f g : Nat → Int32) (i : Nat) (v : Int32) (hv : g i = v) : upd (mix f g i) i v = mix f g (i + 1) := by
  funext j; unfold upd mix
  subst hv
  by_cases e : j = i
  · subst e; simp
  · have : (j < i + 1) ↔ (j < i) := by omega
    simp [e, this]
theorem mix_lt {f g : Nat → Int32} {i j : Nat} (h : j < i) : mix f g i j = g j := if_pos h
theorem mix_ge {f g : Nat → Int32} {i j : Nat} (h : i ≤ j) : mix f g i j = f j := if_neg (by omega)
def cnt (p : Nat → Bool) : Nat → Nat
  | 0 => 0
  | n + 1 => cnt p n + (if p n then 1 else 0)
section VS
variable {X : CT} {μ : Mi} {tab : List ExceptionTableEntry} {d : Nat} {zR : Nat × Nat} {o : Oc} {P : Wt → Hp → Prop} {z : Nat × Nat} {w : Wt} {h : Hp} {pc : Nat} {L : List (Option Value)} {st : List Value}
theorem v_callV (C : Cx X μ tab d zR o P) {ix ci q d' : Nat} {μ' : Mi} {as : List Value} {fs : List Value} {v : Option Value} {P' : Hp → Prop} {stk : List Value} (hd : decode μ.2.1 pc = .ok (.invokevirtual ix, 3)) (hM : MVL μ.1.cls ix μ' ci) (hh : h q = .inr (ci, fs)) (hc : ConN μ' d' (0, 0) w (.ref q :: as) h (.inl v) P') (hs : stk = as.reverse ++ .ref q :: st) (hdd : Nat.blt d' d = true) (hn : as.length = μ'.2.2.2.2) (hz : Nat.ble z.1 zR.1 = true ∧ Nat.ble z.2 zR.2 = true) (hcat : Nat.ble (st.map fun v => v.category).sum 8 = true) (hLn : L.length = μ.2.2.1) (hnr : ∀ ad : Nat → Nat, v.toList.map (cv ad) = v.toList)
    (k : ∀ h', P' h' → V X z w h' (pc + 3) L (v.toList ++ st)) : V X z w h pc L stk :=
  v_callV0 C hd hM.1 hM.2.1 hM.2.2 hh hc hs hdd hn hz hcat hLn (fun v' h' e hp => by cases e; exact ⟨hnr, k h' hp⟩) (fun _ _ e _ => by cases e)
theorem v_callS (C : Cx X μ tab d zR o P) {ix d' : Nat} {μ' : Mi} {as : List Value} {v : Option Value} {P' : Hp → Prop} {stk : List Value} (hd : decode μ.2.1 pc = .ok (.invokestatic ix, 3)) (hM : MSL μ.1.cls ix μ') (hc : ConN μ' d' (0, 0) w as h (.inl v) P') (hs : stk = as.reverse ++ st) (hdd : Nat.blt d' d = true) (hn : as.length = μ'.2.2.2.2) (hz : Nat.ble z.1 zR.1 = true ∧ Nat.ble z.2 zR.2 = true) (hcat : Nat.ble (st.map fun v => v.category).sum 8 = true) (hLn : L.length = μ.2.2.1) (hnr : ∀ ad : Nat → Nat, v.toList.map (cv ad) = v.toList)
    (k : ∀ h', P' h' → V X z w h' (pc + 3) L (v.toList ++ st)) : V X z w h pc L stk :=
  v_callS0 C hd hM.1 hM.2.1 hM.2.2 hc hs hdd hn hz hcat hLn (fun v' h' e hp => by cases e; exact ⟨hnr, k h' hp⟩) (fun _ _ e _ => by cases e)
/-- a callee that throws, and so does this method -/
theorem v_callVT {E : String} (C : Cx X μ [] d (1, 6) (.inr E) P) {ix ci q d' : Nat} {μ' : Mi} {as : List Value} {fs : List Value} {P' : Hp → Prop} {stk : List Value} (hd : decode μ.2.1 pc = .ok (.invokevirtual ix, 3)) (hM : MVL μ.1.cls ix μ' ci) (hh : h q = .inr (ci, fs)) (hc : ConN μ' d' (1, 6) w (.ref q :: as) h (.inr E) P') (hs : stk = as.reverse ++ .ref q :: st) (hdd : Nat.blt d' d = true) (hn : as.length = μ'.2.2.2.2) (hcat : Nat.ble (st.map fun v => v.category).sum 8 = true) (hLn : L.length = μ.2.2.1) (hP : ∀ h', P' h' → P w h') : V X (0, 0) w h pc L stk :=
  v_callV0 C hd hM.1 hM.2.1 hM.2.2 hh hc hs hdd hn ⟨rfl, rfl⟩ hcat hLn (fun _ _ e _ => by cases e) (fun E' h' e hp => by cases e; exact vt_out C rfl ⟨Nat.le_refl _, Nat.le_refl _⟩ (hP h' hp))
theorem v_callST {E : String} (C : Cx X μ [] d (1, 6) (.inr E) P) {ix d' : Nat} {μ' : Mi} {as : List Value} {P' : Hp → Prop} {stk : List Value} (hd : decode μ.2.1 pc = .ok (.invokestatic ix, 3)) (hM : MSL μ.1.cls ix μ') (hc : ConN μ' d' (1, 6) w as h (.inr E) P') (hs : stk = as.reverse ++ st) (hdd : Nat.blt d' d = true) (hn : as.length = μ'.2.2.2.2) (hcat : Nat.ble (st.map fun v => v.category).sum 8 = true) (hLn : L.length = μ.2.2.1) (hP : ∀ h', P' h' → P w h') : V X (0, 0) w h pc L stk :=
  v_callS0 C hd hM.1 hM.2.1 hM.2.2 hc hs hdd hn ⟨rfl, rfl⟩ hcat hLn (fun _ _ e _ => by cases e) (fun E' h' e hp => by cases e; exact vt_out C rfl ⟨Nat.le_refl _, Nat.le_refl _⟩ (hP h' hp))
theorem v_throwS {E : String} (C : Cx X μ [] d (1, 6) (.inr E) P) {ik is ic : Nat} {tx : String} (hown : μ.1.cls = RX8) (hT : THR ik ic E) (hstr : Cond.stringRef RX8 is tx ∈ lw_tbl) (d0 : decode μ.2.1 pc = .ok (.new ik, 3)) (d3 : decode μ.2.1 (pc + 3) = .ok (.dup, 1)) (d4 : decode μ.2.1 (pc + 4) = .ok (.ldc is, 2)) (d6 : decode μ.2.1 (pc + 6) = .ok (.invokespecial ic, 3)) (d9 : decode μ.2.1 (pc + 9) = .ok (.athrow, 1)) (hLn : L.length = μ.2.2.1) (hcat : Nat.ble (st.map fun v => v.category).sum 8 = true) (hP : P w h) : V X (0, 0) w h pc L st := by
  rcases X with ⟨p, l, e, R, s, m, args, below, meth, c, G, B, Q⟩
  intro H locs ls hW hS hl
  obtain ⟨hx, hb, hml, ho, hts, hlk, hlt, hK, hB, hSt, hEx, ⟨r1, r2, r3, r4⟩, htab, hret, hnm, hQ⟩ := C
  subst hQ
  rw [hown] at ho
  obtain ⟨t1, t2, t3, t4⟩ := hT
  obtain ⟨sa, hsa⟩ := hEx.2.1 _ _ _ hstr
  have hcat := Nat.le_of_ble_eq_true hcat
  have hsm : ((st.map (cv w.1)).map fun v => v.category).sum ≤ 8 := by rw [cv_sum]; exact hcat
  refine vx_throwS (names := xnm) (ik := ik) (is := is) (ic := ic) (sa := sa) (A := AB B) (text := tx) hx hb hlt ho t1 (by decide) (hts _ t2) (hts _ t3) hsa (fun w hw => ?_) ?_ hSt.1 hSt.2 hS (hl.1.trans (hLn.trans hml.symm)) d0 d3 d4 d6 d9 (by rw [htab]; exact fun x hx => by cases hx) ?_ ?_ r3 r4 hlk (fun t hv h1 h2 => ⟨⟨w, h, rfl, hP, hW.kept h2⟩, Nat.le_trans hS.1 h1, fun q hq hA => (h2 q (Nat.lt_of_lt_of_le hq hS.1)).trans (hS.2.1 q hq hA)⟩) hS.2.2 (Nat.le_refl _) (Nat.le_refl _)
  · rcases (t4 w hw).2 with h1 | ⟨h1, h2⟩
    · exact hts w h1
    · have := hEx.1 w h2 h1
      cases w with
      | castable C T => exact va_Nw.use rfl this
      | declares x => exact va_Nw.use rfl this
      | _ => cases h1
  · intro w hw
    rcases List.mem_cons.mp hw with h1 | h1
    · rw [h1]; rfl
    · rcases List.mem_cons.mp h1 with h1 | h1
      · rw [h1]; rfl
      · exact (t4 w h1).1
  · show 2 + 3 < R.frames
    omega
  · show _ + (13 * (2 + 1) + 43) ≤ R.locals
    omega
theorem v_throwSW {E : String} (C : Cx X μ [] d (1, 6) (.inr E) P) {ik is ic : Nat} {tx : String} (hown : μ.1.cls = RX8) (hT : THR ik ic E) (hstr : Cond.stringRef RX8 is tx ∈ lw_tbl) (d0 : decode μ.2.1 pc = .ok (.new ik, 3)) (d3 : decode μ.2.1 (pc + 3) = .ok (.dup, 1)) (d4 : decode μ.2.1 (pc + 4) = .ok (.ldc_w is, 3)) (d6 : decode μ.2.1 (pc + 7) = .ok (.invokespecial ic, 3)) (d9 : decode μ.2.1 (pc + 10) = .ok (.athrow, 1)) (hLn : L.length = μ.2.2.1) (hcat : Nat.ble (st.map fun v => v.category).sum 8 = true) (hP : P w h) : V X (0, 0) w h pc L st := by
  rcases X with ⟨p, l, e, R, s, m, args, below, meth, c, G, B, Q⟩
  intro H locs ls hW hS hl
  obtain ⟨hx, hb, hml, ho, hts, hlk, hlt, hK, hB, hSt, hEx, ⟨r1, r2, r3, r4⟩, htab, hret, hnm, hQ⟩ := C
  subst hQ
  rw [hown] at ho
  obtain ⟨t1, t2, t3, t4⟩ := hT
  obtain ⟨sa, hsa⟩ := hEx.2.1 _ _ _ hstr
  have hcat := Nat.le_of_ble_eq_true hcat
  have hsm : ((st.map (cv w.1)).map fun v => v.category).sum ≤ 8 := by rw [cv_sum]; exact hcat
  refine vx_throwSW (names := xnm) (ik := ik) (is := is) (ic := ic) (sa := sa) (A := AB B) (text := tx) hx hb hlt ho t1 (by decide) (hts _ t2) (hts _ t3) hsa (fun w hw => ?_) ?_ hSt.1 hSt.2 hS (hl.1.trans (hLn.trans hml.symm)) d0 d3 d4 d6 d9 (by rw [htab]; exact fun x hx => by cases hx) ?_ ?_ r3 r4 hlk (fun t hv h1 h2 => ⟨⟨w, h, rfl, hP, hW.kept h2⟩, Nat.le_trans hS.1 h1, fun q hq hA => (h2 q (Nat.lt_of_lt_of_le hq hS.1)).trans (hS.2.1 q hq hA)⟩) hS.2.2 (Nat.le_refl _) (Nat.le_refl _)
  · rcases (t4 w hw).2 with h1 | ⟨h1, h2⟩
    · exact hts w h1
    · have := hEx.1 w h2 h1
      cases w with
      | castable C T => exact va_Nw.use rfl this
      | declares x => exact va_Nw.use rfl this
      | _ => cases h1
  · intro w hw
    rcases List.mem_cons.mp hw with h1 | h1
    · rw [h1]; rfl
    · rcases List.mem_cons.mp h1 with h1 | h1
      · rw [h1]; rfl
      · exact (t4 w h1).1
  · show 2 + 3 < R.frames
    omega
  · show _ + (13 * (2 + 1) + 43) ≤ R.locals
    omega
theorem v_iaddN (C : Cx X μ tab d zR o P) {a b : Nat} (hd : decode μ.2.1 pc = .ok (.iadd, 1)) (k : V X z w h (pc + 1) L (.int (nI (a + b)) :: st)) : V X z w h pc L (.int (nI b) :: .int (nI a) :: st) := v_iadd C hd (by rw [nI_add]; exact k)
theorem v_imulN (C : Cx X μ tab d zR o P) {a b : Nat} (hd : decode μ.2.1 pc = .ok (.imul, 1)) (k : V X z w h (pc + 1) L (.int (nI (a * b)) :: st)) : V X z w h pc L (.int (nI b) :: .int (nI a) :: st) := v_imul C hd (by rw [pk_mul]; exact k)
theorem v_isubN (C : Cx X μ tab d zR o P) {a b : Nat} (hd : decode μ.2.1 pc = .ok (.isub, 1)) (hb : b ≤ a) (k : V X z w h (pc + 1) L (.int (nI (a - b)) :: st)) : V X z w h pc L (.int (nI b) :: .int (nI a) :: st) := v_isub C hd (by rw [pk_sub hb]; exact k)
theorem v_idivN (C : Cx X μ tab d zR o P) {a b : Nat} (hd : decode μ.2.1 pc = .ok (.idiv, 1)) (ha : a < 2 ^ 31) (h0 : 0 < b) (hb : b < 2 ^ 31) (k : V X z w h (pc + 1) L (.int (nI (a / b)) :: st)) : V X z w h pc L (.int (nI b) :: .int (nI a) :: st) := v_idiv C hd (nI_ne0 h0 hb) (by rw [pk_div ha h0 hb]; exact k)
theorem v_iremN (C : Cx X μ tab d zR o P) {a b : Nat} (hd : decode μ.2.1 pc = .ok (.irem, 1)) (ha : a < 2 ^ 31) (h0 : 0 < b) (hb : b < 2 ^ 31) (k : V X z w h (pc + 1) L (.int (nI (a % b)) :: st)) : V X z w h pc L (.int (nI b) :: .int (nI a) :: st) := v_irem C hd (nI_ne0 h0 hb) (by rw [pk_rem ha h0 hb]; exact k)
theorem v_iincN (C : Cx X μ tab d zR o P) {i a : Nat} (hd : decode μ.2.1 pc = .ok (.iinc i 1, 3)) (hr : rdL L i = some (.int (nI a))) (k : V X z w h (pc + 3) (sto1 L i (.int (nI (a + 1)))) st) : V X z w h pc L st := v_iinc C hd hr (nI_1 a) k
theorem v_idecN (C : Cx X μ tab d zR o P) {i a : Nat} (hd : decode μ.2.1 pc = .ok (.iinc i (-1), 3)) (hr : rdL L i = some (.int (nI (a + 1)))) (k : V X z w h (pc + 3) (sto1 L i (.int (nI a))) st) : V X z w h pc L st := v_iinc C hd hr (pk_m1 a) k
theorem v_icmp_eqN (C : Cx X μ tab d zR o P) {a b : Nat} {off : Int} {tgt : Nat} (hd : decode μ.2.1 pc = .ok (.if_icmp .eq off, 3)) (ht : (pc : Int) + off = (tgt : Int)) (ha : a < 2 ^ 31) (hb : b < 2 ^ 31) (kt : a = b → V X z w h tgt L st) (kf : a ≠ b → V X z w h (pc + 3) L st) : V X z w h pc L (.int (nI b) :: .int (nI a) :: st) :=
  v_icmp_eq C hd ht (fun q => kt ((nI_eq ha hb).mp q)) (fun q => kf (fun e => q ((nI_eq ha hb).mpr e)))
theorem v_icmp_neN (C : Cx X μ tab d zR o P) {a b : Nat} {off : Int} {tgt : Nat} (hd : decode μ.2.1 pc = .ok (.if_icmp .ne off, 3)) (ht : (pc : Int) + off = (tgt : Int)) (ha : a < 2 ^ 31) (hb : b < 2 ^ 31) (kt : a ≠ b → V X z w h tgt L st) (kf : a = b → V X z w h (pc + 3) L st) : V X z w h pc L (.int (nI b) :: .int (nI a) :: st) :=
  v_icmp_ne C hd ht (fun q => kt (fun e => q ((nI_eq ha hb).mpr e))) (fun q => kf ((nI_eq ha hb).mp q))
theorem v_icmp_ltN (C : Cx X μ tab d zR o P) {a b : Nat} {off : Int} {tgt : Nat} (hd : decode μ.2.1 pc = .ok (.if_icmp .lt off, 3)) (ht : (pc : Int) + off = (tgt : Int)) (ha : a < 2 ^ 31) (hb : b < 2 ^ 31) (kt : a < b → V X z w h tgt L st) (kf : b ≤ a → V X z w h (pc + 3) L st) : V X z w h pc L (.int (nI b) :: .int (nI a) :: st) :=
  v_icmp_lt C hd ht (fun q => kt ((nI_ltI ha hb).mp q)) (fun q => kf (Nat.not_lt.mp (fun e => q ((nI_ltI ha hb).mpr e))))
theorem v_icmp_geN (C : Cx X μ tab d zR o P) {a b : Nat} {off : Int} {tgt : Nat} (hd : decode μ.2.1 pc = .ok (.if_icmp .ge off, 3)) (ht : (pc : Int) + off = (tgt : Int)) (ha : a < 2 ^ 31) (hb : b < 2 ^ 31) (kt : b ≤ a → V X z w h tgt L st) (kf : a < b → V X z w h (pc + 3) L st) : V X z w h pc L (.int (nI b) :: .int (nI a) :: st) :=
  v_icmp_ge C hd ht (fun q => kt ((nI_leI hb ha).mp q)) (fun q => kf (Nat.not_le.mp (fun e => q ((nI_leI hb ha).mpr e))))
theorem v_icmp_gtN (C : Cx X μ tab d zR o P) {a b : Nat} {off : Int} {tgt : Nat} (hd : decode μ.2.1 pc = .ok (.if_icmp .gt off, 3)) (ht : (pc : Int) + off = (tgt : Int)) (ha : a < 2 ^ 31) (hb : b < 2 ^ 31) (kt : b < a → V X z w h tgt L st) (kf : a ≤ b → V X z w h (pc + 3) L st) : V X z w h pc L (.int (nI b) :: .int (nI a) :: st) :=
  v_icmp_gt C hd ht (fun q => kt ((nI_ltI hb ha).mp q)) (fun q => kf (Nat.not_lt.mp (fun e => q ((nI_ltI hb ha).mpr e))))
theorem v_icmp_leN (C : Cx X μ tab d zR o P) {a b : Nat} {off : Int} {tgt : Nat} (hd : decode μ.2.1 pc = .ok (.if_icmp .le off, 3)) (ht : (pc : Int) + off = (tgt : Int)) (ha : a < 2 ^ 31) (hb : b < 2 ^ 31) (kt : a ≤ b → V X z w h tgt L st) (kf : b < a → V X z w h (pc + 3) L st) : V X z w h pc L (.int (nI b) :: .int (nI a) :: st) :=
  v_icmp_le C hd ht (fun q => kt ((nI_leI ha hb).mp q)) (fun q => kf (Nat.not_le.mp (fun e => q ((nI_leI ha hb).mpr e))))
theorem nI_z {a : Nat} (ha : a < 2 ^ 31) : nI a = 0 ↔ a = 0 := by
  rw [← nI_0]; exact nI_eq ha (by decide)
theorem v_if_eqN (C : Cx X μ tab d zR o P) {a : Nat} {off : Int} {tgt : Nat} (hd : decode μ.2.1 pc = .ok (.ifCond .eq off, 3)) (ht : (pc : Int) + off = (tgt : Int)) (ha : a < 2 ^ 31) (kt : a = 0 → V X z w h tgt L st) (kf : a ≠ 0 → V X z w h (pc + 3) L st) : V X z w h pc L (.int (nI a) :: st) :=
  v_if_eq C hd ht (fun q => kt ((nI_z ha).mp q)) (fun q => kf (fun e => q ((nI_z ha).mpr e)))
theorem v_if_neN (C : Cx X μ tab d zR o P) {a : Nat} {off : Int} {tgt : Nat} (hd : decode μ.2.1 pc = .ok (.ifCond .ne off, 3)) (ht : (pc : Int) + off = (tgt : Int)) (ha : a < 2 ^ 31) (kt : a ≠ 0 → V X z w h tgt L st) (kf : a = 0 → V X z w h (pc + 3) L st) : V X z w h pc L (.int (nI a) :: st) :=
  v_if_ne C hd ht (fun q => kt (fun e => q ((nI_z ha).mpr e))) (fun q => kf ((nI_z ha).mp q))
theorem v_if_leN (C : Cx X μ tab d zR o P) {a : Nat} {off : Int} {tgt : Nat} (hd : decode μ.2.1 pc = .ok (.ifCond .le off, 3)) (ht : (pc : Int) + off = (tgt : Int)) (ha : a < 2 ^ 31) (kt : a = 0 → V X z w h tgt L st) (kf : 0 < a → V X z w h (pc + 3) L st) : V X z w h pc L (.int (nI a) :: st) :=
  v_if_le C hd ht (fun q => kt (by rcases Nat.eq_zero_or_pos a with h0 | h0; exact h0; exact absurd q (nI_nle h0 ha))) (fun q => kf (by rcases Nat.eq_zero_or_pos a with h0 | h0; (subst h0; exact absurd (by decide) q); exact h0))
theorem v_if_gtN (C : Cx X μ tab d zR o P) {a : Nat} {off : Int} {tgt : Nat} (hd : decode μ.2.1 pc = .ok (.ifCond .gt off, 3)) (ht : (pc : Int) + off = (tgt : Int)) (ha : a < 2 ^ 31) (kt : 0 < a → V X z w h tgt L st) (kf : a = 0 → V X z w h (pc + 3) L st) : V X z w h pc L (.int (nI a) :: st) :=
  v_if_gt C hd ht (fun q => kt (by rcases Nat.eq_zero_or_pos a with h0 | h0; (subst h0; exact absurd q (by decide)); exact h0)) (fun q => kf (by rcases Nat.eq_zero_or_pos a with h0 | h0; exact h0; exact absurd (by rw [← nI_0]; exact nI_lt h0 ha) q))
theorem v_if_ltN (C : Cx X μ tab d zR o P) {a : Nat} {off : Int} (hd : decode μ.2.1 pc = .ok (.ifCond .lt off, 3)) {tgt : Nat} (ht : (pc : Int) + off = (tgt : Int)) (ha : a < 2 ^ 31) (kf : V X z w h (pc + 3) L st) : V X z w h pc L (.int (nI a) :: st) :=
  v_if_lt C hd ht (fun q => absurd q (nI_pos ha)) (fun _ => kf)
theorem v_if_geN (C : Cx X μ tab d zR o P) {a : Nat} {off : Int} {tgt : Nat} (hd : decode μ.2.1 pc = .ok (.ifCond .ge off, 3)) (ht : (pc : Int) + off = (tgt : Int)) (ha : a < 2 ^ 31) (kt : V X z w h tgt L st) : V X z w h pc L (.int (nI a) :: st) :=
  v_if_ge C hd ht (fun _ => kt) (fun q => absurd (nI_pos' ha) q)
def pI (a : Nat) : Int32 := nI a - nI 1
theorem pI_succ (a : Nat) : pI (a + 1) = nI a := nI_pred a
theorem pI_0 : pI 0 = -1 := by decide
theorem v_isubP (C : Cx X μ tab d zR o P) {a : Nat} (hd : decode μ.2.1 pc = .ok (.isub, 1)) (k : V X z w h (pc + 1) L (.int (pI a) :: st)) : V X z w h pc L (.int (nI 1) :: .int (nI a) :: st) := v_isub C hd k
theorem v_idecP (C : Cx X μ tab d zR o P) {i a : Nat} (hd : decode μ.2.1 pc = .ok (.iinc i (-1), 3)) (hr : rdL L i = some (.int (nI a))) (k : V X z w h (pc + 3) (sto1 L i (.int (pI a))) st) : V X z w h pc L st := v_iinc C hd hr (by unfold pI; rw [Int32.sub_eq_add_neg]; rfl) k
theorem v_if_ltP (C : Cx X μ tab d zR o P) {a : Nat} {off : Int} {tgt : Nat} (hd : decode μ.2.1 pc = .ok (.ifCond .lt off, 3)) (ht : (pc : Int) + off = (tgt : Int)) (ha : a < 2 ^ 31) (kt : a = 0 → V X z w h tgt L st) (kf : ∀ b, a = b + 1 → V X z w h (pc + 3) L st) : V X z w h pc L (.int (pI a) :: st) :=
  v_if_lt C hd ht (fun q => kt (by
    cases a with
    | zero => rfl
    | succ b => rw [pI_succ] at q; exact absurd q (nI_pos (by omega)))) (fun q => by
    cases a with
    | zero => exact absurd (by decide) q
    | succ b => exact kf b rfl)
theorem v_if_eqB (C : Cx X μ tab d zR o P) {b : Bool} {off : Int} {tgt : Nat} (hd : decode μ.2.1 pc = .ok (.ifCond .eq off, 3)) (ht : (pc : Int) + off = (tgt : Int)) (kt : b = false → V X z w h tgt L st) (kf : b = true → V X z w h (pc + 3) L st) : V X z w h pc L (.int (bI b) :: st) :=
  v_if_eq C hd ht (fun q => kt (by cases b; rfl; exact absurd q (by decide))) (fun q => kf (by cases b; exact absurd (by decide) q; rfl))
theorem v_if_neB (C : Cx X μ tab d zR o P) {b : Bool} {off : Int} {tgt : Nat} (hd : decode μ.2.1 pc = .ok (.ifCond .ne off, 3)) (ht : (pc : Int) + off = (tgt : Int)) (kt : b = true → V X z w h tgt L st) (kf : b = false → V X z w h (pc + 3) L st) : V X z w h pc L (.int (bI b) :: st) :=
  v_if_ne C hd ht (fun q => kt (by cases b; exact absurd (by decide) q; rfl)) (fun q => kf (by cases b; rfl; exact absurd q (by decide)))
end VS
/-- a row of a method's code, by its place -/
abbrev Ct : Type := List (Nat × Instr × Nat)
def CtOk (b : ByteArray) (t : Ct) : Prop := ∀ e ∈ t, decode b e.1 = .ok (e.2.1, e.2.2)
theorem CtOk.at {b : ByteArray} {t : Ct} (h : CtOk b t) (j : Nat) {pc n : Nat} {i : Instr} (hj : t[j]? = some (pc, i, n)) : decode b pc = .ok (i, n) := h (pc, i, n) (List.mem_of_getElem? hj)
theorem tb1 {w : Cond} (i : Nat) (h : tables_1[i]? = some w) (hg : goodWord w = true) : w ∈ TSg := tsg1 (List.mem_of_getElem? h) hg
theorem tj1 {w : Cond} (i : Nat) (h : tables_1_1[i]? = some w) (hg : goodWord w = true) : w ∈ TSg := tsg1 (List.mem_append_left _ (List.mem_of_getElem? h)) hg
theorem tj2 {w : Cond} (i : Nat) (h : tables_1_2[i]? = some w) (hg : goodWord w = true) : w ∈ TSg := tsg1 (List.mem_append_right _ (List.mem_append_left _ (List.mem_of_getElem? h))) hg
theorem tj3 {w : Cond} (i : Nat) (h : tables_1_3[i]? = some w) (hg : goodWord w = true) : w ∈ TSg := tsg1 (List.mem_append_right _ (List.mem_append_right _ (List.mem_append_left _ (List.mem_of_getElem? h)))) hg
theorem tj4 {w : Cond} (i : Nat) (h : tables_1_4[i]? = some w) (hg : goodWord w = true) : w ∈ TSg := tsg1 (List.mem_append_right _ (List.mem_append_right _ (List.mem_append_right _ (List.mem_append_left _ (List.mem_of_getElem? h))))) hg
theorem tj5 {w : Cond} (i : Nat) (h : tables_1_5[i]? = some w) (hg : goodWord w = true) : w ∈ TSg := tsg1 (List.mem_append_right _ (List.mem_append_right _ (List.mem_append_right _ (List.mem_append_right _ (List.mem_append_left _ (List.mem_of_getElem? h)))))) hg
theorem tj6 {w : Cond} (i : Nat) (h : tables_1_6[i]? = some w) (hg : goodWord w = true) : w ∈ TSg := tsg1 (List.mem_append_right _ (List.mem_append_right _ (List.mem_append_right _ (List.mem_append_right _ (List.mem_append_right _ (List.mem_append_left _ (List.mem_of_getElem? h))))))) hg
theorem tj7 {w : Cond} (i : Nat) (h : tables_1_7[i]? = some w) (hg : goodWord w = true) : w ∈ TSg := tsg1 (List.mem_append_right _ (List.mem_append_right _ (List.mem_append_right _ (List.mem_append_right _ (List.mem_append_right _ (List.mem_append_right _ (List.mem_append_left _ (List.mem_of_getElem? h)))))))) hg
theorem tj8 {w : Cond} (i : Nat) (h : tables_1_8[i]? = some w) (hg : goodWord w = true) : w ∈ TSg := tsg1 (List.mem_append_right _ (List.mem_append_right _ (List.mem_append_right _ (List.mem_append_right _ (List.mem_append_right _ (List.mem_append_right _ (List.mem_append_right _ (List.mem_of_getElem? h)))))))) hg
theorem tb0 {w : Cond} (i : Nat) (h : (k2_sels lw_privs)[i]? = some w) (hg : goodWord w = true) : w ∈ TSg := tsg (List.mem_append_left _ (List.mem_of_getElem? h)) hg
