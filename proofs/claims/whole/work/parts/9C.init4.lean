/-! ===== constructors 4: the analyzer ===== -/
theorem mk_fr {h h1 : Hp} {N n : Nat} {o0 o1 : PE} {cs : List PE} (p : h1 = hu (mkL (hu h N o0) (N + 1) cs) N o1) (hn : cs.length = n) : ∀ j, (j < N ∨ N + n < j) → h1 j = h j := fun j hj => by
  rw [p, hu_n _ _ (by omega), mkL_lo _ _ _ _ (by omega), hu_n _ _ (by omega)]
theorem mk_at {h h1 : Hp} {N : Nat} {o0 o1 : PE} {cs : List PE} (p : h1 = hu (mkL (hu h N o0) (N + 1) cs) N o1) (i : Nat) {c : PE} (hc : cs[i]? = some c) : h1 (N + 1 + i) = c := by
  rw [p, hu_n _ _ (by omega)]
  exact mkL_at _ _ _ _ _ hc
theorem mk_ob {h h1 : Hp} {N : Nat} {o0 o1 : PE} {cs : List PE} (p : h1 = hu (mkL (hu h N o0) (N + 1) cs) N o1) : h1 N = o1 := by rw [p, hu_s]
theorem ini0 {h h1 h2 : Hp} {N : Nat} {o0 : PE} (hN : 0 < N) (p : h1 = hu (mkL (hu h N o0) (N + 1) [io 40 (fun _ => 0), io 40 (fun _ => 0), io 40 (fun _ => 0), io 40 (fun _ => 0), io 4 (fun _ => 0)]) N (.inr (0, [.int (nI 0), .int (nI 0), .int (-1), .ref (N + 1), .ref (N + 2), .int 0, .ref (N + 3), .int 0, .ref (N + 4), .ref (N + 5)]))) (e : ∀ j, j ≠ 0 → h2 j = h1 j) : (∃ c t, FmOK h2 N 0 0 (-1) c t (fun _ => 0)) ∧ ∀ j, j ≠ 0 → (j < N ∨ N + 5 < j) → h2 j = h j := by
  exact ⟨⟨[], [], fun _ => 0, fun _ => 0, fun _ => 0, fun _ => 0, fun _ => 0, ((e _ (by omega)).trans (mk_ob p)), ((e _ (by omega)).trans (mk_at p 0 rfl)), fun i hi => absurd hi (Nat.not_lt_zero i), ((e _ (by omega)).trans (mk_at p 1 rfl)), fun i hi => absurd hi (Nat.not_lt_zero i), fun x hx => by simp at hx, ((e _ (by omega)).trans (mk_at p 2 rfl)), fun i hi => absurd hi (Nat.not_lt_zero i), fun x hx => by simp at hx, ((e _ (by omega)).trans (mk_at p 3 rfl)), ((e _ (by omega)).trans (mk_at p 4 rfl))⟩, fun j h0 hj => (e j h0).trans (mk_fr p rfl j hj)⟩
theorem ini1 {h h1 h2 : Hp} {N : Nat} {o0 : PE} (hN : 0 < N) (p : h1 = hu (mkL (hu h N o0) (N + 1) [io 17 (fun _ => 0), io 6561 (fun _ => 0)]) N (.inr (1, [.int 0, .int 0, .ref (N + 1), .ref (N + 2)]))) (e : ∀ j, j ≠ 0 → h2 j = h1 j) : (ImOK h2 N) ∧ ∀ j, j ≠ 0 → (j < N ∨ N + 2 < j) → h2 j = h j := by
  exact ⟨⟨0, 0, fun _ => 0, fun _ => 0, ((e _ (by omega)).trans (mk_ob p)), ((e _ (by omega)).trans (mk_at p 0 rfl)), ((e _ (by omega)).trans (mk_at p 1 rfl))⟩, fun j h0 hj => (e j h0).trans (mk_fr p rfl j hj)⟩
theorem ini2 {h h1 h2 : Hp} {N : Nat} {o0 : PE} (hN : 0 < N) (p : h1 = hu (mkL (hu h N o0) (N + 1) [io 2187 (fun _ => 0), io 243 (fun _ => 0)]) N (.inr (2, [.int 0, .int 0, .ref (N + 1), .ref (N + 2)]))) (e : ∀ j, j ≠ 0 → h2 j = h1 j) : (∃ a b g f, IsOK h2 N a b g f) ∧ ∀ j, j ≠ 0 → (j < N ∨ N + 2 < j) → h2 j = h j := by
  exact ⟨⟨0, 0, fun _ => 0, fun _ => 0, ((e _ (by omega)).trans (mk_ob p)), ((e _ (by omega)).trans (mk_at p 0 rfl)), ((e _ (by omega)).trans (mk_at p 1 rfl))⟩, fun j h0 hj => (e j h0).trans (mk_fr p rfl j hj)⟩
theorem ini3 {h h1 h2 : Hp} {N : Nat} {o0 : PE} (hN : 0 < N) (p : h1 = hu (mkL (hu h N o0) (N + 1) [jo 45 (fun _ => 0)]) N (.inr (3, [.ref (N + 1)]))) (e : ∀ j, j ≠ 0 → h2 j = h1 j) : (PrOK h2 N) ∧ ∀ j, j ≠ 0 → (j < N ∨ N + 1 < j) → h2 j = h j := by
  exact ⟨⟨((e _ (by omega)).trans (mk_ob p)), fun _ => 0, ((e _ (by omega)).trans (mk_at p 0 rfl))⟩, fun j h0 hj => (e j h0).trans (mk_fr p rfl j hj)⟩
theorem ini5 {h h1 h2 : Hp} {N : Nat} {o0 : PE} (hN : 0 < N) (p : h1 = hu (mkL (hu h N o0) (N + 1) [io 4 (fun _ => 0), io 4 (fun _ => 0)]) N (.inr (5, [.ref (N + 1), .ref (N + 2)]))) (e : ∀ j, j ≠ 0 → h2 j = h1 j) : (RegOK h2 N (fun _ => 0) (fun _ => 0)) ∧ ∀ j, j ≠ 0 → (j < N ∨ N + 2 < j) → h2 j = h j := by
  exact ⟨⟨fun _ => 0, fun _ => 0, ((e _ (by omega)).trans (mk_ob p)), ((e _ (by omega)).trans (mk_at p 0 rfl)), fun _ _ => rfl, ((e _ (by omega)).trans (mk_at p 1 rfl)), fun _ _ => rfl⟩, fun j h0 hj => (e j h0).trans (mk_fr p rfl j hj)⟩
theorem ini7 {h h1 h2 : Hp} {N : Nat} {o0 : PE} (hN : 0 < N) (p : h1 = hu (mkL (hu h N o0) (N + 1) [io 512 (fun _ => 0), io 512 (fun _ => 0), io 512 (fun _ => 0), io 512 (fun _ => 0), io 1536 (fun _ => 0), io 27 (fun _ => 0), io 512 (fun _ => 0), io 512 (fun _ => 0)]) N (.inr (7, [.int (nI 0), .ref (N + 1), .ref (N + 2), .ref (N + 3), .ref (N + 4), .ref (N + 5), .ref (N + 6), .ref (N + 7), .ref (N + 8)]))) (e : ∀ j, j ≠ 0 → h2 j = h1 j) : (∃ n A, SaOK h2 N n A) ∧ ∀ j, j ≠ 0 → (j < N ∨ N + 8 < j) → h2 j = h j := by
  refine ⟨⟨0, fun _ _ => 0, ((e _ (by omega)).trans (mk_ob p)), fun i h1 h8 => ?_⟩, fun j h0 hj => (e j h0).trans (mk_fr p rfl j hj)⟩
  match i, h1, h8 with
  | 1, _, _ => exact ((e _ (by omega)).trans (mk_at p 0 rfl))
  | 2, _, _ => exact ((e _ (by omega)).trans (mk_at p 1 rfl))
  | 3, _, _ => exact ((e _ (by omega)).trans (mk_at p 2 rfl))
  | 4, _, _ => exact ((e _ (by omega)).trans (mk_at p 3 rfl))
  | 5, _, _ => exact ((e _ (by omega)).trans (mk_at p 4 rfl))
  | 6, _, _ => exact ((e _ (by omega)).trans (mk_at p 5 rfl))
  | 7, _, _ => exact ((e _ (by omega)).trans (mk_at p 6 rfl))
  | 8, _, _ => exact ((e _ (by omega)).trans (mk_at p 7 rfl))
  | i + 9, _, h => exact absurd h (by omega)
theorem ini4 {h h1 h2 : Hp} {N : Nat} {o0 : PE} (hN : 0 < N) (p : h1 = hu (hrows (hu (hu h N o0) (N + 1) (io 14 (fun _ => 0))) (N + 2)) N (.inr (4, [.int 0, .int 0, .int 0, .ref (N + 1), .ref (N + 2)]))) (e : ∀ j, j ≠ 0 → h2 j = h1 j) : (∃ a b n lf Wf, PaOK h2 N a b n lf Wf) ∧ ∀ j, j ≠ 0 → (j < N ∨ N + 17 < j) → h2 j = h j := by
  have hr : ∀ j, j ≠ N → h1 j = (if j = N + 2 then ao 15 (fun i => if i < 15 then some (N + 2 + 1 + i) else none) else if N + 2 < j ∧ j < N + 2 + 16 then io 9 (fun _ => 0) else hu (hu h N o0) (N + 1) (io 14 (fun _ => 0)) j) := fun j hj => by rw [p, hu_n _ _ hj]; rfl
  refine ⟨⟨0, 0, 0, fun _ => 0, fun _ _ => 0, (e _ (by omega)).trans (by rw [p, hu_s]; rfl), (e _ (by omega)).trans ?_, (e _ (by omega)).trans ?_, fun i hi => (e _ (by omega)).trans ?_⟩, fun j h0 hj => (e j h0).trans ?_⟩
  · rw [hr _ (by omega), if_neg (by omega), if_neg (by omega), hu_s]
  · rw [hr _ (by omega), if_pos rfl]; rfl
  · rw [hr _ (by omega), if_neg (by omega), if_pos (by omega)]
  · rw [hr _ (by omega), if_neg (by omega), if_neg (by omega), hu_n _ _ (by omega), hu_n _ _ (by omega)]
theorem ini6 {h h1 h2 : Hp} {N : Nat} {o0 : PE} (hN : 0 < N) (p : RuleOK h1 N 2 3 (fun _ => 0) ∧ ∀ j, (j < N ∨ N + 5 < j) → h1 j = hu h N o0 j) (e : ∀ j, j ≠ 0 → h2 j = h1 j) : (RuleOK h2 N 2 3 (fun _ => 0)) ∧ ∀ j, j ≠ 0 → (j < N ∨ N + 5 < j) → h2 j = h j :=
  ⟨p.1.eq (fun j _ _ => e j (by omega)), fun j h0 hj => (e j h0).trans ((p.2 j hj).trans (hu_n _ _ (by omega)))⟩
section VS
variable {X : CT} {μ : Mi} {tab : List ExceptionTableEntry} {d : Nat} {zR : Nat × Nat} {o : Oc} {P : Wt → Hp → Prop} {z : Nat × Nat} {w : Wt} {h : Hp} {pc : Nat}
/-- a part of the analyzer: made, built, kept in a final field -/
theorem v_sub (C : Cx X μ tab d zR o P) {ix1 ix2 ix3 ci kf N n nf d' : Nat} {C1 : String} {T : u_T} {fs fs8 : List Value} {ty : FieldType} {μ' : Mi} {z' : Nat × Nat} {P' : Hp → Prop} {Q : Hp → Prop} (hd1 : decode μ.2.1 pc = .ok (.new ix1, 3)) (hd2 : decode μ.2.1 (pc + 3) = .ok (.dup, 1)) (hd3 : decode μ.2.1 (pc + 3 + 1) = .ok (.invokespecial ix2, 3)) (hd4 : decode μ.2.1 (pc + 3 + 1 + 3) = .ok (.putfield ix3, 3)) (hc : cls10[ci]? = some (C1, T, nf)) (h1 : Cond.classLink μ.1.cls ix1 C1 ∈ TSg) (h2 : Cond.instantiable C1 nf ∈ TSg) (h3 : Cond.initialized C1 ∈ TSg) (hfs : ∀ j, j < nf → defaultValue (tyC ci j) = vp_V fs j) (hnr : ∀ v ∈ fs, ∀ a, v ≠ .ref a) (hM : MK μ') (hMi : μ'.1.name = "<init>" ∧ Cond.instanceMethod μ'.1 ∈ TSg ∧ μ'.2.2.2.1 = none ∧ μ'.2.2.2.2 = 0) (hml : Cond.methodLink μ.1.cls ix2 μ'.1 ∈ TSg) (hN : w.2 = N) (h0 : 0 < N) (hcon : ∀ w1 : Wt, w1.2 = N + 1 → Con μ' d' z' w1 [.ref N] (hu h N (.inr (ci, fs))) (.inl none) (fun w' h' => WX w1 w' n ∧ P' h')) (hdd : Nat.blt d' d = true) (hz : z.1 + 1 + z'.1 ≤ zR.1 ∧ z.2 + nf + z'.2 ≤ zR.2) (hLn : μ.2.2.1 = 1) (hF : FLk μ.1.cls ix3 8 kf) (hT : FPt 8 kf ty true) (hin : μ.1.name = "<init>") (hdecl : ∀ C1 T N, cls10[8]? = some (C1, T, N) → (T kf).1 = μ.1.cls) (h80 : h 0 = .inr (8, fs8)) (hn : ∀ ad, narrow ty (cv ad (.ref N)) = cv ad (.ref N)) (hf : ∀ ad, fits ty (cv ad (.ref N)) = true) (hl : Nat.blt kf fs8.length = true) (hfr : ∀ h1, P' h1 → h1 0 = h 0) (hQ : ∀ h1 h2, P' h1 → (∀ j, j ≠ 0 → h2 j = h1 j) → Q h2)
    (k : ∀ w' h2, WX w w' (1 + n) → h2 0 = .inr (8, fs8.set kf (.ref N)) → Q h2 → V X (z.1 + 1 + z'.1, z.2 + nf + z'.2) w' h2 (pc + 3 + 1 + 3 + 3) [some (.ref 0)] []) : V X z w h pc [some (.ref 0)] [.ref 0] := by
  subst hN
  refine v_newO C hd1 hc h1 h2 h3 hfs hnr ⟨by omega, by omega⟩ (fun v hv => ?_) (fun v hv => ?_) (fun a => ?_)
  · simp at hv; subst hv; exact Nat.ne_of_lt h0
  · simp at hv; subst hv; exact Nat.ne_of_lt h0
  refine v_dup C hd2 rfl ?_
  have hx := wx_WX w a
  refine v_callI C hd3 hM hMi hml (hcon (wx w a) rfl) hdd hz rfl hLn.symm (fun v hv => ?_) (fun v hv => ?_) (fun w' h' x' p' => ?_)
  · simp at hv; subst hv; exact .inl (show 0 < w.2 + 1 by omega)
  · simp at hv
    rcases hv with hv | hv <;> subst hv
    · exact .inl (show w.2 < w.2 + 1 by omega)
    · exact .inl (show 0 < w.2 + 1 by omega)
  have hx2 := hx.tr x'
  refine v_putF C hd4 hF hT hin hdecl ((hfr _ p').trans h80) hn hf (by show w.2 < w'.2; have := hx2.1; omega) hl ?_
  exact k w' _ hx2 (hu_s _ _ _) (hQ _ _ p' (fun j hj => hu_n _ _ hj))
end VS
def mX8_init : Mi := (yX8_init, cX8_init, 1, none, 0)
def tX8_init : Ct := [(0, .aload_n 0, 1), (1, .invokespecial 1, 3), (4, .aload_n 0, 1), (5, .new 7, 3), (8, .dup, 1), (9, .invokespecial 9, 3), (12, .putfield 10, 3), (15, .aload_n 0, 1), (16, .new 7, 3), (19, .dup, 1), (20, .invokespecial 9, 3), (23, .putfield 16, 3), (26, .aload_n 0, 1), (27, .new 19, 3), (30, .dup, 1), (31, .invokespecial 21, 3), (34, .putfield 22, 3), (37, .aload_n 0, 1), (38, .new 19, 3), (41, .dup, 1), (42, .invokespecial 21, 3), (45, .putfield 26, 3), (48, .aload_n 0, 1), (49, .iconst 0, 1), (50, .putfield 29, 3), (53, .aload_n 0, 1), (54, .new 33, 3), (57, .dup, 1), (58, .invokespecial 35, 3), (61, .putfield 36, 3), (64, .aload_n 0, 1), (65, .new 40, 3), (68, .dup, 1), (69, .invokespecial 42, 3), (72, .putfield 43, 3), (75, .aload_n 0, 1), (76, .new 47, 3), (79, .dup, 1), (80, .invokespecial 49, 3), (83, .putfield 50, 3), (86, .aload_n 0, 1), (87, .new 54, 3), (90, .dup, 1), (91, .invokespecial 56, 3), (94, .putfield 57, 3), (97, .aload_n 0, 1), (98, .new 61, 3), (101, .dup, 1), (102, .invokespecial 63, 3), (105, .putfield 64, 3), (108, .aload_n 0, 1), (109, .new 68, 3), (112, .dup, 1), (113, .invokespecial 70, 3), (116, .putfield 71, 3), (119, .aload_n 0, 1), (120, .bipush 27, 2), (122, .newarray .int, 2), (124, .putfield 75, 3), (127, .aload_n 0, 1), (128, .bipush 27, 2), (130, .newarray .int, 2), (132, .putfield 79, 3), (135, .return_, 1)]
set_option maxRecDepth 20000 in
theorem oX8_init : CtOk mX8_init.2.1 tX8_init := by unfold CtOk; decide +kernel
set_option maxRecDepth 20000 in
theorem kX8_init : MK mX8_init := ⟨tj1 36 (by rfl) rfl, tj1 1 (by rfl) rfl, by decide +kernel, by decide +kernel, by decide +kernel⟩
theorem iX8_init : mX8_init.1.name = "<init>" ∧ Cond.instanceMethod mX8_init.1 ∈ TSg ∧ mX8_init.2.2.2.1 = none ∧ mX8_init.2.2.2.2 = 0 := ⟨rfl, tj1 35 (by rfl) rfl, rfl, rfl⟩
theorem q8_0 : FPt 8 0 (.object "PreimageAnalyzer$Rule") true := ⟨_, _, _, rfl, by decide +kernel, rfl⟩
theorem q8_1 : FPt 8 1 (.object "PreimageAnalyzer$Rule") true := ⟨_, _, _, rfl, by decide +kernel, rfl⟩
theorem q8_2 : FPt 8 2 (.object "PreimageAnalyzer$Registers") true := ⟨_, _, _, rfl, by decide +kernel, rfl⟩
theorem q8_3 : FPt 8 3 (.object "PreimageAnalyzer$Registers") true := ⟨_, _, _, rfl, by decide +kernel, rfl⟩
theorem q8_5 : FPt 8 5 (.object "PreimageAnalyzer$Formula") true := ⟨_, _, _, rfl, by decide +kernel, rfl⟩
theorem q8_6 : FPt 8 6 (.object "PreimageAnalyzer$Images") true := ⟨_, _, _, rfl, by decide +kernel, rfl⟩
theorem q8_7 : FPt 8 7 (.object "PreimageAnalyzer$Paths") true := ⟨_, _, _, rfl, by decide +kernel, rfl⟩
theorem q8_8 : FPt 8 8 (.object "PreimageAnalyzer$SubsetAutomaton") true := ⟨_, _, _, rfl, by decide +kernel, rfl⟩
theorem q8_9 : FPt 8 9 (.object "PreimageAnalyzer$NodePairs") true := ⟨_, _, _, rfl, by decide +kernel, rfl⟩
theorem q8_10 : FPt 8 10 (.object "PreimageAnalyzer$InverseSearch") true := ⟨_, _, _, rfl, by decide +kernel, rfl⟩
theorem q8_11 : FPt 8 11 (.array .int) true := ⟨_, _, _, rfl, by decide +kernel, rfl⟩
theorem q8_12 : FPt 8 12 (.array .int) true := ⟨_, _, _, rfl, by decide +kernel, rfl⟩
def dv8 : List Value := [.null, .null, .null, .null, .int 0, .null, .null, .null, .null, .null, .null, .null, .null]
theorem df0 : ∀ j, j < 10 → defaultValue (tyC 0 j) = vp_V dv0 j
  | 0, _ => by decide +kernel
  | 1, _ => by decide +kernel
  | 2, _ => by decide +kernel
  | 3, _ => by decide +kernel
  | 4, _ => by decide +kernel
  | 5, _ => by decide +kernel
  | 6, _ => by decide +kernel
  | 7, _ => by decide +kernel
  | 8, _ => by decide +kernel
  | 9, _ => by decide +kernel
  | j + 10, h => absurd h (by omega)
theorem dr0 : ∀ v ∈ dv0, ∀ a, v ≠ .ref a := by intro v hv a e; subst e; simp [dv0] at hv
theorem df1 : ∀ j, j < 4 → defaultValue (tyC 1 j) = vp_V dv1 j
  | 0, _ => by decide +kernel
  | 1, _ => by decide +kernel
  | 2, _ => by decide +kernel
  | 3, _ => by decide +kernel
  | j + 4, h => absurd h (by omega)
theorem dr1 : ∀ v ∈ dv1, ∀ a, v ≠ .ref a := by intro v hv a e; subst e; simp [dv1] at hv
theorem df2 : ∀ j, j < 4 → defaultValue (tyC 2 j) = vp_V dv2 j
  | 0, _ => by decide +kernel
  | 1, _ => by decide +kernel
  | 2, _ => by decide +kernel
  | 3, _ => by decide +kernel
  | j + 4, h => absurd h (by omega)
theorem dr2 : ∀ v ∈ dv2, ∀ a, v ≠ .ref a := by intro v hv a e; subst e; simp [dv2] at hv
theorem df3 : ∀ j, j < 1 → defaultValue (tyC 3 j) = vp_V dv3 j
  | 0, _ => by decide +kernel
  | j + 1, h => absurd h (by omega)
theorem dr3 : ∀ v ∈ dv3, ∀ a, v ≠ .ref a := by intro v hv a e; subst e; simp [dv3] at hv
theorem df4 : ∀ j, j < 5 → defaultValue (tyC 4 j) = vp_V dv4 j
  | 0, _ => by decide +kernel
  | 1, _ => by decide +kernel
  | 2, _ => by decide +kernel
  | 3, _ => by decide +kernel
  | 4, _ => by decide +kernel
  | j + 5, h => absurd h (by omega)
theorem dr4 : ∀ v ∈ dv4, ∀ a, v ≠ .ref a := by intro v hv a e; subst e; simp [dv4] at hv
theorem df5 : ∀ j, j < 2 → defaultValue (tyC 5 j) = vp_V dv5 j
  | 0, _ => by decide +kernel
  | 1, _ => by decide +kernel
  | j + 2, h => absurd h (by omega)
theorem dr5 : ∀ v ∈ dv5, ∀ a, v ≠ .ref a := by intro v hv a e; subst e; simp [dv5] at hv
theorem df6 : ∀ j, j < 9 → defaultValue (tyC 6 j) = vp_V dv6 j
  | 0, _ => by decide +kernel
  | 1, _ => by decide +kernel
  | 2, _ => by decide +kernel
  | 3, _ => by decide +kernel
  | 4, _ => by decide +kernel
  | 5, _ => by decide +kernel
  | 6, _ => by decide +kernel
  | 7, _ => by decide +kernel
  | 8, _ => by decide +kernel
  | j + 9, h => absurd h (by omega)
theorem dr6 : ∀ v ∈ dv6, ∀ a, v ≠ .ref a := by intro v hv a e; subst e; simp [dv6] at hv
theorem df7 : ∀ j, j < 9 → defaultValue (tyC 7 j) = vp_V dv7 j
  | 0, _ => by decide +kernel
  | 1, _ => by decide +kernel
  | 2, _ => by decide +kernel
  | 3, _ => by decide +kernel
  | 4, _ => by decide +kernel
  | 5, _ => by decide +kernel
  | 6, _ => by decide +kernel
  | 7, _ => by decide +kernel
  | 8, _ => by decide +kernel
  | j + 9, h => absurd h (by omega)
theorem dr7 : ∀ v ∈ dv7, ∀ a, v ≠ .ref a := by intro v hv a e; subst e; simp [dv7] at hv
theorem k8_init {w : Wt} {h : Hp} (hw0 : w.2 = 1) (hq : h 0 = .inr (8, dv8)) : Con mX8_init 3 (61, 14317) w [.ref 0] h (.inl none) (fun w' h' => WX w w' 61 ∧ PA h h' (newS 2 3) false (newS 2 3) (0, 0, -1, fun _ => 0)) := by
  refine conI (by decide +kernel) ⟨fun _ => rfl, rfl, by simp⟩ (fun X C => ?_)
  change V X (0, 0) w h 0 [some (.ref 0)] []
  refine v_aload_n C (oX8_init.at 0 rfl) rfl ?_
  refine v_objI C (oX8_init.at 1 rfl) (tj1 37 (by rfl) rfl) rfl rfl ?_
  change V X (0, 0) w h 4 [some (.ref 0)] []
  obtain ⟨h0, g0⟩ : ∃ z, z = h := ⟨_, rfl⟩
  rw [← g0] at hq ⊢
  refine v_aload_n C (oX8_init.at 2 rfl) rfl ?_
  refine v_sub C (N := 1) (oX8_init.at 3 rfl) (oX8_init.at 4 rfl) (oX8_init.at 5 rfl) (oX8_init.at 6 rfl) (ci := 6) rfl (tj1 40 (by rfl) rfl) (tj1 41 (by rfl) rfl) (tj1 2 (by rfl) rfl) df6 dr6 kX6_init iX6_init (tj1 42 (by rfl) rfl) hw0 (by decide) (fun w1 hw1 => k6_init hw1 (hu_s _ _ _)) rfl ⟨by decide, by decide⟩ rfl fX8_10 q8_0 rfl (fun _ _ _ h => by cases h; rfl) hq (fun _ => rfl) (fun _ => rfl) rfl (fun h1 p => (p.2 0 (by decide)).trans (hu_n _ _ (by decide))) (fun h1 h2 p e => ini6 (by decide) p e) (fun w1 h1 x1 o1 q1 => ?_)
  obtain ⟨b1, r1⟩ := q1
  have hw1 : w1.2 = 7 := x1.1.trans (congrArg (· + 6) hw0)
  change h1 0 = .inr (8, [.ref 1, .null, .null, .null, .int 0, .null, .null, .null, .null, .null, .null, .null, .null]) at o1
  change V X (6, 97) w1 h1 15 [some (.ref 0)] []
  refine v_aload_n C (oX8_init.at 7 rfl) rfl ?_
  refine v_sub C (N := 7) (oX8_init.at 8 rfl) (oX8_init.at 9 rfl) (oX8_init.at 10 rfl) (oX8_init.at 11 rfl) (ci := 6) rfl (tj1 40 (by rfl) rfl) (tj1 41 (by rfl) rfl) (tj1 2 (by rfl) rfl) df6 dr6 kX6_init iX6_init (tj1 42 (by rfl) rfl) hw1 (by decide) (fun w1 hw1 => k6_init hw1 (hu_s _ _ _)) rfl ⟨by decide, by decide⟩ rfl fX8_16 q8_1 rfl (fun _ _ _ h => by cases h; rfl) o1 (fun _ => rfl) (fun _ => rfl) rfl (fun h1 p => (p.2 0 (by decide)).trans (hu_n _ _ (by decide))) (fun h1 h2 p e => ini6 (by decide) p e) (fun w2 h2 x2 o2 q2 => ?_)
  obtain ⟨b2, r2⟩ := q2
  have hw2 : w2.2 = 13 := x2.1.trans (congrArg (· + 6) hw1)
  change h2 0 = .inr (8, [.ref 1, .ref 7, .null, .null, .int 0, .null, .null, .null, .null, .null, .null, .null, .null]) at o2
  change V X (12, 194) w2 h2 26 [some (.ref 0)] []
  replace b1 := b1.eq (fun j _ _ => r2 j (by omega) (by omega))
  refine v_aload_n C (oX8_init.at 12 rfl) rfl ?_
  refine v_sub C (N := 13) (oX8_init.at 13 rfl) (oX8_init.at 14 rfl) (oX8_init.at 15 rfl) (oX8_init.at 16 rfl) (ci := 5) rfl (tj1 114 (by rfl) rfl) (tj1 115 (by rfl) rfl) (tj1 3 (by rfl) rfl) df5 dr5 kX5_init iX5_init (tj1 116 (by rfl) rfl) hw2 (by decide) (fun w1 hw1 => k5_init hw1 (hu_s _ _ _)) rfl ⟨by decide, by decide⟩ rfl fX8_22 q8_2 rfl (fun _ _ _ h => by cases h; rfl) o2 (fun _ => rfl) (fun _ => rfl) rfl (fun h1 p => mk_fr p rfl 0 (by decide)) (fun h1 h2 p e => ini5 (by decide) p e) (fun w3 h3 x3 o3 q3 => ?_)
  obtain ⟨b3, r3⟩ := q3
  have hw3 : w3.2 = 16 := x3.1.trans (congrArg (· + 3) hw2)
  change h3 0 = .inr (8, [.ref 1, .ref 7, .ref 13, .null, .int 0, .null, .null, .null, .null, .null, .null, .null, .null]) at o3
  change V X (15, 204) w3 h3 37 [some (.ref 0)] []
  replace b1 := b1.eq (fun j _ _ => r3 j (by omega) (by omega))
  replace b2 := b2.eq (fun j _ _ => r3 j (by omega) (by omega))
  refine v_aload_n C (oX8_init.at 17 rfl) rfl ?_
  refine v_sub C (N := 16) (oX8_init.at 18 rfl) (oX8_init.at 19 rfl) (oX8_init.at 20 rfl) (oX8_init.at 21 rfl) (ci := 5) rfl (tj1 114 (by rfl) rfl) (tj1 115 (by rfl) rfl) (tj1 3 (by rfl) rfl) df5 dr5 kX5_init iX5_init (tj1 116 (by rfl) rfl) hw3 (by decide) (fun w1 hw1 => k5_init hw1 (hu_s _ _ _)) rfl ⟨by decide, by decide⟩ rfl fX8_26 q8_3 rfl (fun _ _ _ h => by cases h; rfl) o3 (fun _ => rfl) (fun _ => rfl) rfl (fun h1 p => mk_fr p rfl 0 (by decide)) (fun h1 h2 p e => ini5 (by decide) p e) (fun w4 h4 x4 o4 q4 => ?_)
  obtain ⟨b4, r4⟩ := q4
  have hw4 : w4.2 = 19 := x4.1.trans (congrArg (· + 3) hw3)
  change h4 0 = .inr (8, [.ref 1, .ref 7, .ref 13, .ref 16, .int 0, .null, .null, .null, .null, .null, .null, .null, .null]) at o4
  change V X (18, 214) w4 h4 48 [some (.ref 0)] []
  replace b1 := b1.eq (fun j _ _ => r4 j (by omega) (by omega))
  replace b2 := b2.eq (fun j _ _ => r4 j (by omega) (by omega))
  replace b3 := b3.eq (fun j _ _ => r4 j (by omega) (by omega))
  refine v_aload_n C (oX8_init.at 22 rfl) rfl ?_
  refine v_iconst C (oX8_init.at 23 rfl) (v := bI false) rfl ?_
  refine v_putZ C (oX8_init.at 24 rfl) fX8_29 p8_4 o4 rfl ?_
  obtain ⟨h5, gz⟩ : ∃ z, z = hu h4 0 (.inr (8, [.ref 1, .ref 7, .ref 13, .ref 16, .int (bI false), .null, .null, .null, .null, .null, .null, .null, .null])) := ⟨_, rfl⟩
  change V X (18, 214) w4 (hu h4 0 (.inr (8, [.ref 1, .ref 7, .ref 13, .ref 16, .int (bI false), .null, .null, .null, .null, .null, .null, .null, .null]))) 53 [some (.ref 0)] []
  rw [← gz]
  have o5 : h5 0 = .inr (8, [.ref 1, .ref 7, .ref 13, .ref 16, .int (bI false), .null, .null, .null, .null, .null, .null, .null, .null]) := by rw [gz, hu_s]
  have r5 : ∀ j, j ≠ 0 → h5 j = h4 j := fun j hj => by rw [gz, hu_n _ _ hj]
  replace b1 := b1.eq (fun j _ _ => r5 j (by omega))
  replace b2 := b2.eq (fun j _ _ => r5 j (by omega))
  replace b3 := b3.eq (fun j _ _ => r5 j (by omega))
  replace b4 := b4.eq (fun j _ _ => r5 j (by omega))
  obtain ⟨w5, gw⟩ : ∃ z, z = w4 := ⟨_, rfl⟩
  have x5 : WX w4 w5 0 := by rw [gw]; exact WX.z _
  rw [← gw]
  have hw5 : w5.2 = 19 := by rw [gw]; exact hw4
  refine v_aload_n C (oX8_init.at 25 rfl) rfl ?_
  refine v_sub C (N := 19) (oX8_init.at 26 rfl) (oX8_init.at 27 rfl) (oX8_init.at 28 rfl) (oX8_init.at 29 rfl) (ci := 0) rfl (tj1 129 (by rfl) rfl) (tj1 130 (by rfl) rfl) (tj1 4 (by rfl) rfl) df0 dr0 kX0_init iX0_init (tj1 131 (by rfl) rfl) hw5 (by decide) (fun w1 hw1 => k0_init hw1 (hu_s _ _ _)) rfl ⟨by decide, by decide⟩ rfl fX8_36 q8_5 rfl (fun _ _ _ h => by cases h; rfl) o5 (fun _ => rfl) (fun _ => rfl) rfl (fun h1 p => mk_fr p rfl 0 (by decide)) (fun h1 h2 p e => ini0 (by decide) p e) (fun w6 h6 x6 o6 q6 => ?_)
  obtain ⟨b6, r6⟩ := q6
  have hw6 : w6.2 = 25 := x6.1.trans (congrArg (· + 6) hw5)
  change h6 0 = .inr (8, [.ref 1, .ref 7, .ref 13, .ref 16, .int (bI false), .ref 19, .null, .null, .null, .null, .null, .null, .null]) at o6
  change V X (24, 388) w6 h6 64 [some (.ref 0)] []
  replace b1 := b1.eq (fun j _ _ => r6 j (by omega) (by omega))
  replace b2 := b2.eq (fun j _ _ => r6 j (by omega) (by omega))
  replace b3 := b3.eq (fun j _ _ => r6 j (by omega) (by omega))
  replace b4 := b4.eq (fun j _ _ => r6 j (by omega) (by omega))
  refine v_aload_n C (oX8_init.at 30 rfl) rfl ?_
  refine v_sub C (N := 25) (oX8_init.at 31 rfl) (oX8_init.at 32 rfl) (oX8_init.at 33 rfl) (oX8_init.at 34 rfl) (ci := 1) rfl (tj1 169 (by rfl) rfl) (tj1 170 (by rfl) rfl) (tj1 5 (by rfl) rfl) df1 dr1 kX1_init iX1_init (tj1 171 (by rfl) rfl) hw6 (by decide) (fun w1 hw1 => k1_init hw1 (hu_s _ _ _)) rfl ⟨by decide, by decide⟩ rfl fX8_43 q8_6 rfl (fun _ _ _ h => by cases h; rfl) o6 (fun _ => rfl) (fun _ => rfl) rfl (fun h1 p => mk_fr p rfl 0 (by decide)) (fun h1 h2 p e => ini1 (by decide) p e) (fun w7 h7 x7 o7 q7 => ?_)
  obtain ⟨b7, r7⟩ := q7
  have hw7 : w7.2 = 28 := x7.1.trans (congrArg (· + 3) hw6)
  change h7 0 = .inr (8, [.ref 1, .ref 7, .ref 13, .ref 16, .int (bI false), .ref 19, .ref 25, .null, .null, .null, .null, .null, .null]) at o7
  change V X (27, 6970) w7 h7 75 [some (.ref 0)] []
  replace b1 := b1.eq (fun j _ _ => r7 j (by omega) (by omega))
  replace b2 := b2.eq (fun j _ _ => r7 j (by omega) (by omega))
  replace b3 := b3.eq (fun j _ _ => r7 j (by omega) (by omega))
  replace b4 := b4.eq (fun j _ _ => r7 j (by omega) (by omega))
  replace b6 := b6.imp (fun _ => Exists.imp (fun _ q => q.eq (fun j _ _ => r7 j (by omega) (by omega))))
  refine v_aload_n C (oX8_init.at 35 rfl) rfl ?_
  refine v_sub C (N := 28) (oX8_init.at 36 rfl) (oX8_init.at 37 rfl) (oX8_init.at 38 rfl) (oX8_init.at 39 rfl) (ci := 4) rfl (tj1 190 (by rfl) rfl) (tj1 191 (by rfl) rfl) (tj1 6 (by rfl) rfl) df4 dr4 kX4_init iX4_init (tj1 192 (by rfl) rfl) hw7 (by decide) (fun w1 hw1 => k4_init hw1 (hu_s _ _ _)) rfl ⟨by decide, by decide⟩ rfl fX8_50 q8_7 rfl (fun _ _ _ h => by cases h; rfl) o7 (fun _ => rfl) (fun _ => rfl) rfl (fun h1 p => by rw [p, hu_n _ _ (by decide)]; rfl) (fun h1 h2 p e => ini4 (by decide) p e) (fun w8 h8 x8 o8 q8 => ?_)
  obtain ⟨b8, r8⟩ := q8
  have hw8 : w8.2 = 46 := x8.1.trans (congrArg (· + 18) hw7)
  change h8 0 = .inr (8, [.ref 1, .ref 7, .ref 13, .ref 16, .int (bI false), .ref 19, .ref 25, .ref 28, .null, .null, .null, .null, .null]) at o8
  change V X (45, 7139) w8 h8 86 [some (.ref 0)] []
  replace b1 := b1.eq (fun j _ _ => r8 j (by omega) (by omega))
  replace b2 := b2.eq (fun j _ _ => r8 j (by omega) (by omega))
  replace b3 := b3.eq (fun j _ _ => r8 j (by omega) (by omega))
  replace b4 := b4.eq (fun j _ _ => r8 j (by omega) (by omega))
  replace b6 := b6.imp (fun _ => Exists.imp (fun _ q => q.eq (fun j _ _ => r8 j (by omega) (by omega))))
  replace b7 := b7.eq (fun j _ _ => r8 j (by omega) (by omega))
  refine v_aload_n C (oX8_init.at 40 rfl) rfl ?_
  refine v_sub C (N := 46) (oX8_init.at 41 rfl) (oX8_init.at 42 rfl) (oX8_init.at 43 rfl) (oX8_init.at 44 rfl) (ci := 7) rfl (tj1 216 (by rfl) rfl) (tj1 217 (by rfl) rfl) (tj1 7 (by rfl) rfl) df7 dr7 kX7_init iX7_init (tj1 218 (by rfl) rfl) hw8 (by decide) (fun w1 hw1 => k7_init hw1 (hu_s _ _ _)) rfl ⟨by decide, by decide⟩ rfl fX8_57 q8_8 rfl (fun _ _ _ h => by cases h; rfl) o8 (fun _ => rfl) (fun _ => rfl) rfl (fun h1 p => mk_fr p rfl 0 (by decide)) (fun h1 h2 p e => ini7 (by decide) p e) (fun w9 h9 x9 o9 q9 => ?_)
  obtain ⟨b9, r9⟩ := q9
  have hw9 : w9.2 = 55 := x9.1.trans (congrArg (· + 9) hw8)
  change h9 0 = .inr (8, [.ref 1, .ref 7, .ref 13, .ref 16, .int (bI false), .ref 19, .ref 25, .ref 28, .ref 46, .null, .null, .null, .null]) at o9
  change V X (54, 11783) w9 h9 97 [some (.ref 0)] []
  replace b1 := b1.eq (fun j _ _ => r9 j (by omega) (by omega))
  replace b2 := b2.eq (fun j _ _ => r9 j (by omega) (by omega))
  replace b3 := b3.eq (fun j _ _ => r9 j (by omega) (by omega))
  replace b4 := b4.eq (fun j _ _ => r9 j (by omega) (by omega))
  replace b6 := b6.imp (fun _ => Exists.imp (fun _ q => q.eq (fun j _ _ => r9 j (by omega) (by omega))))
  replace b7 := b7.eq (fun j _ _ => r9 j (by omega) (by omega))
  replace b8 := b8.imp (fun _ => Exists.imp (fun _ => Exists.imp (fun _ => Exists.imp (fun _ => Exists.imp (fun _ q => q.eq (fun j _ _ => r9 j (by omega) (by omega)))))))
  refine v_aload_n C (oX8_init.at 45 rfl) rfl ?_
  refine v_sub C (N := 55) (oX8_init.at 46 rfl) (oX8_init.at 47 rfl) (oX8_init.at 48 rfl) (oX8_init.at 49 rfl) (ci := 3) rfl (tj2 11 (by rfl) rfl) (tj2 12 (by rfl) rfl) (tj1 8 (by rfl) rfl) df3 dr3 kX3_init iX3_init (tj2 13 (by rfl) rfl) hw9 (by decide) (fun w1 hw1 => k3_init hw1 (hu_s _ _ _)) rfl ⟨by decide, by decide⟩ rfl fX8_64 q8_9 rfl (fun _ _ _ h => by cases h; rfl) o9 (fun _ => rfl) (fun _ => rfl) rfl (fun h1 p => mk_fr p rfl 0 (by decide)) (fun h1 h2 p e => ini3 (by decide) p e) (fun w10 h10 x10 o10 q10 => ?_)
  obtain ⟨b10, r10⟩ := q10
  have hw10 : w10.2 = 57 := x10.1.trans (congrArg (· + 2) hw9)
  change h10 0 = .inr (8, [.ref 1, .ref 7, .ref 13, .ref 16, .int (bI false), .ref 19, .ref 25, .ref 28, .ref 46, .ref 55, .null, .null, .null]) at o10
  change V X (56, 11829) w10 h10 108 [some (.ref 0)] []
  replace b1 := b1.eq (fun j _ _ => r10 j (by omega) (by omega))
  replace b2 := b2.eq (fun j _ _ => r10 j (by omega) (by omega))
  replace b3 := b3.eq (fun j _ _ => r10 j (by omega) (by omega))
  replace b4 := b4.eq (fun j _ _ => r10 j (by omega) (by omega))
  replace b6 := b6.imp (fun _ => Exists.imp (fun _ q => q.eq (fun j _ _ => r10 j (by omega) (by omega))))
  replace b7 := b7.eq (fun j _ _ => r10 j (by omega) (by omega))
  replace b8 := b8.imp (fun _ => Exists.imp (fun _ => Exists.imp (fun _ => Exists.imp (fun _ => Exists.imp (fun _ q => q.eq (fun j _ _ => r10 j (by omega) (by omega)))))))
  replace b9 := b9.imp (fun _ => Exists.imp (fun _ q => q.eq (fun j _ _ => r10 j (by omega) (by omega))))
  refine v_aload_n C (oX8_init.at 50 rfl) rfl ?_
  refine v_sub C (N := 57) (oX8_init.at 51 rfl) (oX8_init.at 52 rfl) (oX8_init.at 53 rfl) (oX8_init.at 54 rfl) (ci := 2) rfl (tj2 22 (by rfl) rfl) (tj2 23 (by rfl) rfl) (tj1 9 (by rfl) rfl) df2 dr2 kX2_init iX2_init (tj2 24 (by rfl) rfl) hw10 (by decide) (fun w1 hw1 => k2_init hw1 (hu_s _ _ _)) rfl ⟨by decide, by decide⟩ rfl fX8_71 q8_10 rfl (fun _ _ _ h => by cases h; rfl) o10 (fun _ => rfl) (fun _ => rfl) rfl (fun h1 p => mk_fr p rfl 0 (by decide)) (fun h1 h2 p e => ini2 (by decide) p e) (fun w11 h11 x11 o11 q11 => ?_)
  obtain ⟨b11, r11⟩ := q11
  have hw11 : w11.2 = 60 := x11.1.trans (congrArg (· + 3) hw10)
  change h11 0 = .inr (8, [.ref 1, .ref 7, .ref 13, .ref 16, .int (bI false), .ref 19, .ref 25, .ref 28, .ref 46, .ref 55, .ref 57, .null, .null]) at o11
  change V X (59, 14263) w11 h11 119 [some (.ref 0)] []
  replace b1 := b1.eq (fun j _ _ => r11 j (by omega) (by omega))
  replace b2 := b2.eq (fun j _ _ => r11 j (by omega) (by omega))
  replace b3 := b3.eq (fun j _ _ => r11 j (by omega) (by omega))
  replace b4 := b4.eq (fun j _ _ => r11 j (by omega) (by omega))
  replace b6 := b6.imp (fun _ => Exists.imp (fun _ q => q.eq (fun j _ _ => r11 j (by omega) (by omega))))
  replace b7 := b7.eq (fun j _ _ => r11 j (by omega) (by omega))
  replace b8 := b8.imp (fun _ => Exists.imp (fun _ => Exists.imp (fun _ => Exists.imp (fun _ => Exists.imp (fun _ q => q.eq (fun j _ _ => r11 j (by omega) (by omega)))))))
  replace b9 := b9.imp (fun _ => Exists.imp (fun _ q => q.eq (fun j _ _ => r11 j (by omega) (by omega))))
  replace b10 := b10.eq (fun j _ _ => r11 j (by omega) (by omega))
  refine v_aload_n C (oX8_init.at 55 rfl) rfl ?_
  refine v_bipush C (oX8_init.at 56 rfl) (v := nI 27) rfl ?_
  rw [← hu_id h11 o11]
  refine v_mkI C (oX8_init.at 57 rfl) (oX8_init.at 58 rfl) fX8_75 q8_11 rfl (fun _ _ _ h => by cases h; rfl) hw11 (by decide) (by decide) ⟨by decide, by decide⟩ rfl (fun w12 x12 => ?_)
  have hw12 : w12.2 = 61 := x12.1.trans (congrArg (· + 1) hw11)
  obtain ⟨h12, gz12⟩ : ∃ z, z = hu (hu h11 60 (io 27 (fun _ => 0))) 0 (.inr (8, [.ref 1, .ref 7, .ref 13, .ref 16, .int (bI false), .ref 19, .ref 25, .ref 28, .ref 46, .ref 55, .ref 57, .ref 60, .null])) := ⟨_, rfl⟩
  change V X (60, 14290) w12 (hu (hu h11 60 (io 27 (fun _ => 0))) 0 (.inr (8, [.ref 1, .ref 7, .ref 13, .ref 16, .int (bI false), .ref 19, .ref 25, .ref 28, .ref 46, .ref 55, .ref 57, .ref 60, .null]))) 127 [some (.ref 0)] []
  rw [← gz12]
  have o12 : h12 0 = .inr (8, [.ref 1, .ref 7, .ref 13, .ref 16, .int (bI false), .ref 19, .ref 25, .ref 28, .ref 46, .ref 55, .ref 57, .ref 60, .null]) := by rw [gz12, hu_s]
  have b12 : h12 60 = io 27 (fun _ => 0) := by rw [gz12, hu_n _ _ (by decide), hu_s]
  have r12 : ∀ j, j ≠ 0 → (j < 60 ∨ 60 < j) → h12 j = h11 j := fun j hj h1 => by rw [gz12, hu_n _ _ hj, hu_n _ _ (by omega)]
  replace b1 := b1.eq (fun j _ _ => r12 j (by omega) (by omega))
  replace b2 := b2.eq (fun j _ _ => r12 j (by omega) (by omega))
  replace b3 := b3.eq (fun j _ _ => r12 j (by omega) (by omega))
  replace b4 := b4.eq (fun j _ _ => r12 j (by omega) (by omega))
  replace b6 := b6.imp (fun _ => Exists.imp (fun _ q => q.eq (fun j _ _ => r12 j (by omega) (by omega))))
  replace b7 := b7.eq (fun j _ _ => r12 j (by omega) (by omega))
  replace b8 := b8.imp (fun _ => Exists.imp (fun _ => Exists.imp (fun _ => Exists.imp (fun _ => Exists.imp (fun _ q => q.eq (fun j _ _ => r12 j (by omega) (by omega)))))))
  replace b9 := b9.imp (fun _ => Exists.imp (fun _ q => q.eq (fun j _ _ => r12 j (by omega) (by omega))))
  replace b10 := b10.eq (fun j _ _ => r12 j (by omega) (by omega))
  replace b11 := b11.imp (fun _ => Exists.imp (fun _ => Exists.imp (fun _ => Exists.imp (fun _ q => q.eq (fun j _ _ => r12 j (by omega) (by omega))))))
  refine v_aload_n C (oX8_init.at 59 rfl) rfl ?_
  refine v_bipush C (oX8_init.at 60 rfl) (v := nI 27) rfl ?_
  rw [← hu_id h12 o12]
  refine v_mkI C (oX8_init.at 61 rfl) (oX8_init.at 62 rfl) fX8_79 q8_12 rfl (fun _ _ _ h => by cases h; rfl) hw12 (by decide) (by decide) ⟨by decide, by decide⟩ rfl (fun w13 x13 => ?_)
  have hw13 : w13.2 = 62 := x13.1.trans (congrArg (· + 1) hw12)
  obtain ⟨h13, gz13⟩ : ∃ z, z = hu (hu h12 61 (io 27 (fun _ => 0))) 0 (.inr (8, [.ref 1, .ref 7, .ref 13, .ref 16, .int (bI false), .ref 19, .ref 25, .ref 28, .ref 46, .ref 55, .ref 57, .ref 60, .ref 61])) := ⟨_, rfl⟩
  change V X (61, 14317) w13 (hu (hu h12 61 (io 27 (fun _ => 0))) 0 (.inr (8, [.ref 1, .ref 7, .ref 13, .ref 16, .int (bI false), .ref 19, .ref 25, .ref 28, .ref 46, .ref 55, .ref 57, .ref 60, .ref 61]))) 135 [some (.ref 0)] []
  rw [← gz13]
  have o13 : h13 0 = .inr (8, [.ref 1, .ref 7, .ref 13, .ref 16, .int (bI false), .ref 19, .ref 25, .ref 28, .ref 46, .ref 55, .ref 57, .ref 60, .ref 61]) := by rw [gz13, hu_s]
  have b13 : h13 61 = io 27 (fun _ => 0) := by rw [gz13, hu_n _ _ (by decide), hu_s]
  have r13 : ∀ j, j ≠ 0 → (j < 61 ∨ 61 < j) → h13 j = h12 j := fun j hj h1 => by rw [gz13, hu_n _ _ hj, hu_n _ _ (by omega)]
  replace b1 := b1.eq (fun j _ _ => r13 j (by omega) (by omega))
  replace b2 := b2.eq (fun j _ _ => r13 j (by omega) (by omega))
  replace b3 := b3.eq (fun j _ _ => r13 j (by omega) (by omega))
  replace b4 := b4.eq (fun j _ _ => r13 j (by omega) (by omega))
  replace b6 := b6.imp (fun _ => Exists.imp (fun _ q => q.eq (fun j _ _ => r13 j (by omega) (by omega))))
  replace b7 := b7.eq (fun j _ _ => r13 j (by omega) (by omega))
  replace b8 := b8.imp (fun _ => Exists.imp (fun _ => Exists.imp (fun _ => Exists.imp (fun _ => Exists.imp (fun _ q => q.eq (fun j _ _ => r13 j (by omega) (by omega)))))))
  replace b9 := b9.imp (fun _ => Exists.imp (fun _ q => q.eq (fun j _ _ => r13 j (by omega) (by omega))))
  replace b10 := b10.eq (fun j _ _ => r13 j (by omega) (by omega))
  replace b11 := b11.imp (fun _ => Exists.imp (fun _ => Exists.imp (fun _ => Exists.imp (fun _ q => q.eq (fun j _ _ => r13 j (by omega) (by omega))))))
  replace b12 := (r13 60 (by decide) (by decide)).trans b12
  have top : ∀ j, 61 < j → h13 j = h0 j := fun j hj => by
    rw [r13 j (by omega) (by omega), r12 j (by omega) (by omega), r11 j (by omega) (by omega), r10 j (by omega) (by omega), r9 j (by omega) (by omega), r8 j (by omega) (by omega), r7 j (by omega) (by omega), r6 j (by omega) (by omega), r5 j (by omega), r4 j (by omega) (by omega), r3 j (by omega) (by omega), r2 j (by omega) (by omega), r1 j (by omega) (by omega)]
  exact v_vret C (oX8_init.at 63 rfl) rfl rfl ⟨by decide, by decide⟩ ⟨((((((((((((x1.tr x2).tr x3).tr x4).tr x5).tr x6).tr x7).tr x8).tr x9).tr x10).tr x11).tr x12).tr x13), o13, b1, b3, b2, b4, b6, b7, b8, b9, b10, b11, ⟨_, b12⟩, ⟨_, b13⟩, newS_ok (.inl ⟨rfl, by decide, by decide⟩), newS_ok (.inl ⟨rfl, by decide, by decide⟩), ⟨by decide, fun i hi => absurd hi (Nat.not_lt_zero i), by decide⟩, fun j hj => (top j hj).trans (congrFun g0 j)⟩
