/-! ===== the law's start: what the tables and the premises give ===== -/
theorem st_array {args : Array Value} {s : State} {ty : FieldType} (hne : ∀ C, ty ≠ .object C) (h : (Cond.arrayClass ty).before args s = true) : ∃ cA, ArrOfT s cA ty ∧ va_RA s cA ty := by
  obtain ⟨cA, kA, comp, h1, h2, h3⟩ := Cond.arrayClass_spec h
  refine ⟨cA, fun n z => ⟨fun k h => (by cases h), kA, h2, comp, h3⟩, ?_⟩
  cases ty with
  | object C => exact absurd rfl (hne C)
  | _ => exact h1
theorem st_rows {args : Array Value} {s : State} {ty : FieldType} (h : (Cond.arrayOver (.array ty)).before args s = true) : ∃ cA, ArrOfT s cA (.array ty) ∧ va_RA s cA (.array ty) := by
  obtain ⟨comp, cA, kA, -, h2, h3, h1⟩ := Cond.arrayOver_specA h
  exact ⟨cA, fun n z => ⟨fun k h => (by cases h), kA, h2, comp, h3⟩, h1⟩
theorem st_in {w : Cond} (i : Nat) (h : tables_1[i]? = some w) : w ∈ lw_tbl := List.mem_append_right _ (List.mem_of_getElem? h)
theorem st_known {args : Array Value} {s : State} (hts : ∀ w ∈ lw_tbl, w.before args s = true) : ∃ G : GG, va_K G.1 cls10 (tysD G) s := by
  have htg : ∀ w ∈ TSg, w.before args s = true := fun w hw => hts w (List.mem_filter.mp hw).1
  obtain ⟨c0, i0, k0⟩ := u_known (C := RX0) (T := TX0) (N := 10) (n := 10) htg inX0 (hts _ (st_in 130 (by decide +kernel)))
  obtain ⟨c1, i1, k1⟩ := u_known (C := RX1) (T := TX1) (N := 4) (n := 4) htg inX1 (hts _ (st_in 170 (by decide +kernel)))
  obtain ⟨c2, i2, k2⟩ := u_known (C := RX2) (T := TX2) (N := 4) (n := 4) htg inX2 (hts _ (st_in 263 (by decide +kernel)))
  obtain ⟨c3, i3, k3⟩ := u_known (C := RX3) (T := TX3) (N := 1) (n := 1) htg inX3 (hts _ (st_in 252 (by decide +kernel)))
  obtain ⟨c4, i4, k4⟩ := u_known (C := RX4) (T := TX4) (N := 5) (n := 5) htg inX4 (hts _ (st_in 191 (by decide +kernel)))
  obtain ⟨c5, i5, k5⟩ := u_known (C := RX5) (T := TX5) (N := 2) (n := 2) htg inX5 (hts _ (st_in 115 (by decide +kernel)))
  obtain ⟨c6, i6, k6⟩ := u_known (C := RX6) (T := TX6) (N := 9) (n := 9) htg inX6 (hts _ (st_in 41 (by decide +kernel)))
  obtain ⟨c7, i7, k7⟩ := u_known (C := RX7) (T := TX7) (N := 9) (n := 9) htg inX7 (hts _ (st_in 217 (by decide +kernel)))
  obtain ⟨c8, i8, k8⟩ := u_known (C := RX8) (T := TX8) (N := 13) (n := 13) htg inX8 (hts _ (st_in 33 (by decide +kernel)))
  obtain ⟨c9, i9, k9⟩ := u_known (C := RX9) (T := TX9) (N := 42) (n := 42) htg inX9 (hts _ (st_in 1344 (by decide +kernel)))
  obtain ⟨a0, h0⟩ := st_array (ty := .int) (fun C h => by cases h) (hts _ (st_in 113 (by decide +kernel)))
  obtain ⟨a1, h1⟩ := st_array (ty := .boolean) (fun C h => by cases h) (hts _ (st_in 1476 (by decide +kernel)))
  obtain ⟨a2, h2⟩ := st_array (ty := .long) (fun C h => by cases h) (hts _ (st_in 261 (by decide +kernel)))
  obtain ⟨a3, h3⟩ := st_rows (ty := .int) (hts _ (st_in 197 (by decide +kernel)))
  refine ⟨((fun k => [c0, c1, c2, c3, c4, c5, c6, c7, c8, c9].getD k c0, fun k => [i0, i1, i2, i3, i4, i5, i6, i7, i8, i9].getD k i0), fun k => [a0, a1, a2, a3].getD k a0), fun k q hq => ?_, fun k q hq => ?_⟩
  · match k, hq with
    | 0, hq => cases hq; exact k0
    | 1, hq => cases hq; exact k1
    | 2, hq => cases hq; exact k2
    | 3, hq => cases hq; exact k3
    | 4, hq => cases hq; exact k4
    | 5, hq => cases hq; exact k5
    | 6, hq => cases hq; exact k6
    | 7, hq => cases hq; exact k7
    | 8, hq => cases hq; exact k8
    | 9, hq => cases hq; exact k9
    | k + 10, hq => simp at hq
  · match k, hq with
    | 0, hq => cases hq; exact h0
    | 1, hq => cases hq; exact h1
    | 2, hq => cases hq; exact h2
    | 3, hq => cases hq; exact h3
    | k + 4, hq => simp at hq
theorem st_std {args : Array Value} {s : State} (hts : ∀ w ∈ lw_tbl, w.before args s = true) (hgv : (Jvm.Cond.and given_1 narrow_1).before args s = true) : StD s.heap.size s s.heap := by
  have hs := flat_of_before _ hgv
  have hi : (Cond.initialized Bundle.tN).before args s = true := hts _ (by decide +kernel)
  exact ⟨vx_Zqof (hts _ (st_in 471 (by decide +kernel))) hi (hs _ (by decide +kernel)) (fun a ha => Nat.not_le.mpr ha), vx_Zqof (hts _ (st_in 473 (by decide +kernel))) hi (hs _ (by decide +kernel)) (fun a ha => Nat.not_le.mpr ha)⟩
theorem st_text {args : Array Value} {s : State} {own tx : String} {k : Nat} (h : (Cond.stringRef own k tx).before args s = true) : ∃ a, vk_R own k tx a s := by
  cases hc : s.vm.findClass own with
  | none => simp [Cond.before, Cond.holds, Cond.value, hc] at h
  | some cur =>
    obtain ⟨-, -, -, a, -, -, -, -, -, hev⟩ := Cond.stringRef_spec hc h
    exact ⟨a, vk_R.of h hev⟩
theorem st_nc : ∀ q ∈ ncL, Cond.not (.castable q.1 q.2) ∈ flatC (Jvm.Cond.and given_1 narrow_1) := by decide +kernel
theorem st_exd {args : Array Value} {s : State} (hts : ∀ w ∈ lw_tbl, w.before args s = true) (hgv : (Jvm.Cond.and given_1 narrow_1).before args s = true) : ExD s := by
  have hs := flat_of_before _ hgv
  have ha : (Cond.arrayOver (.array .int)).before args s = true := hts _ (st_in 197 (by decide +kernel))
  refine ⟨fun w hw he => ?_, fun own k tx hw => st_text (hts _ hw), fun q hq => va_Nc.of (hs _ (st_nc q hq)), show va_AOA .int s from ha⟩
  have h := hts w hw
  cases w with
  | castable C T => exact va_Nw.of rfl h
  | declares x => exact va_Nw.of rfl h
  | _ => cases he
