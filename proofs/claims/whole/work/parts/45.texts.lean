/-! ===== the rule of the throw of NoSuchElementException; the texts of the throws ===== -/
section VNS
variable {X : CT} {μ : Mi} {tab : List ExceptionTableEntry} {d : Nat} {zR : Nat × Nat} {o : Oc} {P : Wt → Hp → Prop} {z : Nat × Nat} {w : Wt} {h : Hp} {pc : Nat} {L : List (Option Value)} {st : List Value}
theorem v_throwN (C : Cx X μ [] d (1, 6) (.inr ENSE) P) {is : Nat} {tx : String} (hown : μ.1.cls = RX8) (hstr : Cond.stringRef RX8 is tx ∈ lw_tbl) (d0 : decode μ.2.1 pc = .ok (.new 269, 3)) (d3 : decode μ.2.1 (pc + 3) = .ok (.dup, 1)) (d4 : decode μ.2.1 (pc + 4) = .ok (.ldc_w is, 3)) (d6 : decode μ.2.1 (pc + 7) = .ok (.invokespecial 273, 3)) (d9 : decode μ.2.1 (pc + 10) = .ok (.athrow, 1)) (hLn : L.length = μ.2.2.1) (hcat : Nat.ble (st.map fun v => v.category).sum 8 = true) (hP : P w h) : V X (0, 0) w h pc L st := by
  rcases X with ⟨p, l, e, R, s, m, args, below, meth, c, G, B, Q⟩
  intro H locs ls hW hS hl
  obtain ⟨hx, hb, hml, ho, hts, hlk, hlt, hK, hB, hSt, hEx, ⟨r1, r2, r3, r4⟩, htab, hret, hnm, hQ⟩ := C
  subst hQ
  rw [hown] at ho
  obtain ⟨sa, hsa⟩ := hEx.2.1 _ _ _ hstr
  have hcat := Nat.le_of_ble_eq_true hcat
  have hsm : ((st.map (cv w.1)).map fun v => v.category).sum ≤ 8 := by rw [cv_sum]; exact hcat
  have hall : ∀ w, w ∈ (nseA RX8 273 ENSE).filter vx_no → (vx_ot w = true ∧ (goodWord w = true ∨ exOk w = true)) ∧ w ∈ tables_1 := fun w hw => by
    have h5 := List.all_eq_true.mp nse_all w hw
    simp only [Bool.and_eq_true, Bool.or_eq_true, decide_eq_true_eq] at h5
    exact h5
  refine nse_throw (ik := 269) (is := is) (ic := 273) (sa := sa) (A := AB B) (text := tx) hx hb hlt ho (by decide +kernel) (hts _ (tj5 180 (by rfl) rfl)) (hts _ (tj1 31 (by rfl) rfl)) hsa (fun w hw => ?_) ?_ hSt.1 hSt.2 hS (hl.1.trans (hLn.trans hml.symm)) d0 d3 d4 d6 d9 (by rw [htab]; exact fun x hx => by cases hx) ?_ ?_ r3 r4 hlk (fun t hv h1 h2 => ⟨⟨w, h, rfl, hP, hW.kept h2⟩, Nat.le_trans hS.1 h1, fun q hq hA => (h2 q (Nat.lt_of_lt_of_le hq hS.1)).trans (hS.2.1 q hq hA)⟩) hS.2.2 (Nat.le_refl _) (Nat.le_refl _)
  · obtain ⟨⟨a1, a2⟩, a3⟩ := hall w hw
    rcases a2 with h1 | h1
    · exact hts w (tsg (List.mem_append_right _ a3) h1)
    · have := hEx.1 w (List.mem_append_right _ a3) h1
      cases w with
      | castable C T => exact va_Nw.use rfl this
      | declares x => exact va_Nw.use rfl this
      | _ => cases h1
  · intro w hw
    rcases List.mem_cons.mp hw with h1 | h1
    · rw [h1]; rfl
    · rcases List.mem_cons.mp h1 with h1 | h1
      · rw [h1]; rfl
      · exact (hall w h1).1.1
  · show 5 < R.frames
    omega
  · show _ + 82 ≤ R.locals
    omega
end VNS
theorem sr88 : Cond.stringRef RX8 88 "no automata of this size" ∈ lw_tbl := List.mem_append_right _ (List.mem_append_right _ (List.mem_append_right _ (List.mem_append_left _ (List.mem_of_getElem? (i := 8) (by rfl)))))
theorem sr115 : Cond.stringRef RX8 115 "no such size" ∈ lw_tbl := List.mem_append_right _ (List.mem_append_right _ (List.mem_append_right _ (List.mem_append_left _ (List.mem_of_getElem? (i := 81) (by rfl)))))
theorem sr363 : Cond.stringRef RX8 363 "no such neighborhood" ∈ lw_tbl := List.mem_append_right _ (List.mem_append_right _ (List.mem_append_right _ (List.mem_append_left _ (List.mem_of_getElem? (i := 96) (by rfl)))))
theorem sr122 : Cond.stringRef RX8 122 "the output is no state" ∈ lw_tbl := List.mem_append_right _ (List.mem_append_right _ (List.mem_append_right _ (List.mem_append_left _ (List.mem_of_getElem? (i := 97) (by rfl)))))
theorem sr131 : Cond.stringRef RX8 131 "no number of a rule" ∈ lw_tbl := List.mem_append_right _ (List.mem_append_right _ (List.mem_append_right _ (List.mem_append_left _ (List.mem_of_getElem? (i := 116) (by rfl)))))
theorem sr149 : Cond.stringRef RX8 149 "a byte is no visible character" ∈ lw_tbl := List.mem_append_right _ (List.mem_append_right _ (List.mem_append_right _ (List.mem_append_left _ (List.mem_of_getElem? (i := 134) (by rfl)))))
theorem sr156 : Cond.stringRef RX8 156 "the buffer is full" ∈ lw_tbl := List.mem_append_right _ (List.mem_append_right _ (List.mem_append_right _ (List.mem_append_left _ (List.mem_of_getElem? (i := 144) (by rfl)))))
theorem sr174 : Cond.stringRef RX8 174 "the formula divides by 0" ∈ lw_tbl := List.mem_append_right _ (List.mem_append_right _ (List.mem_append_right _ (List.mem_append_left _ (List.mem_of_getElem? (i := 238) (by rfl)))))
theorem sr177 : Cond.stringRef RX8 177 "the formula is malformed" ∈ lw_tbl := List.mem_append_right _ (List.mem_append_right _ (List.mem_append_right _ (List.mem_append_right _ (List.mem_append_left _ (List.mem_of_getElem? (i := 0) (by rfl))))))
theorem sr361 : Cond.stringRef RX8 361 "neither 0 nor 1" ∈ lw_tbl := List.mem_append_right _ (List.mem_append_right _ (List.mem_append_right _ (List.mem_append_right _ (List.mem_append_left _ (List.mem_of_getElem? (i := 11) (by rfl))))))
theorem sr198 : Cond.stringRef RX8 198 "no saved rule with as many states" ∈ lw_tbl := List.mem_append_right _ (List.mem_append_right _ (List.mem_append_right _ (List.mem_append_right _ (List.mem_append_left _ (List.mem_of_getElem? (i := 19) (by rfl))))))
theorem sr200 : Cond.stringRef RX8 200 "no automata of the new width" ∈ lw_tbl := List.mem_append_right _ (List.mem_append_right _ (List.mem_append_right _ (List.mem_append_right _ (List.mem_append_left _ (List.mem_of_getElem? (i := 20) (by rfl))))))
theorem sr359 : Cond.stringRef RX8 359 "no such register" ∈ lw_tbl := List.mem_append_right _ (List.mem_append_right _ (List.mem_append_right _ (List.mem_append_right _ (List.mem_append_left _ (List.mem_of_getElem? (i := 41) (by rfl))))))
theorem sr213 : Cond.stringRef RX8 213 "the length is out of range" ∈ lw_tbl := List.mem_append_right _ (List.mem_append_right _ (List.mem_append_right _ (List.mem_append_right _ (List.mem_append_left _ (List.mem_of_getElem? (i := 42) (by rfl))))))
theorem sr215 : Cond.stringRef RX8 215 "no word of this length with this index" ∈ lw_tbl := List.mem_append_right _ (List.mem_append_right _ (List.mem_append_right _ (List.mem_append_right _ (List.mem_append_left _ (List.mem_of_getElem? (i := 43) (by rfl))))))
theorem sr227 : Cond.stringRef RX8 227 "no such cell" ∈ lw_tbl := List.mem_append_right _ (List.mem_append_right _ (List.mem_append_right _ (List.mem_append_right _ (List.mem_append_left _ (List.mem_of_getElem? (i := 69) (by rfl))))))
theorem sr233 : Cond.stringRef RX8 233 "the word has no image" ∈ lw_tbl := List.mem_append_right _ (List.mem_append_right _ (List.mem_append_right _ (List.mem_append_right _ (List.mem_append_left _ (List.mem_of_getElem? (i := 81) (by rfl))))))
theorem sr238 : Cond.stringRef RX8 238 "the word is empty or too long" ∈ lw_tbl := List.mem_append_right _ (List.mem_append_right _ (List.mem_append_right _ (List.mem_append_right _ (List.mem_append_left _ (List.mem_of_getElem? (i := 93) (by rfl))))))
theorem sr260 : Cond.stringRef RX8 260 "the preimages are too long" ∈ lw_tbl := List.mem_append_right _ (List.mem_append_right _ (List.mem_append_right _ (List.mem_append_right _ (List.mem_append_right _ (List.mem_append_left _ (List.mem_of_getElem? (i := 163) (by rfl)))))))
theorem sr271 : Cond.stringRef RX8 271 "no such preimage" ∈ lw_tbl := List.mem_append_right _ (List.mem_append_right _ (List.mem_append_right _ (List.mem_append_right _ (List.mem_append_right _ (List.mem_append_left _ (List.mem_of_getElem? (i := 189) (by rfl)))))))
theorem sr365 : Cond.stringRef RX8 365 "no such node" ∈ lw_tbl := List.mem_append_right _ (List.mem_append_right _ (List.mem_append_right _ (List.mem_append_right _ (List.mem_append_right _ (List.mem_append_left _ (List.mem_of_getElem? (i := 207) (by rfl)))))))
theorem sr295 : Cond.stringRef RX8 295 "no such state" ∈ lw_tbl := List.mem_append_right _ (List.mem_append_right _ (List.mem_append_right _ (List.mem_append_right _ (List.mem_append_right _ (List.mem_append_right _ (List.mem_append_left _ (List.mem_of_getElem? (i := 21) (by rfl))))))))
theorem sr314 : Cond.stringRef RX8 314 "there are no orphans" ∈ lw_tbl := List.mem_append_right _ (List.mem_append_right _ (List.mem_append_right _ (List.mem_append_right _ (List.mem_append_right _ (List.mem_append_right _ (List.mem_append_left _ (List.mem_of_getElem? (i := 51) (by rfl))))))))
theorem sr320 : Cond.stringRef RX8 320 "the shortest orphan is too long" ∈ lw_tbl := List.mem_append_right _ (List.mem_append_right _ (List.mem_append_right _ (List.mem_append_right _ (List.mem_append_right _ (List.mem_append_right _ (List.mem_append_left _ (List.mem_of_getElem? (i := 56) (by rfl))))))))
theorem sr337 : Cond.stringRef RX8 337 "no such property" ∈ lw_tbl := List.mem_append_right _ (List.mem_append_right _ (List.mem_append_right _ (List.mem_append_right _ (List.mem_append_right _ (List.mem_append_right _ (List.mem_append_left _ (List.mem_of_getElem? (i := 85) (by rfl))))))))
theorem sr370 : Cond.stringRef RX8 370 "there is no inverse" ∈ lw_tbl := List.mem_append_right _ (List.mem_append_right _ (List.mem_append_right _ (List.mem_append_right _ (List.mem_append_right _ (List.mem_append_right _ (List.mem_append_left _ (List.mem_of_getElem? (i := 121) (by rfl))))))))
theorem sr346 : Cond.stringRef RX8 346 "no such word" ∈ lw_tbl := List.mem_append_right _ (List.mem_append_right _ (List.mem_append_right _ (List.mem_append_right _ (List.mem_append_right _ (List.mem_append_right _ (List.mem_append_left _ (List.mem_of_getElem? (i := 129) (by rfl))))))))
theorem sr357 : Cond.stringRef RX8 357 "nothing was saved" ∈ lw_tbl := List.mem_append_right _ (List.mem_append_right _ (List.mem_append_right _ (List.mem_append_right _ (List.mem_append_right _ (List.mem_append_right _ (List.mem_append_left _ (List.mem_of_getElem? (i := 142) (by rfl))))))))
