/-! ===== the program and the reference, method by method ===== -/
def OKS (S Z : Sc) (F : Sf) : Prop := ScOK S ∧ ScOK Z ∧ SfOK F ∧ ∀ i, i < S.1 ^ S.2.1 → S.2.2.1 i < S.1
def J8 (μ : Mi) (as : List Value) (w : Wt) (S : Sc) (sv : Bool) (Z : Sc) (F : Sf) (S' : Sc) (sv' : Bool) (Z' : Sc) (F' : Sf) (z : Nat × Nat) (o : Oc) : Prop := ∀ h, PA h h S sv Z F → ∃ d P, Nat.blt d 8 = true ∧ ConN μ d z w (.ref 0 :: as) h o P ∧ ∀ h', P h' → PA h h' S' sv' Z' F'
def J9 (μ : Mi) (as : List Value) (w : Wt) (S : Sc) (sv : Bool) (Z : Sc) (F : Sf) (S' : Sc) (sv' : Bool) (Z' : Sc) (F' : Sf) (r : Nat) (v : Value) : Prop := ∀ h th, RF h h th S sv Z F → ∃ d, Nat.blt d 8 = true ∧ ConN μ d (0, 0) w (.ref 62 :: as) h (.inl (some v)) (fun h' => RF h h' r S' sv' Z' F')
def JM (rows : List (String × Nat)) (μ8 μ9 : Mi) (as : List Value) (w : Wt) (S : Sc) (sv : Bool) (Z : Sc) (F : Sf) : Prop := ∃ S' sv' Z' F' o z r y, J8 μ8 as w S sv Z F S' sv' Z' F' z o ∧ J9 μ9 as w S sv Z F S' sv' Z' F' r (.int y) ∧ r < 4 ∧ ((r = 0 ∧ o = .inl (some (.int y)) ∧ z = (0, 0)) ∨ ∃ E, o = .inr E ∧ (E, r) ∈ rows ∧ z = (1, 6))
def JMB (rows : List (String × Nat)) (μ8 μ9 : Mi) (as : List Value) (w : Wt) (S : Sc) (sv : Bool) (Z : Sc) (F : Sf) : Prop := ∃ S' sv' Z' F' o z r b, J8 μ8 as w S sv Z F S' sv' Z' F' z o ∧ J9 μ9 as w S sv Z F S' sv' Z' F' r (.int (bI b)) ∧ r < 4 ∧ ((r = 0 ∧ o = .inl (some (.int (bI b))) ∧ z = (0, 0)) ∨ ∃ E, o = .inr E ∧ (E, r) ∈ rows ∧ z = (1, 6))
def JML (rows : List (String × Nat)) (μ8 μ9 : Mi) (as : List Value) (w : Wt) (S : Sc) (sv : Bool) (Z : Sc) (F : Sf) : Prop := ∃ S' sv' Z' F' o z r y, J8 μ8 as w S sv Z F S' sv' Z' F' z o ∧ J9 μ9 as w S sv Z F S' sv' Z' F' r (.long y) ∧ r < 4 ∧ ((r = 0 ∧ o = .inl (some (.long y)) ∧ z = (0, 0)) ∨ ∃ E, o = .inr E ∧ (E, r) ∈ rows ∧ z = (1, 6))
def JD (μ8 μ9 : Mi) (v : Value) (w : Wt) (S : Sc) (sv : Bool) (Z : Sc) (F : Sf) : Prop := ∃ S' sv' Z' F' r, J8 μ8 [] w S sv Z F S' sv' Z' F' (0, 0) (.inl (some v)) ∧ J9 μ9 [] w S sv Z F S' sv' Z' F' r v
section JJ
variable {rows : List (String × Nat)} {μ8 μ9 : Mi} {as : List Value} {w : Wt} {S : Sc} {sv : Bool} {Z : Sc} {F : Sf} {S' : Sc} {sv' : Bool} {Z' : Sc} {F' : Sf} {z : Nat × Nat} {o : Oc} {d r : Nat} {v : Value}
theorem j8e (hd : Nat.blt d 8 = true) (c : ∀ h, PA h h S sv Z F → ConN μ8 d z w (.ref 0 :: as) h o (fun h' => h' = h)) : J8 μ8 as w S sv Z F S sv Z F z o := fun h hP => ⟨d, _, hd, c h hP, fun h' e => by rw [e]; exact hP⟩
theorem j8p (hd : Nat.blt d 8 = true) (c : ∀ h, PA h h S sv Z F → ConN μ8 d z w (.ref 0 :: as) h o (fun h' => PA h h' S' sv' Z' F')) : J8 μ8 as w S sv Z F S' sv' Z' F' z o := fun h hP => ⟨d, _, hd, c h hP, fun h' e => e⟩
theorem j9p (hd : Nat.blt d 8 = true) (c : ∀ h th, RF h h th S sv Z F → ConN μ9 d (0, 0) w (.ref 62 :: as) h (.inl (some v)) (fun h' => RF h h' r S' sv' Z' F')) : J9 μ9 as w S sv Z F S' sv' Z' F' r v := fun h th hR => ⟨d, hd, c h th hR⟩
theorem jm_ok {y : Int32} (a : J8 μ8 as w S sv Z F S' sv' Z' F' (0, 0) (.inl (some (.int y)))) (b : J9 μ9 as w S sv Z F S' sv' Z' F' 0 (.int y)) : JM rows μ8 μ9 as w S sv Z F := ⟨S', sv', Z', F', _, _, 0, y, a, b, by decide, .inl ⟨rfl, rfl, rfl⟩⟩
theorem jm_thr {y : Int32} {E : String} (hm : (E, r) ∈ rows) (hr : r < 4) (a : J8 μ8 as w S sv Z F S' sv' Z' F' (1, 6) (.inr E)) (b : J9 μ9 as w S sv Z F S' sv' Z' F' r (.int y)) : JM rows μ8 μ9 as w S sv Z F := ⟨S', sv', Z', F', _, _, r, y, a, b, hr, .inr ⟨E, rfl, hm, rfl⟩⟩
theorem jmb_ok {y : Bool} (a : J8 μ8 as w S sv Z F S' sv' Z' F' (0, 0) (.inl (some (.int (bI y))))) (b : J9 μ9 as w S sv Z F S' sv' Z' F' 0 (.int (bI y))) : JMB rows μ8 μ9 as w S sv Z F := ⟨S', sv', Z', F', _, _, 0, y, a, b, by decide, .inl ⟨rfl, rfl, rfl⟩⟩
theorem jmb_thr {y : Bool} {E : String} (hm : (E, r) ∈ rows) (hr : r < 4) (a : J8 μ8 as w S sv Z F S' sv' Z' F' (1, 6) (.inr E)) (b : J9 μ9 as w S sv Z F S' sv' Z' F' r (.int (bI y))) : JMB rows μ8 μ9 as w S sv Z F := ⟨S', sv', Z', F', _, _, r, y, a, b, hr, .inr ⟨E, rfl, hm, rfl⟩⟩
theorem jml_ok {y : Int64} (a : J8 μ8 as w S sv Z F S' sv' Z' F' (0, 0) (.inl (some (.long y)))) (b : J9 μ9 as w S sv Z F S' sv' Z' F' 0 (.long y)) : JML rows μ8 μ9 as w S sv Z F := ⟨S', sv', Z', F', _, _, 0, y, a, b, by decide, .inl ⟨rfl, rfl, rfl⟩⟩
theorem jml_thr {y : Int64} {E : String} (hm : (E, r) ∈ rows) (hr : r < 4) (a : J8 μ8 as w S sv Z F S' sv' Z' F' (1, 6) (.inr E)) (b : J9 μ9 as w S sv Z F S' sv' Z' F' r (.long y)) : JML rows μ8 μ9 as w S sv Z F := ⟨S', sv', Z', F', _, _, r, y, a, b, hr, .inr ⟨E, rfl, hm, rfl⟩⟩
end JJ
/-! numbers -/
theorem in2 {x : Int32} : InB x 2 ↔ (x = 0 ∨ x = 1) := by
  constructor
  · intro h
    obtain ⟨n, hn, rfl⟩ := h.n (by decide)
    rcases (by omega : n = 0 ∨ n = 1) with rfl | rfl
    · exact .inl rfl
    · exact .inr rfl
  · rintro (rfl | rfl)
    · exact InB.of (n := 0) (by decide) (by decide)
    · exact InB.of (n := 1) (by decide) (by decide)
theorem inle {x : Int32} {n : Nat} (hn : n < 1000) : InB x (n + 1) ↔ (¬ x < nI 0 ∧ x ≤ nI n) := by
  unfold InB
  have e1 : (nI 0) = 0 := rfl
  rw [e1, Int32.lt_iff_toInt_lt, Int32.lt_iff_toInt_lt, Int32.le_iff_toInt_le, nI_toInt (by omega), nI_toInt (by omega)]
  omega
theorem pw27 {k wd : Nat} (hs : SZ k wd) : k ^ wd < 2 ^ 31 := by
  rcases hs with ⟨rfl, h1, h2⟩ | ⟨rfl, h1, h2⟩
  · rcases (by omega : wd = 2 ∨ wd = 3 ∨ wd = 4) with rfl | rfl | rfl <;> decide
  · rcases (by omega : wd = 2 ∨ wd = 3) with rfl | rfl <;> decide
theorem pn9 {k wd : Nat} (hs : SZ k wd) : 0 < k ^ (wd - 1) ∧ k ^ (wd - 1) ≤ 9 := by
  rcases hs with ⟨rfl, h1, h2⟩ | ⟨rfl, h1, h2⟩
  · rcases (by omega : wd = 2 ∨ wd = 3 ∨ wd = 4) with rfl | rfl | rfl <;> decide
  · rcases (by omega : wd = 2 ∨ wd = 3) with rfl | rfl <;> decide
theorem kpos {k wd : Nat} (hs : SZ k wd) : 0 < k ∧ k ≤ 3 ∧ 1 ≤ wd ∧ wd ≤ 4 := by
  rcases hs with ⟨rfl, h1, h2⟩ | ⟨rfl, h1, h2⟩ <;> omega
theorem p31 {S : Sc} (hS : ScOK S) {l : Nat} (hl : l ≤ 17) : S.1 ^ l < 2 ^ 31 := by
  have := pw14 (n := l) hS.1.k hl
  omega
theorem i64c (x : Int64) : x < 0 ∨ ∃ n, n < 2 ^ 63 ∧ x = lN n := by
  by_cases h : x < 0
  · exact .inl h
  · exact .inr (pk_lOf h)
section JK
variable {w : Wt} {S : Sc} {sv : Bool} {Z : Sc} {F : Sf}
theorem jm_setSize {x y : Int32} : JM rwL_setSize mX8_setSize mX9_setSize [.int x, .int y] w S sv Z F := by
  by_cases hx : szB x y = true
  · obtain ⟨k, wd, rfl, rfl, hs⟩ := szB_ok hx
    exact jm_ok (j8p rfl (fun h hP => k8_setSize hP hs)) (j9p rfl (fun h th hR => k9_setSize hR hs))
  · have hx : szB x y = false := by simpa using hx
    exact jm_thr (E := EIAE) (r := 1) (by simp [rwL_setSize]) (by decide) (j8e rfl (fun h hP => k8_setSizeX hx)) (j9p rfl (fun h th hR => k9_setSizeX hR hx))
theorem jm_size {x : Int32} : JM rwL_size mX8_size mX9_size [.int x] w S sv Z F := by
  by_cases hx : InB x 4
  · obtain ⟨n, hn, rfl⟩ := hx.n (by decide)
    exact jm_ok (j8e rfl (fun h hP => k8_size hP hn)) (j9p rfl (fun h th hR => k9_size hR hn))
  · exact jm_thr (E := EIOO) (r := 1) (by simp [rwL_size]) (by decide) (j8e rfl (fun h hP => k8_sizeX hx)) (j9p rfl (fun h th hR => k9_sizeX hR hx))
theorem jm_setOutput (O : OKS S Z F) {x y : Int32} : JM rwL_setOutput mX8_setOutput mX9_setOutput [.int x, .int y] w S sv Z F := by
  by_cases hx : InB x (S.1 ^ S.2.1)
  · obtain ⟨n, hn, rfl⟩ := hx.n (pw27 O.1.1)
    by_cases hy : InB y S.1
    · obtain ⟨m, hm, rfl⟩ := hy.n (by have := kpos O.1.1; omega)
      exact jm_ok (j8p rfl (fun h hP => k8_setOutput hP hn hm)) (j9p rfl (fun h th hR => k9_setOutput hR hn hm))
    · exact jm_thr (E := EIAE) (r := 2) (by simp [rwL_setOutput]) (by decide) (j8e rfl (fun h hP => k8_setOutputY hP hn hy)) (j9p rfl (fun h th hR => k9_setOutputY hR hn hy))
  · exact jm_thr (E := EIOO) (r := 1) (by simp [rwL_setOutput]) (by decide) (j8e rfl (fun h hP => k8_setOutputX hP hx)) (j9p rfl (fun h th hR => k9_setOutputX hR hx))
theorem jm_output (O : OKS S Z F) {x : Int32} : JM rwL_output mX8_output mX9_output [.int x] w S sv Z F := by
  by_cases hx : InB x (S.1 ^ S.2.1)
  · obtain ⟨n, hn, rfl⟩ := hx.n (pw27 O.1.1)
    exact jm_ok (j8e rfl (fun h hP => k8_output hP hn)) (j9p rfl (fun h th hR => k9_output hR hn))
  · exact jm_thr (E := EIOO) (r := 1) (by simp [rwL_output]) (by decide) (j8e rfl (fun h hP => k8_outputX hP hx)) (j9p rfl (fun h th hR => k9_outputX hR hx))
theorem jm_setNumber {a : Int64} : JM rwL_setNumber mX8_setNumber mX9_setNumber [.long a] w S sv Z F := by
  rcases i64c a with ha | ⟨n, hn, rfl⟩
  · exact jm_thr (E := EIAE) (r := 1) (by simp [rwL_setNumber]) (by decide) (j8e rfl (fun h hP => k8_setNumberN ha)) (j9p rfl (fun h th hR => k9_setNumberN hR ha))
  · by_cases hx : n < S.1 ^ (S.1 ^ S.2.1)
    · exact jm_ok (j8p rfl (fun h hP => k8_setNumber hP hx)) (j9p rfl (fun h th hR => k9_setNumber hR hx))
    · exact jm_thr (E := EIAE) (r := 1) (by simp [rwL_setNumber]) (by decide) (j8e rfl (fun h hP => k8_setNumberX hP (by omega) hn)) (j9p rfl (fun h th hR => k9_setNumberX hR (by omega) hn))
theorem jm_append {x : Int32} : JM rwL_append mX8_append mX9_append [.int x] w S sv Z F := by
  by_cases hx : ok4 x
  · by_cases hF : F.1 + nz4 x ≤ 40
    · exact jm_ok (j8p rfl (fun h hP => k8_append hP hx hF)) (j9p rfl (fun h th hR => k9_append hR hx hF))
    · exact jm_thr (E := EISE) (r := 2) (by simp [rwL_append]) (by decide) (j8e rfl (fun h hP => k8_appendF hP hx (by omega))) (j9p rfl (fun h th hR => k9_appendF hR hx (by omega)))
  · exact jm_thr (E := EIAE) (r := 1) (by simp [rwL_append]) (by decide) (j8e rfl (fun h hP => k8_appendX hx)) (j9p rfl (fun h th hR => k9_appendX hR hx))
theorem jm_compile : JM rwL_compile mX8_compile mX9_compile [] w S sv Z F := by
  by_cases h0 : (rdS S F).1 = 0
  · by_cases hE : ∀ i, i < S.1 ^ S.2.1 → (evS S F i).1 = 0
    · exact jm_ok (j8p rfl (fun h hP => k8_compile hP h0 hE)) (j9p rfl (fun h th hR => k9_compile hR h0 hE))
    · have hx : ∃ e, e < S.1 ^ S.2.1 ∧ (∀ i, i < e → (evS S F i).1 = 0) ∧ (evS S F e).1 ≠ 0 := by
        have key : ∀ n, (∀ i, i < n → (evS S F i).1 = 0) ∨ ∃ e, e < n ∧ (∀ i, i < e → (evS S F i).1 = 0) ∧ (evS S F e).1 ≠ 0 := by
          intro n
          induction n with
          | zero => exact .inl (fun i hi => absurd hi (Nat.not_lt_zero i))
          | succ n ih =>
            rcases ih with h1 | ⟨e, h1, h2⟩
            · by_cases h2 : (evS S F n).1 = 0
              · refine .inl (fun i hi => ?_)
                rcases Nat.lt_or_eq_of_le (Nat.le_of_lt_succ hi) with h3 | h3
                · exact h1 i h3
                · rw [h3]; exact h2
              · exact .inr ⟨n, Nat.lt_succ_self _, h1, h2⟩
            · exact .inr ⟨e, Nat.lt_succ_of_lt h1, h2⟩
        rcases key (S.1 ^ S.2.1) with h1 | h1
        · exact absurd h1 hE
        · exact h1
      obtain ⟨e, h1, h2, h3⟩ := hx
      exact jm_thr (E := EARI) (r := 2) (by simp [rwL_compile]) (by decide) (j8p rfl (fun h hP => k8_compileE hP h0 h1 h2 h3)) (j9p rfl (fun h th hR => k9_compileE hR h0 h1 h2 h3))
  · exact jm_thr (E := EIAE) (r := 1) (by simp [rwL_compile]) (by decide) (j8p rfl (fun h hP => k8_compileP hP h0)) (j9p rfl (fun h th hR => k9_compileP hR h0))
theorem jm_error {x : Int32} : JM rwL_error mX8_error mX9_error [.int x] w S sv Z F := by
  by_cases hx : InB x 2
  · obtain ⟨n, hn, rfl⟩ := hx.n (by decide)
    rcases (by omega : n = 0 ∨ n = 1) with rfl | rfl
    · exact jm_ok (y := nI F.2.1) (j8e rfl (fun h hP => k8_error hP (.inl rfl))) (j9p rfl (fun h th hR => k9_error hR (by decide)))
    · exact jm_ok (y := F.2.2.1) (j8e rfl (fun h hP => k8_error hP (.inr rfl))) (j9p rfl (fun h th hR => k9_error hR (by decide)))
  · exact jm_thr (E := EIOO) (r := 1) (by simp [rwL_error]) (by decide) (j8e rfl (fun h hP => k8_errorX (fun h => hx (in2.mpr h)))) (j9p rfl (fun h th hR => k9_errorX hR hx))
theorem jm_compose (O : OKS S Z F) : JM rwL_compose mX8_compose mX9_compose [] w S sv Z F := by
  cases sv with
  | false => exact jm_thr (E := EISE) (r := 1) (by simp [rwL_compose]) (by decide) (j8e rfl (fun h hP => k8_composeX hP (.inl rfl))) (j9p rfl (fun h th hR => k9_composeX hR))
  | true =>
    by_cases hk : Z.1 = S.1
    · by_cases hz : szB (nI S.1) (nI (S.2.1 + Z.2.1 - 1)) = true
      · obtain ⟨k, wd, e1, e2, hs⟩ := szB_ok hz
        have a1 := kpos O.1.1
        have a2 := kpos O.2.1.1
        have b1 := kpos hs
        have c1 : S.1 = k := (nI_eq (by omega) (by omega)).mp e1
        have c2 : S.2.1 + Z.2.1 - 1 = wd := (nI_eq (by omega) (by omega)).mp e2
        have hs' : SZ S.1 (S.2.1 + Z.2.1 - 1) := by rw [c1, c2]; exact hs
        exact jm_ok (j8p rfl (fun h hP => k8_compose hP hk hs')) (j9p rfl (fun h th hR => k9_compose hR hk hs'))
      · have hz : szB (nI S.1) (nI (S.2.1 + Z.2.1 - 1)) = false := by simpa using hz
        exact jm_thr (E := EISE) (r := 1) (by simp [rwL_compose]) (by decide) (j8e rfl (fun h hP => k8_composeW hP hk hz)) (j9p rfl (fun h th hR => k9_composeW hR hk hz))
    · exact jm_thr (E := EISE) (r := 1) (by simp [rwL_compose]) (by decide) (j8e rfl (fun h hP => k8_composeX hP (.inr hk))) (j9p rfl (fun h th hR => k9_composeY hR hk))
theorem jm_setWord (O : OKS S Z F) {x y v : Int32} : JM rwL_setWord mX8_setWord mX9_setWord [.int x, .int y, .int v] w S sv Z F := by
  by_cases hx : InB x 4
  · obtain ⟨n, hn, rfl⟩ := hx.n (by decide)
    by_cases hy : InB y 15
    · obtain ⟨l, hl, rfl⟩ := hy.n (by decide)
      have hl : l ≤ 14 := by omega
      have hp := p31 O.1 (l := l) (by omega)
      by_cases hv : InB v (S.1 ^ l)
      · obtain ⟨m, hm, rfl⟩ := hv.n hp
        exact jm_ok (j8p rfl (fun h hP => k8_setWord hP hn hl hm)) (j9p rfl (fun h th hR => k9_setWord hR hn hl hm))
      · exact jm_thr (E := EIAE) (r := 2) (by simp [rwL_setWord]) (by decide) (j8e rfl (fun h hP => k8_setWordI hP hn hl hv)) (j9p rfl (fun h th hR => k9_setWordI hR hn hl hv))
    · exact jm_thr (E := EIAE) (r := 2) (by simp [rwL_setWord]) (by decide) (j8e rfl (fun h hP => k8_setWordL hn (fun h => hy ((inle (n := 14) (by decide)).mpr h)))) (j9p rfl (fun h th hR => k9_setWordL hR hn hy))
  · exact jm_thr (E := EIOO) (r := 1) (by simp [rwL_setWord]) (by decide) (j8e rfl (fun h hP => k8_setWordR hx)) (j9p rfl (fun h th hR => k9_setWordR hR hx))
theorem jm_wordLength {x : Int32} : JM rwL_wordLength mX8_wordLength mX9_wordLength [.int x] w S sv Z F := by
  by_cases hx : InB x 4
  · obtain ⟨n, hn, rfl⟩ := hx.n (by decide)
    exact jm_ok (j8e rfl (fun h hP => k8_wordLength hP hn)) (j9p rfl (fun h th hR => k9_wordLength hR hn))
  · exact jm_thr (E := EIOO) (r := 1) (by simp [rwL_wordLength]) (by decide) (j8e rfl (fun h hP => k8_wordLengthX hx)) (j9p rfl (fun h th hR => k9_wordLengthX hR hx))
theorem jm_wordIndex {x : Int32} : JM rwL_wordIndex mX8_wordIndex mX9_wordIndex [.int x] w S sv Z F := by
  by_cases hx : InB x 4
  · obtain ⟨n, hn, rfl⟩ := hx.n (by decide)
    exact jm_ok (j8e rfl (fun h hP => k8_wordIndex hP hn)) (j9p rfl (fun h th hR => k9_wordIndex hR hn))
  · exact jm_thr (E := EIOO) (r := 1) (by simp [rwL_wordIndex]) (by decide) (j8e rfl (fun h hP => k8_wordIndexX hx)) (j9p rfl (fun h th hR => k9_wordIndexX hR hx))
theorem jm_cell (O : OKS S Z F) {x y : Int32} : JM rwL_cell mX8_cell mX9_cell [.int x, .int y] w S sv Z F := by
  by_cases hx : InB x 4
  · obtain ⟨n, hn, rfl⟩ := hx.n (by decide)
    by_cases hy : InB y (S.2.2.2.1 n)
    · obtain ⟨m, hm, rfl⟩ := hy.n (by have := (O.1.2 n hn).1; omega)
      exact jm_ok (j8e rfl (fun h hP => k8_cell hP hn hm)) (j9p rfl (fun h th hR => k9_cell hR hn hm))
    · exact jm_thr (E := EIOO) (r := 1) (by simp [rwL_cell]) (by decide) (j8e rfl (fun h hP => k8_cellX hP hn hy)) (j9p rfl (fun h th hR => k9_cellX hR hn hy))
  · exact jm_thr (E := EIOO) (r := 1) (by simp [rwL_cell]) (by decide) (j8e rfl (fun h hP => k8_cellR hx)) (j9p rfl (fun h th hR => k9_cellR hR hx))
theorem jm_apply {x : Int32} {c : Bool} : JM rwL_apply mX8_apply mX9_apply [.int x, .int (bI c)] w S sv Z F := by
  by_cases hx : InB x 4
  · obtain ⟨n, hn, rfl⟩ := hx.n (by decide)
    by_cases hl : (if c then 1 else S.2.1) ≤ S.2.2.2.1 n
    · exact jm_ok (j8p rfl (fun h hP => k8_apply hP hn hl)) (j9p rfl (fun h th hR => k9_apply hR hn hl))
    · have hl : S.2.2.2.1 n < if c then 1 else S.2.1 := Nat.lt_of_not_le hl
      exact jm_thr (E := EISE) (r := 2) (by simp [rwL_apply]) (by decide) (j8e rfl (fun h hP => k8_applyX hP hn hl)) (j9p rfl (fun h th hR => k9_applyX hR hn hl))
  · exact jm_thr (E := EIOO) (r := 1) (by simp [rwL_apply]) (by decide) (j8e rfl (fun h hP => k8_applyR hx)) (j9p rfl (fun h th hR => k9_applyR hR hx))
end JK
