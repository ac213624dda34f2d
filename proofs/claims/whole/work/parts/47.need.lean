/-! ===== tests of arguments ===== -/
theorem i32c (x : Int32) : x < 0 ∨ ∃ n, n < 2 ^ 31 ∧ x = nI n := by
  by_cases h : x < 0
  · exact Or.inl h
  · obtain ⟨n, h1, h2⟩ := nI_of (x := x) h
    exact Or.inr ⟨n, h1, h2⟩
theorem nI_lt' {a b : Nat} (ha : a < 2 ^ 31) (hb : b < 2 ^ 31) : nI a < nI b ↔ a < b := by
  rw [Int32.lt_iff_toInt_lt, nI_toInt ha, nI_toInt hb]; omega
theorem neg_lt {x : Int32} {b : Nat} (hx : x < 0) (hb : b < 2 ^ 31) : x < nI b := by
  rw [Int32.lt_iff_toInt_lt] at hx ⊢
  rw [nI_toInt hb]
  have : (0 : Int32).toInt = 0 := by decide
  omega
/-- an argument that is a number below b -/
def InB (x : Int32) (b : Nat) : Prop := ¬ x < 0 ∧ x < nI b
theorem InB.n {x : Int32} {b : Nat} (h : InB x b) (hb : b < 2 ^ 31) : ∃ n, n < b ∧ x = nI n := by
  obtain ⟨n, h1, h2⟩ := nI_of (x := x) h.1
  exact ⟨n, (nI_lt' h1 hb).mp (by rw [← h2]; exact h.2), h2⟩
theorem InB.of {n b : Nat} (h : n < b) (hb : b < 2 ^ 31) : InB (nI n) b := by
  refine ⟨fun q => ?_, (nI_lt' (by omega) hb).mpr h⟩
  rw [Int32.lt_iff_toInt_lt, nI_toInt (by omega)] at q
  have : (0 : Int32).toInt = 0 := by decide
  omega
theorem k_needReg {w : Wt} {h : Hp} {x : Int32} (hx : InB x 4) : ConN mX8_needRegister 0 (0, 0) w [.int x] h (.inl none) (fun h' => h' = h) := by
  refine conI (by decide +kernel) ⟨fun _ => rfl, rfl, by simp⟩ (fun X C => ?_)
  change V X (0, 0) w h 0 [some (.int x)] []
  refine v_iload_n C (oX8_needRegister.at 0 rfl) rfl ?_
  refine v_if_lt C (oX8_needRegister.at 1 rfl) (tgt := 9) (by decide) (fun hc => ?_) (fun hc => ?_)
  · exact absurd hc hx.1
  · refine v_iload_n C (oX8_needRegister.at 2 rfl) rfl ?_
    refine v_iconst C (oX8_needRegister.at 3 rfl) (v := nI 4) rfl ?_
    refine v_icmp_lt C (oX8_needRegister.at 4 rfl) (tgt := 20) (by decide) (fun hc => ?_) (fun hc => ?_)
    · exact v_vret C (oX8_needRegister.at 10 rfl) rfl rfl ⟨Nat.le_refl _, Nat.le_refl _⟩ ⟨rfl, rfl⟩
    · exact absurd hx.2 hc
theorem k_needRegX {w : Wt} {h : Hp} {x : Int32} (hx : ¬ InB x 4) : ConN mX8_needRegister 0 (1, 6) w [.int x] h (.inr EIOO) (fun h' => h' = h) := by
  refine conI (by decide +kernel) ⟨fun _ => rfl, rfl, by simp⟩ (fun X C => ?_)
  change V X (0, 0) w h 0 [some (.int x)] []
  have thr : V X (0, 0) w h 9 [some (.int x)] [] := v_throwSW C rfl tIOO sr359 (oX8_needRegister.at 5 rfl) (oX8_needRegister.at 6 rfl) (oX8_needRegister.at 7 rfl) (oX8_needRegister.at 8 rfl) (oX8_needRegister.at 9 rfl) rfl rfl ⟨rfl, rfl⟩
  refine v_iload_n C (oX8_needRegister.at 0 rfl) rfl ?_
  refine v_if_lt C (oX8_needRegister.at 1 rfl) (tgt := 9) (by decide) (fun hc => ?_) (fun hc => ?_)
  · exact thr
  · refine v_iload_n C (oX8_needRegister.at 2 rfl) rfl ?_
    refine v_iconst C (oX8_needRegister.at 3 rfl) (v := nI 4) rfl ?_
    refine v_icmp_lt C (oX8_needRegister.at 4 rfl) (tgt := 20) (by decide) (fun hc => ?_) (fun hc => ?_)
    · exact absurd ⟨by assumption, hc⟩ hx
    · exact thr
theorem k_needBit {w : Wt} {h : Hp} {x : Int32} (hx : x = 0 ∨ x = 1) : ConN mX8_needBit 0 (0, 0) w [.int x] h (.inl none) (fun h' => h' = h) := by
  refine conI (by decide +kernel) ⟨fun _ => rfl, rfl, by simp⟩ (fun X C => ?_)
  change V X (0, 0) w h 0 [some (.int x)] []
  refine v_iload_n C (oX8_needBit.at 0 rfl) rfl ?_
  refine v_if_eq C (oX8_needBit.at 1 rfl) (tgt := 20) (by decide) (fun hc => ?_) (fun hc => ?_)
  · exact v_vret C (oX8_needBit.at 10 rfl) rfl rfl ⟨Nat.le_refl _, Nat.le_refl _⟩ ⟨rfl, rfl⟩
  · refine v_iload_n C (oX8_needBit.at 2 rfl) rfl ?_
    refine v_iconst C (oX8_needBit.at 3 rfl) (v := nI 1) rfl ?_
    refine v_icmp_eq C (oX8_needBit.at 4 rfl) (tgt := 20) (by decide) (fun hc => ?_) (fun hc => ?_)
    · exact v_vret C (oX8_needBit.at 10 rfl) rfl rfl ⟨Nat.le_refl _, Nat.le_refl _⟩ ⟨rfl, rfl⟩
    · rcases hx with e | e
      · exact absurd e (by assumption)
      · exact absurd e hc
theorem k_needBitX {w : Wt} {h : Hp} {x : Int32} (hx : ¬ (x = 0 ∨ x = 1)) : ConN mX8_needBit 0 (1, 6) w [.int x] h (.inr EIOO) (fun h' => h' = h) := by
  refine conI (by decide +kernel) ⟨fun _ => rfl, rfl, by simp⟩ (fun X C => ?_)
  change V X (0, 0) w h 0 [some (.int x)] []
  refine v_iload_n C (oX8_needBit.at 0 rfl) rfl ?_
  refine v_if_eq C (oX8_needBit.at 1 rfl) (tgt := 20) (by decide) (fun hc => ?_) (fun hc => ?_)
  · exact absurd (Or.inl hc) hx
  · refine v_iload_n C (oX8_needBit.at 2 rfl) rfl ?_
    refine v_iconst C (oX8_needBit.at 3 rfl) (v := nI 1) rfl ?_
    refine v_icmp_eq C (oX8_needBit.at 4 rfl) (tgt := 20) (by decide) (fun hc => ?_) (fun hc => ?_)
    · exact absurd (Or.inr hc) hx
    · exact v_throwSW C rfl tIOO sr361 (oX8_needBit.at 5 rfl) (oX8_needBit.at 6 rfl) (oX8_needBit.at 7 rfl) (oX8_needBit.at 8 rfl) (oX8_needBit.at 9 rfl) rfl rfl ⟨rfl, rfl⟩
theorem k_needLength {w : Wt} {h : Hp} {x : Int32} {a b : Nat} (h1 : ¬ x < nI a) (h2 : x ≤ nI b) : ConN mX8_needLength 0 (0, 0) w [.int x, .int (nI a), .int (nI b)] h (.inl none) (fun h' => h' = h) := by
  refine conI (by decide +kernel) ⟨fun _ => rfl, rfl, by simp⟩ (fun X C => ?_)
  change V X (0, 0) w h 0 [some (.int x), some (.int (nI a)), some (.int (nI b))] []
  refine v_iload_n C (oX8_needLength.at 0 rfl) rfl ?_
  refine v_iload_n C (oX8_needLength.at 1 rfl) rfl ?_
  refine v_icmp_lt C (oX8_needLength.at 2 rfl) (tgt := 10) (by decide) (fun hc => ?_) (fun hc => ?_)
  · exact absurd hc h1
  · refine v_iload_n C (oX8_needLength.at 3 rfl) rfl ?_
    refine v_iload_n C (oX8_needLength.at 4 rfl) rfl ?_
    refine v_icmp_le C (oX8_needLength.at 5 rfl) (tgt := 20) (by decide) (fun hc => ?_) (fun hc => ?_)
    · exact v_vret C (oX8_needLength.at 11 rfl) rfl rfl ⟨Nat.le_refl _, Nat.le_refl _⟩ ⟨rfl, rfl⟩
    · exact absurd h2 hc
theorem k_needLengthX {w : Wt} {h : Hp} {x : Int32} {a b : Nat} (hx : ¬ (¬ x < nI a ∧ x ≤ nI b)) : ConN mX8_needLength 0 (1, 6) w [.int x, .int (nI a), .int (nI b)] h (.inr EIAE) (fun h' => h' = h) := by
  refine conI (by decide +kernel) ⟨fun _ => rfl, rfl, by simp⟩ (fun X C => ?_)
  change V X (0, 0) w h 0 [some (.int x), some (.int (nI a)), some (.int (nI b))] []
  have thr : V X (0, 0) w h 10 [some (.int x), some (.int (nI a)), some (.int (nI b))] [] := v_throwS C rfl tIAE sr213 (oX8_needLength.at 6 rfl) (oX8_needLength.at 7 rfl) (oX8_needLength.at 8 rfl) (oX8_needLength.at 9 rfl) (oX8_needLength.at 10 rfl) rfl rfl ⟨rfl, rfl⟩
  refine v_iload_n C (oX8_needLength.at 0 rfl) rfl ?_
  refine v_iload_n C (oX8_needLength.at 1 rfl) rfl ?_
  refine v_icmp_lt C (oX8_needLength.at 2 rfl) (tgt := 10) (by decide) (fun hc => ?_) (fun hc => ?_)
  · exact thr
  · refine v_iload_n C (oX8_needLength.at 3 rfl) rfl ?_
    refine v_iload_n C (oX8_needLength.at 4 rfl) rfl ?_
    refine v_icmp_le C (oX8_needLength.at 5 rfl) (tgt := 20) (by decide) (fun hc => ?_) (fun hc => ?_)
    · exact absurd ⟨by assumption, hc⟩ hx
    · exact thr
theorem k_needNb {w : Wt} {h : Hp} {x : Int32} {sv : Bool} {k wd n m : Nat} (ho : h 0 = AO sv) (hr : h 1 = RO 1 k wd n m) (hx : InB x m) : ConN mX8_needNeighborhood 0 (0, 0) w [.ref 0, .int x] h (.inl none) (fun h' => h' = h) := by
  refine conI (by decide +kernel) ⟨fun _ => rfl, rfl, by simp⟩ (fun X C => ?_)
  change V X (0, 0) w h 0 [some (.ref 0), some (.int x)] []
  refine v_iload_n C (oX8_needNeighborhood.at 0 rfl) rfl ?_
  refine v_if_lt C (oX8_needNeighborhood.at 1 rfl) (tgt := 15) (by decide) (fun hc => ?_) (fun hc => ?_)
  · exact absurd hc hx.1
  · refine v_iload_n C (oX8_needNeighborhood.at 2 rfl) rfl ?_
    refine v_aload_n C (oX8_needNeighborhood.at 3 rfl) rfl ?_
    refine v_getf C (oX8_needNeighborhood.at 4 rfl) fX8_10 ho rfl ?_
    refine v_getf C (oX8_needNeighborhood.at 5 rfl) fX8_100 hr rfl ?_
    refine v_icmp_lt C (oX8_needNeighborhood.at 6 rfl) (tgt := 26) (by decide) (fun hc => ?_) (fun hc => ?_)
    · exact v_vret C (oX8_needNeighborhood.at 12 rfl) rfl rfl ⟨Nat.le_refl _, Nat.le_refl _⟩ ⟨rfl, rfl⟩
    · exact absurd hx.2 hc
theorem k_needNbX {w : Wt} {h : Hp} {x : Int32} {sv : Bool} {k wd n m : Nat} (ho : h 0 = AO sv) (hr : h 1 = RO 1 k wd n m) (hx : ¬ InB x m) : ConN mX8_needNeighborhood 0 (1, 6) w [.ref 0, .int x] h (.inr EIOO) (fun h' => h' = h) := by
  refine conI (by decide +kernel) ⟨fun _ => rfl, rfl, by simp⟩ (fun X C => ?_)
  change V X (0, 0) w h 0 [some (.ref 0), some (.int x)] []
  have thr : V X (0, 0) w h 15 [some (.ref 0), some (.int x)] [] := v_throwSW C rfl tIOO sr363 (oX8_needNeighborhood.at 7 rfl) (oX8_needNeighborhood.at 8 rfl) (oX8_needNeighborhood.at 9 rfl) (oX8_needNeighborhood.at 10 rfl) (oX8_needNeighborhood.at 11 rfl) rfl rfl ⟨rfl, rfl⟩
  refine v_iload_n C (oX8_needNeighborhood.at 0 rfl) rfl ?_
  refine v_if_lt C (oX8_needNeighborhood.at 1 rfl) (tgt := 15) (by decide) (fun hc => ?_) (fun hc => ?_)
  · exact thr
  · refine v_iload_n C (oX8_needNeighborhood.at 2 rfl) rfl ?_
    refine v_aload_n C (oX8_needNeighborhood.at 3 rfl) rfl ?_
    refine v_getf C (oX8_needNeighborhood.at 4 rfl) fX8_10 ho rfl ?_
    refine v_getf C (oX8_needNeighborhood.at 5 rfl) fX8_100 hr rfl ?_
    refine v_icmp_lt C (oX8_needNeighborhood.at 6 rfl) (tgt := 26) (by decide) (fun hc => ?_) (fun hc => ?_)
    · exact absurd ⟨by assumption, hc⟩ hx
    · exact thr
theorem k_needNode {w : Wt} {h : Hp} {x : Int32} {sv : Bool} {k wd n m : Nat} (ho : h 0 = AO sv) (hr : h 1 = RO 1 k wd n m) (hx : InB x n) : ConN mX8_needNode 0 (0, 0) w [.ref 0, .int x] h (.inl none) (fun h' => h' = h) := by
  refine conI (by decide +kernel) ⟨fun _ => rfl, rfl, by simp⟩ (fun X C => ?_)
  change V X (0, 0) w h 0 [some (.ref 0), some (.int x)] []
  refine v_iload_n C (oX8_needNode.at 0 rfl) rfl ?_
  refine v_if_lt C (oX8_needNode.at 1 rfl) (tgt := 15) (by decide) (fun hc => ?_) (fun hc => ?_)
  · exact absurd hc hx.1
  · refine v_iload_n C (oX8_needNode.at 2 rfl) rfl ?_
    refine v_aload_n C (oX8_needNode.at 3 rfl) rfl ?_
    refine v_getf C (oX8_needNode.at 4 rfl) fX8_10 ho rfl ?_
    refine v_getf C (oX8_needNode.at 5 rfl) fX8_110 hr rfl ?_
    refine v_icmp_lt C (oX8_needNode.at 6 rfl) (tgt := 26) (by decide) (fun hc => ?_) (fun hc => ?_)
    · exact v_vret C (oX8_needNode.at 12 rfl) rfl rfl ⟨Nat.le_refl _, Nat.le_refl _⟩ ⟨rfl, rfl⟩
    · exact absurd hx.2 hc
theorem k_needNodeX {w : Wt} {h : Hp} {x : Int32} {sv : Bool} {k wd n m : Nat} (ho : h 0 = AO sv) (hr : h 1 = RO 1 k wd n m) (hx : ¬ InB x n) : ConN mX8_needNode 0 (1, 6) w [.ref 0, .int x] h (.inr EIOO) (fun h' => h' = h) := by
  refine conI (by decide +kernel) ⟨fun _ => rfl, rfl, by simp⟩ (fun X C => ?_)
  change V X (0, 0) w h 0 [some (.ref 0), some (.int x)] []
  have thr : V X (0, 0) w h 15 [some (.ref 0), some (.int x)] [] := v_throwSW C rfl tIOO sr365 (oX8_needNode.at 7 rfl) (oX8_needNode.at 8 rfl) (oX8_needNode.at 9 rfl) (oX8_needNode.at 10 rfl) (oX8_needNode.at 11 rfl) rfl rfl ⟨rfl, rfl⟩
  refine v_iload_n C (oX8_needNode.at 0 rfl) rfl ?_
  refine v_if_lt C (oX8_needNode.at 1 rfl) (tgt := 15) (by decide) (fun hc => ?_) (fun hc => ?_)
  · exact thr
  · refine v_iload_n C (oX8_needNode.at 2 rfl) rfl ?_
    refine v_aload_n C (oX8_needNode.at 3 rfl) rfl ?_
    refine v_getf C (oX8_needNode.at 4 rfl) fX8_10 ho rfl ?_
    refine v_getf C (oX8_needNode.at 5 rfl) fX8_110 hr rfl ?_
    refine v_icmp_lt C (oX8_needNode.at 6 rfl) (tgt := 26) (by decide) (fun hc => ?_) (fun hc => ?_)
    · exact absurd ⟨by assumption, hc⟩ hx
    · exact thr
