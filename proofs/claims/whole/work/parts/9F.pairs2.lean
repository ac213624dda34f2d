/-! ===== the program and the reference, method by method: 2 ===== -/
theorem sumN_bd {f : Nat → Nat} {c : Nat} (h : ∀ i, f i ≤ c) : ∀ n, sumN f n ≤ n * c
  | 0 => by simp [sumN]
  | n + 1 => by
    have h1 := sumN_bd h n
    have h2 := h n
    rw [Nat.add_mul, Nat.one_mul]
    show sumN f n + f n ≤ _
    omega
theorem prC_lt {k n : Nat} {T : Nat → Nat} (hn : n ≤ 9) : prC k n T < 2 ^ 31 := by
  have h1 : prC k n T ≤ n * n := sumN_bd (fun p => by
    have := sumN_bd (f := fun q => if p ≠ q ∧ wR (eB k n T) 81 (9 * p + q) (9 * p + q) = true then 1 else 0) (c := 1) (fun q => by
      show (if _ then 1 else 0) ≤ 1
      split <;> omega) n
    omega) n
  have h2 : n * n ≤ 9 * 9 := Nat.mul_le_mul hn hn
  omega
section JK2
variable {w : Wt} {S : Sc} {sv : Bool} {Z : Sc} {F : Sf}
theorem jm_orbit (O : OKS S Z F) {x y : Int32} : JM rwL_orbit mX8_orbit mX9_orbit [.int x, .int y] w S sv Z F := by
  by_cases hx : InB x 4
  · obtain ⟨n, hn, rfl⟩ := hx.n (by decide)
    by_cases hy : InB y 2
    · obtain ⟨m, hm, rfl⟩ := hy.n (by decide)
      have hy2 := in2.mp hy
      by_cases hl : S.2.2.2.1 n = 0 ∨ 8 < S.2.2.2.1 n
      · exact jm_thr (E := EISE) (r := 2) (by simp [rwL_orbit]) (by decide) (j8e rfl (fun h hP => k8_orbitX hP hn hy2 hl)) (j9p rfl (fun h th hR => k9_orbitX hR hn hm hl))
      · obtain ⟨s, j, h1, h2⟩ := fr_ex (itC S.1 S.2.1 S.2.2.1 (S.2.2.2.1 n) (S.2.2.2.2 n)) (S.1 ^ S.2.2.2.1 n) (itC_lt (kpos O.1.1).1 O.2.2.2 (O.1.2 n hn).2)
        rcases (by omega : m = 0 ∨ m = 1) with rfl | rfl
        · exact jm_ok (y := nI j) (j8p rfl (fun h hP => k8_orbit hP hn hy2 (by omega) (by omega) h2 h1)) (j9p rfl (fun h th hR => k9_orbit hR hn hm (by omega) (by omega) h2 h1))
        · exact jm_ok (y := nI (s - j)) (j8p rfl (fun h hP => k8_orbit hP hn hy2 (by omega) (by omega) h2 h1)) (j9p rfl (fun h th hR => k9_orbit hR hn hm (by omega) (by omega) h2 h1))
    · exact jm_thr (E := EIOO) (r := 1) (by simp [rwL_orbit]) (by decide) (j8e rfl (fun h hP => k8_orbitB hn (fun h => hy (in2.mpr h)))) (j9p rfl (fun h th hR => k9_orbitB hR hn hy))
  · exact jm_thr (E := EIOO) (r := 1) (by simp [rwL_orbit]) (by decide) (j8e rfl (fun h hP => k8_orbitR hx)) (j9p rfl (fun h th hR => k9_orbitR hR hx))
theorem jm_preimageCount {x : Int32} {c : Bool} : JM rwL_preimageCount mX8_preimageCount mX9_preimageCount [.int x, .int (bI c)] w S sv Z F := by
  by_cases hx : InB x 4
  · obtain ⟨n, hn, rfl⟩ := hx.n (by decide)
    exact jm_ok (j8p rfl (fun h hP => k8_preimageCount hP hn)) (j9p rfl (fun h th hR => k9_preimageCount hR hn))
  · exact jm_thr (E := EIOO) (r := 1) (by simp [rwL_preimageCount]) (by decide) (j8e rfl (fun h hP => k8_preimageCountX hx)) (j9p rfl (fun h th hR => k9_preimageCountX hR hx))
theorem jm_preimage (O : OKS S Z F) {x y v : Int32} {c : Bool} : JM rwL_preimage mX8_preimage mX9_preimage [.int x, .int (bI c), .int y, .int v] w S sv Z F := by
  by_cases hx : InB x 4
  · obtain ⟨n, hn, rfl⟩ := hx.n (by decide)
    by_cases hv : InB v 4
    · obtain ⟨t, ht, rfl⟩ := hv.n (by decide)
      by_cases hl : pLn S n c ≤ 14
      · have hN : (y < 0 ∨ ∃ q, q < 2 ^ 31 ∧ y = nI q ∧ preB S n c q = false) ∨ ∃ q, q < 2 ^ 31 ∧ y = nI q ∧ preB S n c q = true := by
          rcases i32c y with hy | ⟨q, hq, rfl⟩
          · exact .inl (.inl hy)
          · cases hb : preB S n c q with
            | false => exact .inl (.inr ⟨q, hq, rfl, hb⟩)
            | true => exact .inr ⟨q, hq, rfl, hb⟩
        rcases hN with hN | ⟨q, hq, rfl, hb⟩
        · exact jm_thr (E := ENSE) (r := 3) (by simp [rwL_preimage]) (by decide) (j8p rfl (fun h hP => k8_preN hP hn ht hl hN)) (j9p rfl (fun h th hR => k9_preN hR hn ht hl hN))
        · have hI := preI_lt O.1.1 (x := n) (n := q) (c := c)
          exact jm_ok (j8p rfl (fun h hP => k8_pre hP hn ht hl hq hb hI)) (j9p rfl (fun h th hR => k9_pre hR hn ht hl hq hb hI (fun hc _ => by subst hc; exact short_ok O.1 O.2.2.2 hn hb)))
      · exact jm_thr (E := EISE) (r := 2) (by simp [rwL_preimage]) (by decide) (j8e rfl (fun h hP => k8_preL hP hn ht (by omega))) (j9p rfl (fun h th hR => k9_preL hR hn ht (by omega)))
    · exact jm_thr (E := EIOO) (r := 1) (by simp [rwL_preimage]) (by decide) (j8e rfl (fun h hP => k8_preT hn hv)) (j9p rfl (fun h th hR => k9_preT hR hn hv))
  · exact jm_thr (E := EIOO) (r := 1) (by simp [rwL_preimage]) (by decide) (j8e rfl (fun h hP => k8_preR hx)) (j9p rfl (fun h th hR => k9_preR hR hx))
theorem jm_preimagesBetween (O : OKS S Z F) {x y v : Int32} : JM rwL_preimagesBetween mX8_preimagesBetween mX9_preimagesBetween [.int x, .int y, .int v] w S sv Z F := by
  have h9 : S.1 ^ (S.2.1 - 1) < 2 ^ 31 := by have := (pn9 O.1.1).2; omega
  by_cases hx : InB x 4
  · obtain ⟨n, hn, rfl⟩ := hx.n (by decide)
    by_cases hy : InB y (S.1 ^ (S.2.1 - 1))
    · obtain ⟨m, hm, rfl⟩ := hy.n h9
      by_cases hv : InB v (S.1 ^ (S.2.1 - 1))
      · obtain ⟨t, ht, rfl⟩ := hv.n h9
        exact jm_ok (j8p rfl (fun h hP => k8_between hP hn hm ht)) (j9p rfl (fun h th hR => k9_between hR hn hm ht))
      · exact jm_thr (E := EIOO) (r := 1) (by simp [rwL_preimagesBetween]) (by decide) (j8e rfl (fun h hP => k8_betweenL hP hn hm hv)) (j9p rfl (fun h th hR => k9_betweenL hR hn hm hv))
    · exact jm_thr (E := EIOO) (r := 1) (by simp [rwL_preimagesBetween]) (by decide) (j8e rfl (fun h hP => k8_betweenF hP hn hy)) (j9p rfl (fun h th hR => k9_betweenF hR hn hy))
  · exact jm_thr (E := EIOO) (r := 1) (by simp [rwL_preimagesBetween]) (by decide) (j8e rfl (fun h hP => k8_betweenR hx)) (j9p rfl (fun h th hR => k9_betweenR hR hx))
theorem jm_wordsWith {x y : Int32} : JM rwL_wordsWith mX8_wordsWith mX9_wordsWith [.int x, .int y] w S sv Z F := by
  by_cases hx : InB x 8
  · obtain ⟨n, hn, rfl⟩ := hx.n (by decide)
    exact jm_ok (j8p rfl (fun h hP => k8_wordsWith hP (by omega))) (j9p rfl (fun h th hR => k9_wordsWith hR (by omega)))
  · exact jm_thr (E := EIAE) (r := 1) (by simp [rwL_wordsWith]) (by decide) (j8e rfl (fun h hP => k8_wordsWithX (fun h => hx ((inle (n := 7) (by decide)).mpr h)))) (j9p rfl (fun h th hR => k9_wordsWithX hR hx))
theorem jm_mostPreimages {x : Int32} : JM rwL_mostPreimages mX8_mostPreimages mX9_mostPreimages [.int x] w S sv Z F := by
  by_cases hx : InB x 8
  · obtain ⟨n, hn, rfl⟩ := hx.n (by decide)
    exact jm_ok (j8p rfl (fun h hP => k8_mostPreimages hP (by omega))) (j9p rfl (fun h th hR => k9_most hR (by omega)))
  · exact jm_thr (E := EIAE) (r := 1) (by simp [rwL_mostPreimages]) (by decide) (j8e rfl (fun h hP => k8_mostPreimagesX (fun h => hx ((inle (n := 7) (by decide)).mpr h)))) (j9p rfl (fun h th hR => k9_mostX hR hx))
theorem jm_fixedWords (O : OKS S Z F) {x : Int32} : JM rwL_fixedWords mX8_fixedWords mX9_fixedWords [.int x] w S sv Z F := by
  by_cases hx : ¬ x < nI 1 ∧ x ≤ nI 8
  · have hn : ∃ n, 1 ≤ n ∧ n ≤ 8 ∧ x = nI n := by
      obtain ⟨h1, h2⟩ := hx
      rcases i32c x with h0 | ⟨n, hn, rfl⟩
      · rw [Int32.lt_iff_toInt_lt, nI_toInt (by decide)] at h1
        rw [Int32.lt_iff_toInt_lt] at h0
        have e0 : (0 : Int32).toInt = 0 := by decide
        omega
      · rw [Int32.lt_iff_toInt_lt, nI_toInt hn, nI_toInt (by decide)] at h1
        rw [Int32.le_iff_toInt_le, nI_toInt hn, nI_toInt (by decide)] at h2
        exact ⟨n, by omega, by omega, rfl⟩
    obtain ⟨n, h1, h2, rfl⟩ := hn
    have he := fixed_eq (k := S.1) (wd := S.2.1) (T := S.2.2.1) (kpos O.1.1).1 (kpos O.1.1).2.2.1 O.2.2.2 h1
    refine jm_ok (j8p rfl (fun h hP => k8_fixedWords hP h1 h2)) (j9p (d := 2) rfl (fun h th hR => ?_))
    rw [he]
    exact k9_fixed hR h1 h2
  · exact jm_thr (E := EIAE) (r := 1) (by simp [rwL_fixedWords]) (by decide) (j8e rfl (fun h hP => k8_fixedWordsX hx)) (j9p rfl (fun h th hR => k9_fixedX hR (fun h => hx ⟨h.1, Int32.not_lt.mp h.2⟩)))
theorem jm_edge (O : OKS S Z F) {x y v : Int32} : JM rwL_edge mX8_edge mX9_edge [.int x, .int y, .int v] w S sv Z F := by
  by_cases hx : InB x (S.1 ^ (S.2.1 - 1))
  · obtain ⟨n, hn, rfl⟩ := hx.n (by have := (pn9 O.1.1).2; omega)
    by_cases hy : InB y S.1
    · obtain ⟨m, hm, rfl⟩ := hy.n (by have := (kpos O.1.1).2.1; omega)
      by_cases hv : InB v 2
      · obtain ⟨t, ht, rfl⟩ := hv.n (by decide)
        have hv2 := in2.mp hv
        rcases (by omega : t = 0 ∨ t = 1) with rfl | rfl
        · exact jm_ok (y := nI ((n * S.1 + m) % S.1 ^ (S.2.1 - 1))) (j8e rfl (fun h hP => k8_edge hP hn hm hv2)) (j9p rfl (fun h th hR => k9_edge hR hn hm ht))
        · exact jm_ok (y := nI (S.2.2.1 (n * S.1 + m))) (j8e rfl (fun h hP => k8_edge hP hn hm hv2)) (j9p rfl (fun h th hR => k9_edge hR hn hm ht))
      · exact jm_thr (E := EIOO) (r := 1) (by simp [rwL_edge]) (by decide) (j8e rfl (fun h hP => k8_edgeB hP hn hm (fun h => hv (in2.mpr h)))) (j9p rfl (fun h th hR => k9_edgeB hR hn hm hv))
    · exact jm_thr (E := EIOO) (r := 1) (by simp [rwL_edge]) (by decide) (j8e rfl (fun h hP => k8_edgeS hP hn hy)) (j9p rfl (fun h th hR => k9_edgeS hR hn hy))
  · exact jm_thr (E := EIOO) (r := 1) (by simp [rwL_edge]) (by decide) (j8e rfl (fun h hP => k8_edgeN hP hx)) (j9p rfl (fun h th hR => k9_edgeN hR hx))
theorem jm_orphans (O : OKS S Z F) {x : Int32} : JM rwL_orphans mX8_orphans mX9_orphans [.int x] w S sv Z F := by
  by_cases hx : InB x 13
  · obtain ⟨n, hn, rfl⟩ := hx.n (by decide)
    obtain ⟨e, he5, he⟩ := bend_ex (k := S.1) (T := S.2.2.1) (pn9 O.1.1).1 (pn9 O.1.1).2
    obtain ⟨nx, hnx⟩ := nx_ex O.1.1 he
    have hm := mn_eq O.1.1 he hnx n
    by_cases h0 : ∃ j, j < e ∧ Qs S e j = 0
    · obtain ⟨j, hj, hj0⟩ := h0
      have e1 := hm.1 j hj
      rw [hj0] at e1
      refine jm_ok (j8p rfl (fun h hP => k8_orphans hP (by omega) he hnx hj hj0)) (j9p (d := 3) rfl (fun h th hR => ?_))
      rw [← e1]
      exact k9_orphans hR (by omega)
    · have h0 : ∀ j, j < e → Qs S e j ≠ 0 := fun j hj hq => h0 ⟨j, hj, hq⟩
      have e1 := hm.2 0 (by decide) h0
      refine jm_ok (y := nI 0) (j8p rfl (fun h hP => k8_orphans0 hP (by omega) he h0)) (j9p (d := 3) rfl (fun h th hR => ?_))
      have h3 := k9_orphans (w := w) hR (x := n) (by omega)
      rw [e1] at h3
      exact h3
  · exact jm_thr (E := EIAE) (r := 1) (by simp [rwL_orphans]) (by decide) (j8e rfl (fun h hP => k8_orphansX (fun h => hx ((inle (n := 12) (by decide)).mpr h)))) (j9p rfl (fun h th hR => k9_orphansX hR hx))
theorem jm_shortestOrphan (O : OKS S Z F) {x : Int32} : JM rwL_shortestOrphan mX8_shortestOrphan mX9_shortestOrphan [.int x] w S sv Z F := by
  by_cases hx : InB x 4
  · obtain ⟨n, hn, rfl⟩ := hx.n (by decide)
    obtain ⟨e, he5, he⟩ := bend_ex (k := S.1) (T := S.2.2.1) (pn9 O.1.1).1 (pn9 O.1.1).2
    by_cases h0 : ∃ j, j < e ∧ Qs S e j = 0
    · obtain ⟨j, hj, hj0⟩ := h0
      by_cases hl : oLn S e j ≤ 14
      · exact jm_ok (j8p rfl (fun h hP => k8_shortest hP hn he hj hj0 hl (oIx_lt O.1.1 he hj))) (j9p rfl (fun h th hR => k9_shortest hR hn he hj hj0 hl (oIx_lt O.1.1 he hj)))
      · exact jm_thr (E := EISE) (r := 3) (by simp [rwL_shortestOrphan]) (by decide) (j8p rfl (fun h hP => k8_shortestL hP hn he hj hj0 (by omega) oLn_lt)) (j9p rfl (fun h th hR => k9_shortestL hR hn he hj hj0 (by omega) oLn_lt))
    · have h0 : ∀ j, j < e → Qs S e j ≠ 0 := fun j hj hq => h0 ⟨j, hj, hq⟩
      exact jm_thr (E := ENSE) (r := 2) (by simp [rwL_shortestOrphan]) (by decide) (j8p rfl (fun h hP => k8_shortestN hP hn he h0)) (j9p rfl (fun h th hR => k9_shortestN hR hn he h0))
  · exact jm_thr (E := EIOO) (r := 1) (by simp [rwL_shortestOrphan]) (by decide) (j8e rfl (fun h hP => k8_shortestR hx)) (j9p rfl (fun h th hR => k9_shortestR hR hx))
theorem jm_inverse {x : Int32} : JM rwL_inverse mX8_inverse mX9_inverse [.int x] w S sv Z F := by
  by_cases hx : InB x 2
  · obtain ⟨n, hn, rfl⟩ := hx.n (by decide)
    have hx2 := in2.mp hx
    obtain ⟨m, q, hI⟩ := inR_ex S.1 S.2.1 S.2.2.1
    by_cases hm : m = 0
    · subst hm
      exact jm_thr (E := ENSE) (r := 2) (by simp [rwL_inverse]) (by decide) (j8p rfl (fun h hP => k8_inverseX hP hx2 hI)) (j9p rfl (fun h th hR => k9_inverseX hR hn hI))
    · rcases (by omega : n = 0 ∨ n = 1) with rfl | rfl
      · exact jm_ok (y := nI m) (j8p rfl (fun h hP => k8_inverse hP hx2 hI hm)) (j9p rfl (fun h th hR => k9_inverse hR hn hI hm))
      · exact jm_ok (y := nI q) (j8p rfl (fun h hP => k8_inverse hP hx2 hI hm)) (j9p rfl (fun h th hR => k9_inverse hR hn hI hm))
  · exact jm_thr (E := EIOO) (r := 1) (by simp [rwL_inverse]) (by decide) (j8e rfl (fun h hP => k8_inverseB (fun h => hx (in2.mpr h)))) (j9p rfl (fun h th hR => k9_inverseB hR hx))
theorem jm_inverseOutput (O : OKS S Z F) {x : Int32} : JM rwL_inverseOutput mX8_inverseOutput mX9_inverseOutput [.int x] w S sv Z F := by
  obtain ⟨m, q, hI⟩ := inR_ex S.1 S.2.1 S.2.2.1
  by_cases hm : m = 0
  · subst hm
    exact jm_thr (E := ENSE) (r := 1) (by simp [rwL_inverseOutput]) (by decide) (j8p rfl (fun h hP => k8_inverseOutputN hP hI)) (j9p rfl (fun h th hR => k9_inverseOutputN hR hI))
  · have h5 : m ≤ 5 ∧ inB S.1 S.2.1 S.2.2.1 m q = true := by
      rcases hI with ⟨h1, -⟩ | ⟨-, h2, -, h3, -⟩
      · exact absurd h1 hm
      · exact ⟨h2, h3⟩
    by_cases hx : InB x (S.1 ^ m)
    · obtain ⟨y, hy, rfl⟩ := hx.n (p31 O.1 (by omega))
      obtain ⟨t, ht, hty⟩ := (inB_iff.mp h5.2).1 y hy
      exact jm_ok (j8p rfl (fun h hP => k8_inverseOutput hP hI hm hy ht hty)) (j9p rfl (fun h th hR => k9_inverseOutput hR hI hm h5.1 hy ht hty))
    · exact jm_thr (E := EIOO) (r := 2) (by simp [rwL_inverseOutput]) (by decide) (j8p rfl (fun h hP => k8_inverseOutputX hP hI hm hx)) (j9p rfl (fun h th hR => k9_inverseOutputX hR hI hm h5.1 hx))
theorem jm_restore : JML rwL_restore mX8_restore mX9_restore [] w S sv Z F := by
  cases sv with
  | false => exact jml_thr (E := EISE) (r := 1) (by simp [rwL_restore]) (by decide) (j8e rfl (fun h hP => k8_restoreX hP)) (j9p rfl (fun h th hR => k9_restoreX hR))
  | true => exact jml_ok (j8p rfl (fun h hP => k8_restore hP)) (j9p rfl (fun h th hR => k9_restore hR))
theorem jm_has (O : OKS S Z F) {x : Int32} : JMB rwL_has mX8_has mX9_has [.int x] w S sv Z F := by
  have hs := O.1.1
  have hk := kpos hs
  have h9 := pn9 hs
  by_cases hx : InB x 7
  · obtain ⟨n, hn, rfl⟩ := hx.n (by decide)
    rcases (by omega : n = 0 ∨ n = 1 ∨ n = 2 ∨ n = 3 ∨ n = 4 ∨ n = 5 ∨ n = 6) with rfl | rfl | rfl | rfl | rfl | rfl | rfl
    · obtain ⟨e, he5, he⟩ := bend_ex (k := S.1) (T := S.2.2.1) h9.1 h9.2
      by_cases h0 : ∃ j, j < e ∧ Qs S e j = 0
      · obtain ⟨j, hj, hj0⟩ := h0
        exact jmb_ok (j8p rfl (fun h hP => k8_has0f hP he hj hj0)) (j9p rfl (fun h th hR => k9_has0f hR he hj hj0))
      · have h0 : ∀ j, j < e → Qs S e j ≠ 0 := fun j hj hq => h0 ⟨j, hj, hq⟩
        exact jmb_ok (j8p rfl (fun h hP => k8_has0t hP he h0)) (j9p rfl (fun h th hR => k9_has0t hR he h0))
    · have e1 := prC_eq (k := S.1) (T := S.2.2.1) h9.1 h9.2
      refine jmb_ok (j8p rfl (fun h hP => k8_has1 hP)) (j9p (d := 4) rfl (fun h th hR => ?_))
      rw [← e1]
      exact k9_has1 hR (prC_lt h9.2)
    · refine jmb_ok (j8e rfl (fun h hP => k8_has2 hP)) (j9p (d := 4) rfl (fun h th hR => ?_))
      rw [← pm_left hs]
      exact k9_has2 hR
    · refine jmb_ok (j8e rfl (fun h hP => k8_has3 hP)) (j9p (d := 4) rfl (fun h th hR => ?_))
      rw [← pm_right hs]
      exact k9_has3 hR
    · exact jmb_ok (j8p rfl (fun h hP => k8_has4 hP)) (j9p rfl (fun h th hR => k9_has4 hR))
    · have e1 := made_eq (S := S) (T' := mrT S S.2.2.1) hk.1 (fun i hi => ⟨O.2.2.2 i hi, O.2.2.2 _ (rvw_lt hk.1 i S.2.1)⟩)
      refine jmb_ok (j8p rfl (fun h hP => k8_has5 hP)) (j9p (d := 4) rfl (fun h th hR => ?_))
      rw [← e1]
      exact k9_has5 hR
    · have e1 := made_eq (S := S) (T' := cmT S S.2.2.1) hk.1 (fun i hi => ⟨O.2.2.2 i hi, by show S.1 - 1 - _ < S.1; omega⟩)
      refine jmb_ok (j8p rfl (fun h hP => k8_has6 hP)) (j9p (d := 4) rfl (fun h th hR => ?_))
      rw [← e1]
      exact k9_has6 hR
  · exact jmb_thr (y := false) (E := EIOO) (r := 1) (by simp [rwL_has]) (by decide) (j8e rfl (fun h hP => k8_hasX hx)) (j9p rfl (fun h th hR => k9_hasX hR hx))
theorem jd_number : JD mX8_number mX9_number (.long (lN (hN S S.2.2.1))) w S sv Z F := ⟨S, sv, Z, F, 0, j8e rfl (fun h hP => k8_number hP), j9p rfl (fun h th hR => k9_number hR)⟩
theorem jd_leastNumber : JD mX8_leastNumber mX9_leastNumber (.long (lN (lsN S))) w S sv Z F := ⟨S, sv, Z, F, 0, j8p rfl (fun h hP => k8_leastNumber hP), j9p rfl (fun h th hR => k9_leastNumber hR)⟩
theorem jd_save : JD mX8_save mX9_save (.long (lN (numS S))) w S sv Z F := ⟨S, true, S, F, 0, j8p rfl (fun h hP => k8_save hP), j9p rfl (fun h th hR => k9_save hR)⟩
theorem jd_mirror : JD mX8_mirror mX9_mirror (.int (nI (chg S.2.2.1 (mrT S S.2.2.1) (S.1 ^ S.2.1)))) w S sv Z F := ⟨withT S (mrT S S.2.2.1), sv, Z, F, 0, j8p rfl (fun h hP => k8_mirror hP), j9p rfl (fun h th hR => k9_mirror hR)⟩
theorem jd_complement : JD mX8_complement mX9_complement (.int (nI (chg S.2.2.1 (cmT S S.2.2.1) (S.1 ^ S.2.1)))) w S sv Z F := ⟨withT S (cmT S S.2.2.1), sv, Z, F, 0, j8p rfl (fun h hP => k8_complement hP), j9p rfl (fun h th hR => k9_complement hR)⟩
theorem jd_subsets (O : OKS S Z F) : ∃ e, JD mX8_subsets mX9_subsets (.int (nI e)) w S sv Z F := by
  obtain ⟨e, he5, he⟩ := bend_ex (k := S.1) (T := S.2.2.1) (pn9 O.1.1).1 (pn9 O.1.1).2
  exact ⟨e, S, sv, Z, F, 0, j8p rfl (fun h hP => k8_subsets hP he), j9p rfl (fun h th hR => k9_subsets hR he)⟩
theorem jd_cyclicPairs (O : OKS S Z F) : JD mX8_cyclicPairs mX9_cyclicPairs (.int (nI (cycN S.1 (S.1 ^ (S.2.1 - 1)) S.2.2.1))) w S sv Z F := by
  refine ⟨S, sv, Z, F, 0, j8p rfl (fun h hP => k8_cyclicPairs hP), j9p (d := 3) rfl (fun h th hR => ?_)⟩
  rw [← prC_eq (k := S.1) (T := S.2.2.1) (pn9 O.1.1).1 (pn9 O.1.1).2]
  exact k9_cyclicPairs hR
end JK2
