/-! ===== Paths: counting backwards ===== -/
abbrev PO (p : Nat) (a b : Int32) (len : Nat) : PE := ob 4 [.int a, .int b, .int (nI len), .ref (p + 1), .ref (p + 2)]
def rws (p : Nat) : Nat → Option Nat := fun i => if i < 15 then some (p + 3 + i) else none
def PaOK (h : Hp) (p : Nat) (a b : Int32) (len : Nat) (lf : Nat → Int32) (Wf : Nat → Nat → Int32) : Prop := h p = PO p a b len ∧ h (p + 1) = io 14 lf ∧ h (p + 2) = ao 15 (rws p) ∧ ∀ i, i < 15 → h (p + 3 + i) = io 9 (Wf i)
theorem PaOK.eq {h h' : Hp} {p : Nat} {a b : Int32} {len : Nat} {lf : Nat → Int32} {Wf : Nat → Nat → Int32} (hR : PaOK h p a b len lf Wf) (he : ∀ j, p ≤ j → j ≤ p + 17 → h' j = h j) : PaOK h' p a b len lf Wf :=
  ⟨(he _ (by omega) (by omega)).trans hR.1, (he _ (by omega) (by omega)).trans hR.2.1, (he _ (by omega) (by omega)).trans hR.2.2.1, fun i hi => (he _ (by omega) (by omega)).trans (hR.2.2.2 i hi)⟩
def upW (Wf : Nat → Nat → Int32) (i : Nat) (g : Nat → Int32) : Nat → Nat → Int32 := fun j => if j = i then g else Wf j
theorem PaOK.row {h : Hp} {p : Nat} {a b : Int32} {len : Nat} {lf : Nat → Int32} {Wf : Nat → Nat → Int32} (hR : PaOK h p a b len lf Wf) {i : Nat} (g : Nat → Int32) : PaOK (hu h (p + 3 + i) (io 9 g)) p a b len lf (upW Wf i g) := by
  refine ⟨(hu_n _ _ (by omega)).trans hR.1, (hu_n _ _ (by omega)).trans hR.2.1, (hu_n _ _ (by omega)).trans hR.2.2.1, fun j hj => ?_⟩
  unfold upW
  by_cases e : j = i
  · subst e; rw [if_pos rfl, hu_s]
  · rw [if_neg e, hu_n _ _ (by omega)]; exact hR.2.2.2 j hj
theorem rws_at {p i : Nat} (h : i < 15) : rws p i = some (p + 3 + i) := if_pos h
def sumN (f : Nat → Nat) : Nat → Nat
  | 0 => 0
  | n + 1 => sumN f n + f n
theorem sumN_congr {f g : Nat → Nat} : ∀ n, (∀ i, i < n → f i = g i) → sumN f n = sumN g n
  | 0, _ => rfl
  | n + 1, h => by rw [sumN, sumN, sumN_congr n (fun i hi => h i (by omega)), h n (by omega)]
/-- the numbers of ways, j steps before the end -/
def wB (k n : Nat) (T lb : Nat → Nat) (len : Nat) (B : Nat → Nat) : Nat → Nat → Nat
  | 0, v => B v
  | j + 1, v => sumN (fun s => if T (v * k + s) = lb (len - 1 - j) then wB k n T lb len B j ((v * k + s) % n) else 0) k
theorem k_sumOf {w : Wt} {h : Hp} {r k wd n m q : Nat} {g : Nat → Int32} {F : Nat → Nat} (hr : h r = RO r k wd n m) (hn : n ≤ 9) (hq : h q = io 9 g) (hg : ∀ v, v < n → g v = nI (F v)) : ConN mX4_sumOf 0 (0, 0) w [.ref r, .ref q] h (.inl (some (.int (nI (sumN F n))))) (fun h' => h' = h) := by
  refine conI (by decide +kernel) ⟨fun _ => rfl, rfl, by simp⟩ (fun X C => ?_)
  change V X (0, 0) w h 0 [some (.ref r), some (.ref q), none, none] []
  refine v_iconst C (oX4_sumOf.at 0 rfl) (v := nI 0) rfl ?_
  refine v_istore_n C (oX4_sumOf.at 1 rfl) rfl ?_
  refine v_iconst C (oX4_sumOf.at 2 rfl) (v := nI 0) rfl ?_
  refine v_istore_n C (oX4_sumOf.at 3 rfl) rfl ?_
  dsimp only [sto1, sto2, killL]
  suffices H : ∀ j i, i + j = n → V X (0, 0) w h 4 [some (.ref r), some (.ref q), some (.int (nI (sumN F i))), some (.int (nI i))] [] from H n 0 (by omega)
  intro j
  induction j with
  | zero =>
    intro i hi
    refine v_iload_n C (oX4_sumOf.at 4 rfl) rfl ?_
    refine v_aload_n C (oX4_sumOf.at 5 rfl) rfl ?_
    refine v_getf C (oX4_sumOf.at 6 rfl) fX4_42 hr rfl ?_
    refine v_icmp_geN C (oX4_sumOf.at 7 rfl) (tgt := 24) (by decide) (by omega) (by omega) (fun hc => ?_) (fun hc => ?_)
    · have e : i = n := by omega
      subst e
      refine v_iload_n C (oX4_sumOf.at 16 rfl) rfl ?_
      exact v_iret C (oX4_sumOf.at 17 rfl) rfl rfl ⟨Nat.le_refl _, Nat.le_refl _⟩ ⟨rfl, rfl⟩
    · exact absurd hc (by omega)
  | succ j ih =>
    intro i hi
    refine v_iload_n C (oX4_sumOf.at 4 rfl) rfl ?_
    refine v_aload_n C (oX4_sumOf.at 5 rfl) rfl ?_
    refine v_getf C (oX4_sumOf.at 6 rfl) fX4_42 hr rfl ?_
    refine v_icmp_geN C (oX4_sumOf.at 7 rfl) (tgt := 24) (by decide) (by omega) (by omega) (fun hc => ?_) (fun hc => ?_)
    · exact absurd hc (by omega)
    · refine v_iload_n C (oX4_sumOf.at 8 rfl) rfl ?_
      refine v_aload_n C (oX4_sumOf.at 9 rfl) rfl ?_
      refine v_iload_n C (oX4_sumOf.at 10 rfl) rfl ?_
      refine v_iald C (oX4_sumOf.at 11 rfl) hq (by decide) rfl (by omega) (hg _ (by omega)) ?_
      refine v_iaddN C (oX4_sumOf.at 12 rfl) ?_
      refine v_istore_n C (oX4_sumOf.at 13 rfl) rfl ?_
      refine v_iincN C (oX4_sumOf.at 14 rfl) rfl ?_
      refine v_goto C (oX4_sumOf.at 15 rfl) (tgt := 4) (by decide) ?_
      dsimp only [sto1, sto2, killL]
      exact ih (i + 1) (by omega)
theorem k_waysBy {w : Wt} {h : Hp} {p r k wd nb pl len : Nat} {a b : Int32} {T : Nat → Nat} {lf : Nat → Int32} {Wf : Nat → Nat → Int32} {lv x : Nat} (hR : RuleOK h r k wd T) (hs : SZ k wd) (hP : PaOK h p a b len lf Wf) (hnb : nb < k ^ wd) (hpl : pl < 14) (hlv : lf pl = nI lv) (hlv2 : lv < 3) (hx : Wf (pl + 1) (nb % k ^ (wd - 1)) = nI x) : ConN mX4_waysBy 0 (0, 0) w [.ref p, .ref r, .int (nI nb), .int (nI pl)] h (.inl (some (.int (nI (if T nb = lv then x else 0))))) (fun h' => h' = h) := by
  obtain ⟨f, g, e, v, t, hr, ht, hT, hg, hG, -⟩ := hR
  have hm := hs.m
  have hk := hs.k
  have hTn := (hT nb hnb)
  have hmod := Nat.mod_lt nb hs.n0
  have hn9 := hs.n
  refine conI (by decide +kernel) ⟨fun _ => rfl, rfl, by simp⟩ (fun X C => ?_)
  change V X (0, 0) w h 0 [some (.ref p), some (.ref r), some (.int (nI nb)), some (.int (nI pl))] []
  refine v_aload_n C (oX4_waysBy.at 0 rfl) rfl ?_
  refine v_getf C (oX4_waysBy.at 1 rfl) fX4_81 hr rfl ?_
  refine v_iload_n C (oX4_waysBy.at 2 rfl) rfl ?_
  refine v_iald C (oX4_waysBy.at 3 rfl) ht (by decide) rfl (by omega) hTn.1 ?_
  refine v_aload_n C (oX4_waysBy.at 4 rfl) rfl ?_
  refine v_getf C (oX4_waysBy.at 5 rfl) fX4_9 hP.1 rfl ?_
  refine v_iload_n C (oX4_waysBy.at 6 rfl) rfl ?_
  refine v_iald C (oX4_waysBy.at 7 rfl) hP.2.1 (by decide) rfl (by omega) hlv ?_
  refine v_icmp_neN C (oX4_waysBy.at 8 rfl) (tgt := 33) (by decide) (by omega) (by omega) (fun hc => ?_) (fun hc => ?_)
  · rw [if_neg hc] at C
    refine v_iconst C (oX4_waysBy.at 21 rfl) (v := nI 0) rfl ?_
    exact v_iret C (oX4_waysBy.at 22 rfl) rfl rfl ⟨Nat.le_refl _, Nat.le_refl _⟩ ⟨rfl, rfl⟩
  · rw [if_pos hc] at C
    refine v_aload_n C (oX4_waysBy.at 9 rfl) rfl ?_
    refine v_getf C (oX4_waysBy.at 10 rfl) fX4_19 hP.1 rfl ?_
    refine v_iload_n C (oX4_waysBy.at 11 rfl) rfl ?_
    refine v_iconst C (oX4_waysBy.at 12 rfl) (v := nI 1) rfl ?_
    refine v_iaddN C (oX4_waysBy.at 13 rfl) ?_
    refine v_aald C (oX4_waysBy.at 14 rfl) hP.2.2.1 (by decide) rfl (by omega) (rws_at (by omega)) ?_
    refine v_aload_n C (oX4_waysBy.at 15 rfl) rfl ?_
    refine v_getf C (oX4_waysBy.at 16 rfl) fX4_69 hr rfl ?_
    refine v_iload_n C (oX4_waysBy.at 17 rfl) rfl ?_
    refine v_iald C (oX4_waysBy.at 18 rfl) hg (by decide) rfl (by omega) (hG _ hnb) ?_
    refine v_iald C (oX4_waysBy.at 19 rfl) (hP.2.2.2 _ (by omega)) (by decide) rfl (by omega) hx ?_
    refine v_goto C (oX4_waysBy.at 20 rfl) (tgt := 34) (by decide) ?_
    exact v_iret C (oX4_waysBy.at 22 rfl) rfl rfl ⟨Nat.le_refl _, Nat.le_refl _⟩ ⟨rfl, rfl⟩
theorem k_countBackwards {w : Wt} {h : Hp} {p r k wd len : Nat} {a b : Int32} {T lb B : Nat → Nat} {lf : Nat → Int32} {Wf : Nat → Nat → Int32} (hR : RuleOK h r k wd T) (hs : SZ k wd) (hP : PaOK h p a b len lf Wf) (hsep : r + 5 < p) (hlen : len ≤ 14) (hlb : ∀ i, i < len → lf i = nI (lb i) ∧ lb i < 3) (hB : ∀ v, v < k ^ (wd - 1) → Wf len v = nI (B v)) : ConN mX4_countBackwards 1 (0, 0) w [.ref p, .ref r] h (.inl none) (fun h' => (∃ Wf', PaOK h' p a b len lf Wf' ∧ ∀ i v, i ≤ len → v < k ^ (wd - 1) → Wf' i v = nI (wB k (k ^ (wd - 1)) T lb len B (len - i) v)) ∧ ∀ j, (j < p ∨ p + 17 < j) → h' j = h j) := by
  have hr := hR.ro
  have hn9 := hs.n
  have hk := hs.k
  have hnk := hs.nk
  have hm := hs.m
  generalize hnn : k ^ (wd - 1) = n at *
  refine conI (by decide +kernel) ⟨fun _ => rfl, rfl, by simp⟩ (fun X C => ?_)
  change V X (0, 0) w h 0 [some (.ref p), some (.ref r), none, none, none, none] []
  refine v_aload_n C (oX4_countBackwards.at 0 rfl) rfl ?_
  refine v_getf C (oX4_countBackwards.at 1 rfl) fX4_22 hP.1 rfl ?_
  refine v_iconst C (oX4_countBackwards.at 2 rfl) (v := nI 1) rfl ?_
  refine v_isubP C (oX4_countBackwards.at 3 rfl) ?_
  refine v_istore_n C (oX4_countBackwards.at 4 rfl) rfl ?_
  dsimp only [sto1, sto2, killL]
  suffices H : ∀ ai h1 Wf1 l3 l4 l5, ai ≤ len → PaOK h1 p a b len lf Wf1 → (∀ j, (j < p ∨ p + 17 < j) → h1 j = h j) → (∀ i v, ai ≤ i → i ≤ len → v < n → Wf1 i v = nI (wB k n T lb len B (len - i) v)) → V X (0, 0) w h1 7 [some (.ref p), some (.ref r), some (.int (pI ai)), l3, l4, l5] [] by
    refine H len h Wf none none none (Nat.le_refl _) hP (fun _ _ => rfl) (fun i v h1 h2 h3 => ?_)
    have e : i = len := by omega
    subst e
    rw [Nat.sub_self, wB]
    exact hB v h3
  intro ai
  induction ai with
  | zero =>
    intro h1 Wf1 l3 l4 l5 hai hP1 hfr hw1
    refine v_iload_n C (oX4_countBackwards.at 5 rfl) rfl ?_
    refine v_if_ltP C (oX4_countBackwards.at 6 rfl) (tgt := 84) (by decide) (by omega) (fun hc => ?_) (fun b hc => ?_)
    · exact v_vret C (oX4_countBackwards.at 47 rfl) rfl rfl ⟨Nat.le_refl _, Nat.le_refl _⟩ ⟨rfl, ⟨Wf1, hP1, fun i v e1 e2 => hw1 i v (Nat.zero_le _) e1 e2⟩, hfr⟩
    · cases hc
  | succ ai ih =>
    intro h1 Wf1 l3 l4 l5 hai hP1 hfr hw1
    refine v_iload_n C (oX4_countBackwards.at 5 rfl) rfl ?_
    refine v_if_ltP C (oX4_countBackwards.at 6 rfl) (tgt := 84) (by decide) (by omega) (fun hc => ?_) (fun b hc => ?_)
    · cases hc
    · cases hc
      rw [pI_succ]
      refine v_iconst C (oX4_countBackwards.at 7 rfl) (v := nI 0) rfl ?_
      refine v_istore_n C (oX4_countBackwards.at 8 rfl) rfl ?_
      dsimp only [sto1, sto2, killL]
      suffices H : ∀ d v h1 Wf1 l4 l5, v + d = n → PaOK h1 p a b len lf Wf1 → (∀ j, (j < p ∨ p + 17 < j) → h1 j = h j) → (∀ i u, ai + 1 ≤ i → i ≤ len → u < n → Wf1 i u = nI (wB k n T lb len B (len - i) u)) → (∀ u, u < v → Wf1 ai u = nI (wB k n T lb len B (len - ai) u)) → V X (0, 0) w h1 13 [some (.ref p), some (.ref r), some (.int (nI ai)), some (.int (nI v)), l4, l5] [] from H n 0 h1 Wf1 l4 l5 (by omega) hP1 hfr hw1 (fun u hu => absurd hu (by omega))
      clear hw1 hfr hP1 l3 l4 l5 Wf1 h1
      intro d
      induction d with
      | zero =>
        intro v h1 Wf1 l4 l5 hv hP1 hfr hw1 hw2
        have hr1 : h1 r = RO r k wd n (k ^ wd) := (hfr r (by omega)).trans hr
        refine v_iload_n C (oX4_countBackwards.at 9 rfl) rfl ?_
        refine v_aload_n C (oX4_countBackwards.at 10 rfl) rfl ?_
        refine v_getf C (oX4_countBackwards.at 11 rfl) fX4_42 hr1 rfl ?_
        refine v_icmp_geN C (oX4_countBackwards.at 12 rfl) (tgt := 78) (by decide) (by omega) (by omega) (fun hc => ?_) (fun hc => ?_)
        · refine v_idecP C (oX4_countBackwards.at 45 rfl) rfl ?_
          refine v_goto C (oX4_countBackwards.at 46 rfl) (tgt := 7) (by decide) ?_
          dsimp only [sto1, sto2, killL]
          refine ih h1 Wf1 _ _ _ (by omega) hP1 hfr (fun i u e1 e2 e3 => ?_)
          by_cases e : i = ai
          · subst e; exact hw2 u (by omega)
          · exact hw1 i u (by omega) e2 e3
        · exact absurd hc (by omega)
      | succ d ihd =>
        intro v h1 Wf1 l4 l5 hv hP1 hfr hw1 hw2
        have hr1 : h1 r = RO r k wd n (k ^ wd) := (hfr r (by omega)).trans hr
        have hR1 : RuleOK h1 r k wd T := hR.eq (fun j e1 e2 => hfr j (by omega))
        have hvk : (v + 1) * k ≤ n * k := Nat.mul_le_mul_right k (by omega)
        rw [Nat.add_mul, Nat.one_mul] at hvk
        refine v_iload_n C (oX4_countBackwards.at 9 rfl) rfl ?_
        refine v_aload_n C (oX4_countBackwards.at 10 rfl) rfl ?_
        refine v_getf C (oX4_countBackwards.at 11 rfl) fX4_42 hr1 rfl ?_
        refine v_icmp_geN C (oX4_countBackwards.at 12 rfl) (tgt := 78) (by decide) (by omega) (by omega) (fun hc => ?_) (fun hc => ?_)
        · exact absurd hc (by omega)
        · refine v_iconst C (oX4_countBackwards.at 13 rfl) (v := nI 0) rfl ?_
          refine v_istore C (oX4_countBackwards.at 14 rfl) rfl ?_
          refine v_iconst C (oX4_countBackwards.at 15 rfl) (v := nI 0) rfl ?_
          refine v_istore C (oX4_countBackwards.at 16 rfl) rfl ?_
          dsimp only [sto1, sto2, killL]
          suffices H : ∀ d s, s + d = k → V X (0, 0) w h1 27 [some (.ref p), some (.ref r), some (.int (nI ai)), some (.int (nI v)), some (.int (nI (sumN (fun s => if T (v * k + s) = lb ai then wB k n T lb len B (len - 1 - ai) ((v * k + s) % n) else 0) s))), some (.int (nI s))] [] from H k 0 (by omega)
          intro d2
          induction d2 with
          | zero =>
            intro s hs2
            refine v_iload C (oX4_countBackwards.at 17 rfl) rfl ?_
            refine v_aload_n C (oX4_countBackwards.at 18 rfl) rfl ?_
            refine v_getf C (oX4_countBackwards.at 19 rfl) fX4_63 hr1 rfl ?_
            refine v_icmp_geN C (oX4_countBackwards.at 20 rfl) (tgt := 62) (by decide) (by omega) (by omega) (fun hc => ?_) (fun hc => ?_)
            · have e : s = k := by omega
              subst e
              refine v_aload_n C (oX4_countBackwards.at 36 rfl) rfl ?_
              refine v_getf C (oX4_countBackwards.at 37 rfl) fX4_19 hP1.1 rfl ?_
              refine v_iload_n C (oX4_countBackwards.at 38 rfl) rfl ?_
              refine v_aald C (oX4_countBackwards.at 39 rfl) hP1.2.2.1 (by decide) rfl (by omega) (rws_at (by omega)) ?_
              refine v_iload_n C (oX4_countBackwards.at 40 rfl) rfl ?_
              refine v_iload C (oX4_countBackwards.at 41 rfl) rfl ?_
              refine v_iast C (oX4_countBackwards.at 42 rfl) (hP1.2.2.2 _ (by omega)) (by decide) rfl (by omega) ?_
              refine v_iincN C (oX4_countBackwards.at 43 rfl) rfl ?_
              refine v_goto C (oX4_countBackwards.at 44 rfl) (tgt := 13) (by decide) ?_
              dsimp only [sto1, sto2, killL]
              refine ihd (v + 1) _ _ _ _ (by omega) (hP1.row _) (fun j hj => (hu_n _ _ (by omega)).trans (hfr j hj)) (fun i u e1 e2 e3 => ?_) (fun u hu => ?_)
              · unfold upW
                rw [if_neg (by omega)]
                exact hw1 i u e1 e2 e3
              · unfold upW
                rw [if_pos rfl]
                by_cases e : u = v
                · subst e
                  rw [pk_us, show len - ai = (len - 1 - ai) + 1 by omega, wB, show len - 1 - (len - 1 - ai) = ai by omega]
                · rw [pk_un e]
                  exact hw2 u (by omega)
            · exact absurd hc (by omega)
          | succ d2 ih2 =>
            intro s hs2
            refine v_iload C (oX4_countBackwards.at 17 rfl) rfl ?_
            refine v_aload_n C (oX4_countBackwards.at 18 rfl) rfl ?_
            refine v_getf C (oX4_countBackwards.at 19 rfl) fX4_63 hr1 rfl ?_
            refine v_icmp_geN C (oX4_countBackwards.at 20 rfl) (tgt := 62) (by decide) (by omega) (by omega) (fun hc => ?_) (fun hc => ?_)
            · exact absurd hc (by omega)
            · have hmod : (v * k + s) % n < n := Nat.mod_lt _ (by omega)
              refine v_iload C (oX4_countBackwards.at 21 rfl) rfl ?_
              refine v_aload_n C (oX4_countBackwards.at 22 rfl) rfl ?_
              refine v_aload_n C (oX4_countBackwards.at 23 rfl) rfl ?_
              refine v_iload_n C (oX4_countBackwards.at 24 rfl) rfl ?_
              refine v_aload_n C (oX4_countBackwards.at 25 rfl) rfl ?_
              refine v_getf C (oX4_countBackwards.at 26 rfl) fX4_63 hr1 rfl ?_
              refine v_imulN C (oX4_countBackwards.at 27 rfl) ?_
              refine v_iload C (oX4_countBackwards.at 28 rfl) rfl ?_
              refine v_iaddN C (oX4_countBackwards.at 29 rfl) ?_
              refine v_iload_n C (oX4_countBackwards.at 30 rfl) rfl ?_
              refine v_callV C (oX4_countBackwards.at 31 rfl) cX4_66 hP1.1 (k_waysBy (lv := lb ai) (x := wB k n T lb len B (len - 1 - ai) ((v * k + s) % n)) hR1 hs hP1 (by omega) (by omega) (hlb ai (by omega)).1 (hlb ai (by omega)).2 (by rw [hnn, hw1 (ai + 1) _ (by omega) (by omega) hmod, show len - (ai + 1) = len - 1 - ai by omega])) rfl rfl rfl ⟨rfl, rfl⟩ rfl rfl (fun _ => rfl) (fun h' hp => ?_)
              rw [show h' = _ from hp]
              dsimp only [Option.toList, List.cons_append, List.nil_append]
              refine v_iaddN C (oX4_countBackwards.at 32 rfl) ?_
              refine v_istore C (oX4_countBackwards.at 33 rfl) rfl ?_
              refine v_iincN C (oX4_countBackwards.at 34 rfl) rfl ?_
              refine v_goto C (oX4_countBackwards.at 35 rfl) (tgt := 27) (by decide) ?_
              dsimp only [sto1, sto2, killL]
              exact ih2 (s + 1) (by omega)
