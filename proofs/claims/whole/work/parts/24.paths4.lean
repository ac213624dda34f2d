/-! ===== Paths: forwards ===== -/
/-- what has come to u over the first t edges of those that p lets through -/
def ac (n k : Nat) (p : Nat → Bool) (F : Nat → Nat) : Nat → Nat → Nat
  | 0, _ => 0
  | t + 1, u => ac n k p F t u + (if p t && decide (t % n = u) then F (t / k) else 0)
theorem ac_skip {n k : Nat} {p : Nat → Bool} {F : Nat → Nat} {v u : Nat} (hF : F v = 0) : ∀ s, s ≤ k → ac n k p F (v * k + s) u = ac n k p F (v * k) u
  | 0, _ => rfl
  | s + 1, h => by
    have hk : 0 < k := by omega
    have e : (v * k + s) / k = v := by rw [Nat.mul_comm, Nat.mul_add_div hk, Nat.div_eq_of_lt (by omega), Nat.add_zero]
    rw [← Nat.add_assoc, ac, ac_skip hF s (by omega), e, hF]
    simp
theorem ac_le {n k : Nat} {p : Nat → Bool} {F : Nat → Nat} {M u : Nat} (hn : 0 < n) (hu : u < n) (hF : ∀ v, v < n → F v ≤ M) : ∀ t, t ≤ n * k → ac n k p F t u ≤ (t / n + (if u < t % n then 1 else 0)) * M
  | 0, _ => by simp [ac]
  | t + 1, h => by
    have ih := ac_le (p := p) (k := k) hn hu hF t (by omega)
    have hv : F (t / k) ≤ M := hF _ (by
      rcases Nat.eq_zero_or_pos k with e | e
      · subst e; omega
      · exact (Nat.div_lt_iff_lt_mul e).mpr (by omega))
    have hmod := Nat.mod_lt t hn
    have key : (t + 1) / n + (if u < (t + 1) % n then 1 else 0) = t / n + (if u < t % n then 1 else 0) + (if t % n = u then 1 else 0) := by
      have hdm := Nat.div_add_mod t n
      by_cases e : t % n + 1 = n
      · have e0 : t + 1 = n * (t / n + 1) := by rw [Nat.mul_add]; omega
        have e1 : (t + 1) % n = 0 := by rw [e0]; exact Nat.mul_mod_right _ _
        have e2 : (t + 1) / n = t / n + 1 := by
          conv => lhs; rw [e0]
          exact Nat.mul_div_cancel_left _ hn
        rw [e1, e2]
        by_cases e3 : t % n = u
        · simp [e3]
        · have : u < t % n := by omega
          simp [e3, this]
      · have e1 : (t + 1) % n = t % n + 1 := by
          rw [Nat.add_mod, Nat.mod_eq_of_lt (a := 1) (by omega), Nat.mod_eq_of_lt (by omega)]
        have e2 : (t + 1) / n = t / n := by
          have := Nat.div_add_mod (t + 1) n
          rw [e1] at this
          exact Nat.eq_of_mul_eq_mul_left hn (by omega)
        rw [e1, e2]
        by_cases e3 : t % n = u
        · simp [e3]
        · by_cases e4 : u < t % n
          · simp [e3, e4, Nat.lt_succ_of_lt e4]
          · have : ¬ u < t % n + 1 := by omega
            simp [e3, e4, this]
    rw [ac, key, Nat.add_mul]
    refine Nat.add_le_add ih ?_
    by_cases e3 : t % n = u
    · simp only [e3, decide_true, Bool.and_true, if_true, Nat.one_mul]
      split
      · exact hv
      · exact Nat.zero_le _
    · simp [e3]
theorem ac_full {n k : Nat} {p : Nat → Bool} {F : Nat → Nat} {M u : Nat} (hn : 0 < n) (hu : u < n) (hF : ∀ v, v < n → F v ≤ M) : ac n k p F (n * k) u ≤ k * M := by
  have := ac_le (p := p) (k := k) hn hu hF (n * k) (Nat.le_refl _)
  rw [Nat.mul_div_cancel_left _ hn, Nat.mul_mod_right] at this
  simpa using this
theorem k_stepForward {w : Wt} {h : Hp} {p r k wd len pl lv : Nat} {a b : Int32} {T F : Nat → Nat} {lf : Nat → Int32} {Wf : Nat → Nat → Int32} (hR : RuleOK h r k wd T) (hs : SZ k wd) (hP : PaOK h p a b len lf Wf) (hsep : r + 5 < p) (hpl : pl < 14) (hlv : lf pl = nI lv) (hlv2 : lv < 3) (hF : ∀ v, v < k ^ (wd - 1) → Wf pl v = nI (F v) ∧ F v < 2 ^ 31) : ConN mX4_stepForward 1 (0, 0) w [.ref p, .ref r, .int (nI pl)] h (.inl none) (fun h' => (∃ g, PaOK h' p a b len lf (upW Wf (pl + 1) g) ∧ ∀ u, u < k ^ (wd - 1) → g u = nI (ac (k ^ (wd - 1)) k (fun t => decide (T t = lv)) F (k ^ wd) u)) ∧ ∀ j, (j < p ∨ p + 17 < j) → h' j = h j) := by
  have hn9 := hs.n
  have hn0 := hs.n0
  have hk := hs.k
  have hnk := hs.nk
  have hm := hs.m
  obtain ⟨f, gg, e, v, t, hr, ht, hT, hg, hG, -⟩ := id hR
  generalize hnn : k ^ (wd - 1) = n at *
  refine conI (by decide +kernel) ⟨fun _ => rfl, rfl, by simp⟩ (fun X C => ?_)
  change V X (0, 0) w h 0 [some (.ref p), some (.ref r), some (.int (nI pl)), none, none, none, none, none] []
  refine v_aload_n C (oX4_stepForward.at 0 rfl) rfl ?_
  refine v_getf C (oX4_stepForward.at 1 rfl) fX4_19 hP.1 rfl ?_
  refine v_iload_n C (oX4_stepForward.at 2 rfl) rfl ?_
  refine v_aald C (oX4_stepForward.at 3 rfl) hP.2.2.1 (by decide) rfl (by omega) (rws_at (by omega)) ?_
  refine v_astore_n C (oX4_stepForward.at 4 rfl) rfl ?_
  refine v_aload_n C (oX4_stepForward.at 5 rfl) rfl ?_
  refine v_getf C (oX4_stepForward.at 6 rfl) fX4_19 hP.1 rfl ?_
  refine v_iload_n C (oX4_stepForward.at 7 rfl) rfl ?_
  refine v_iconst C (oX4_stepForward.at 8 rfl) (v := nI 1) rfl ?_
  refine v_iaddN C (oX4_stepForward.at 9 rfl) ?_
  refine v_aald C (oX4_stepForward.at 10 rfl) hP.2.2.1 (by decide) rfl (by omega) (rws_at (by omega)) ?_
  refine v_astore C (oX4_stepForward.at 11 rfl) rfl ?_
  refine v_aload C (oX4_stepForward.at 12 rfl) rfl ?_
  refine v_iconst C (oX4_stepForward.at 13 rfl) (v := nI 0) rfl ?_
  dsimp only [sto1, sto2, killL]
  refine v_callS C (oX4_stepForward.at 14 rfl) cX4_72 (k_fill (hP.2.2.2 (pl + 1) (by omega)) (by decide)) rfl rfl rfl ⟨rfl, rfl⟩ rfl rfl (fun _ => rfl) (fun h' hp => ?_)
  rw [show h' = _ from hp]
  dsimp only [Option.toList, List.cons_append, List.nil_append]
  refine v_iconst C (oX4_stepForward.at 15 rfl) (v := nI 0) rfl ?_
  refine v_istore C (oX4_stepForward.at 16 rfl) rfl ?_
  dsimp only [sto1, sto2, killL]
  suffices H : ∀ d v g l6 l7, v + d = n → (∀ u, u < n → g u = nI (ac n k (fun t => decide (T t = lv)) F (v * k) u)) → V X (0, 0) w (hu h (p + 3 + (pl + 1)) (io 9 g)) 26 [some (.ref p), some (.ref r), some (.int (nI pl)), some (.ref (p + 3 + pl)), some (.ref (p + 3 + (pl + 1))), some (.int (nI v)), l6, l7] [] by
    refine H n 0 _ none none (by omega) (fun u hu => ?_)
    rw [Nat.zero_mul, ac, mix_lt (by omega)]
  intro d
  induction d with
  | zero =>
    intro v g l6 l7 hv hgu
    have hP1 := hP.row (i := pl + 1) g
    refine v_iload C (oX4_stepForward.at 17 rfl) rfl ?_
    refine v_aload_n C (oX4_stepForward.at 18 rfl) rfl ?_
    refine v_getf C (oX4_stepForward.at 19 rfl) fX4_42 ((hu_n _ _ (by omega)).trans hr) rfl ?_
    refine v_icmp_geN C (oX4_stepForward.at 20 rfl) (tgt := 111) (by decide) (by omega) (by omega) (fun hc => ?_) (fun hc => ?_)
    · have e1 : v = n := by omega
      subst e1
      rw [hnk] at hgu
      exact v_vret C (oX4_stepForward.at 63 rfl) rfl rfl ⟨Nat.le_refl _, Nat.le_refl _⟩ ⟨rfl, ⟨g, hP1, hgu⟩, fun j hj => hu_n _ _ (by omega)⟩
    · exact absurd hc (by omega)
  | succ d ih =>
    intro v g l6 l7 hv hgu
    have hvk : (v + 1) * k ≤ n * k := Nat.mul_le_mul_right k (by omega)
    rw [Nat.add_mul, Nat.one_mul] at hvk
    have hFv := hF v (by omega)
    refine v_iload C (oX4_stepForward.at 17 rfl) rfl ?_
    refine v_aload_n C (oX4_stepForward.at 18 rfl) rfl ?_
    refine v_getf C (oX4_stepForward.at 19 rfl) fX4_42 ((hu_n _ _ (by omega)).trans hr) rfl ?_
    refine v_icmp_geN C (oX4_stepForward.at 20 rfl) (tgt := 111) (by decide) (by omega) (by omega) (fun hc => ?_) (fun hc => ?_)
    · exact absurd hc (by omega)
    · refine v_aload_n C (oX4_stepForward.at 21 rfl) rfl ?_
      refine v_iload C (oX4_stepForward.at 22 rfl) rfl ?_
      refine v_iald C (oX4_stepForward.at 23 rfl) ((hu_n _ _ (by omega)).trans (hP.2.2.2 pl (by omega))) (by decide) rfl (by omega) hFv.1 ?_
      refine v_if_eqN C (oX4_stepForward.at 24 rfl) (tgt := 105) (by decide) hFv.2 (fun hc => ?_) (fun hc => ?_)
      · refine v_iincN C (oX4_stepForward.at 61 rfl) rfl ?_
        refine v_goto C (oX4_stepForward.at 62 rfl) (tgt := 26) (by decide) ?_
        dsimp only [sto1, sto2, killL]
        refine ih (v + 1) g l6 l7 (by omega) (fun u hu => ?_)
        rw [Nat.add_mul, Nat.one_mul, ac_skip hc k (Nat.le_refl _)]
        exact hgu u hu
      · refine v_iconst C (oX4_stepForward.at 25 rfl) (v := nI 0) rfl ?_
        refine v_istore C (oX4_stepForward.at 26 rfl) rfl ?_
        dsimp only [sto1, sto2, killL]
        suffices H : ∀ d s g l7, s + d = k → (∀ u, u < n → g u = nI (ac n k (fun t => decide (T t = lv)) F (v * k + s) u)) → V X (0, 0) w (hu h (p + 3 + (pl + 1)) (io 9 g)) 45 [some (.ref p), some (.ref r), some (.int (nI pl)), some (.ref (p + 3 + pl)), some (.ref (p + 3 + (pl + 1))), some (.int (nI v)), some (.int (nI s)), l7] [] from H k 0 g l7 (by omega) hgu
        intro d2
        induction d2 with
        | zero =>
          intro s g l7 hsd hgu
          refine v_iload C (oX4_stepForward.at 27 rfl) rfl ?_
          refine v_aload_n C (oX4_stepForward.at 28 rfl) rfl ?_
          refine v_getf C (oX4_stepForward.at 29 rfl) fX4_63 ((hu_n _ _ (by omega)).trans hr) rfl ?_
          refine v_icmp_geN C (oX4_stepForward.at 30 rfl) (tgt := 105) (by decide) (by omega) (by omega) (fun hc => ?_) (fun hc => ?_)
          · have e1 : s = k := by omega
            subst e1
            refine v_iincN C (oX4_stepForward.at 61 rfl) rfl ?_
            refine v_goto C (oX4_stepForward.at 62 rfl) (tgt := 26) (by decide) ?_
            dsimp only [sto1, sto2, killL]
            refine ih (v + 1) g _ _ (by omega) (fun u hu => ?_)
            rw [Nat.add_mul, Nat.one_mul]
            exact hgu u hu
          · exact absurd hc (by omega)
        | succ d2 ih2 =>
          intro s g l7 hsd hgu
          have hTt := hT (v * k + s) (by omega)
          have hmod : (v * k + s) % n < n := Nat.mod_lt _ hn0
          have hdiv : (v * k + s) / k = v := by rw [Nat.mul_comm, Nat.mul_add_div (by omega), Nat.div_eq_of_lt (by omega), Nat.add_zero]
          refine v_iload C (oX4_stepForward.at 27 rfl) rfl ?_
          refine v_aload_n C (oX4_stepForward.at 28 rfl) rfl ?_
          refine v_getf C (oX4_stepForward.at 29 rfl) fX4_63 ((hu_n _ _ (by omega)).trans hr) rfl ?_
          refine v_icmp_geN C (oX4_stepForward.at 30 rfl) (tgt := 105) (by decide) (by omega) (by omega) (fun hc => ?_) (fun hc => ?_)
          · exact absurd hc (by omega)
          · refine v_iload C (oX4_stepForward.at 31 rfl) rfl ?_
            refine v_aload_n C (oX4_stepForward.at 32 rfl) rfl ?_
            refine v_getf C (oX4_stepForward.at 33 rfl) fX4_63 ((hu_n _ _ (by omega)).trans hr) rfl ?_
            refine v_imulN C (oX4_stepForward.at 34 rfl) ?_
            refine v_iload C (oX4_stepForward.at 35 rfl) rfl ?_
            refine v_iaddN C (oX4_stepForward.at 36 rfl) ?_
            refine v_istore C (oX4_stepForward.at 37 rfl) rfl ?_
            refine v_aload_n C (oX4_stepForward.at 38 rfl) rfl ?_
            refine v_getf C (oX4_stepForward.at 39 rfl) fX4_81 ((hu_n _ _ (by omega)).trans hr) rfl ?_
            refine v_iload C (oX4_stepForward.at 40 rfl) rfl ?_
            refine v_iald C (oX4_stepForward.at 41 rfl) ((hu_n _ _ (by omega)).trans ht) (by decide) rfl (by omega) hTt.1 ?_
            refine v_aload_n C (oX4_stepForward.at 42 rfl) rfl ?_
            refine v_getf C (oX4_stepForward.at 43 rfl) fX4_9 ((hu_n _ _ (by omega)).trans hP.1) rfl ?_
            refine v_iload_n C (oX4_stepForward.at 44 rfl) rfl ?_
            refine v_iald C (oX4_stepForward.at 45 rfl) ((hu_n _ _ (by omega)).trans hP.2.1) (by decide) rfl (by omega) hlv ?_
            dsimp only [sto1, sto2, killL]
            refine v_icmp_neN C (oX4_stepForward.at 46 rfl) (tgt := 99) (by decide) (by omega) (by omega) (fun hc => ?_) (fun hc => ?_)
            · refine v_iincN C (oX4_stepForward.at 59 rfl) rfl ?_
              refine v_goto C (oX4_stepForward.at 60 rfl) (tgt := 45) (by decide) ?_
              dsimp only [sto1, sto2, killL]
              refine ih2 (s + 1) g _ (by omega) (fun u hu => ?_)
              rw [← Nat.add_assoc, ac]
              simp only [hc, decide_false, Bool.false_and, Bool.false_eq_true, if_false, Nat.add_zero]
              exact hgu u hu
            · refine v_aload C (oX4_stepForward.at 47 rfl) rfl ?_
              refine v_aload_n C (oX4_stepForward.at 48 rfl) rfl ?_
              refine v_getf C (oX4_stepForward.at 49 rfl) fX4_69 ((hu_n _ _ (by omega)).trans hr) rfl ?_
              refine v_iload C (oX4_stepForward.at 50 rfl) rfl ?_
              refine v_iald C (oX4_stepForward.at 51 rfl) ((hu_n _ _ (by omega)).trans hg) (by decide) rfl (by omega) (hG _ (by omega)) ?_
              refine v_dup2 C (oX4_stepForward.at 52 rfl) rfl rfl ?_
              refine v_iald C (oX4_stepForward.at 53 rfl) (hu_s _ _ _) (by decide) rfl (by omega) (hgu _ hmod) ?_
              refine v_aload_n C (oX4_stepForward.at 54 rfl) rfl ?_
              refine v_iload C (oX4_stepForward.at 55 rfl) rfl ?_
              refine v_iald C (oX4_stepForward.at 56 rfl) ((hu_n _ _ (by omega)).trans (hP.2.2.2 pl (by omega))) (by decide) rfl (by omega) hFv.1 ?_
              refine v_iaddN C (oX4_stepForward.at 57 rfl) ?_
              refine v_iast C (oX4_stepForward.at 58 rfl) (hu_s _ _ _) (by decide) rfl (by omega) ?_
              rw [hu_hu]
              refine v_iincN C (oX4_stepForward.at 59 rfl) rfl ?_
              refine v_goto C (oX4_stepForward.at 60 rfl) (tgt := 45) (by decide) ?_
              dsimp only [sto1, sto2, killL]
              refine ih2 (s + 1) _ _ (by omega) (fun u hu => ?_)
              rw [← Nat.add_assoc, ac, hdiv]
              by_cases e1 : u = (v * k + s) % n
              · subst e1
                rw [pk_us]
                simp [hc]
              · rw [pk_un e1, hgu u hu]
                simp [Ne.symm e1]
