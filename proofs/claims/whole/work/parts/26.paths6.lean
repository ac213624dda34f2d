/-! ===== Paths: words that are their own cyclic images ===== -/
theorem k_stepAlongFixed {w : Wt} {h : Hp} {r k wd q p : Nat} {T F : Nat → Nat} {fr g0 : Nat → Int32} (hR : RuleOK h r k wd T) (hs : SZ k wd) (hq : h q = io 9 fr) (hp : h p = io 9 g0) (hqp : q ≠ p) (hpr : r + 5 < p) (hF : ∀ v, v < k ^ (wd - 1) → fr v = nI (F v)) : ConN mX4_stepAlongFixed 1 (0, 0) w [.ref r, .ref q, .ref p] h (.inl none) (fun h' => ∃ g, h' = hu h p (io 9 g) ∧ ∀ u, u < k ^ (wd - 1) → g u = nI (ac (k ^ (wd - 1)) k (fun t => decide (T t = t / k ^ (wd - 1))) F (k ^ wd) u)) := by
  have hn9 := hs.n
  have hn0 := hs.n0
  have hk := hs.k
  have hnk := hs.nk
  have hm := hs.m
  obtain ⟨f, gg, e, v, t, hr, ht, hT, hg, hG, he, hE, -⟩ := id hR
  generalize hnn : k ^ (wd - 1) = n at *
  refine conI (by decide +kernel) ⟨fun _ => rfl, rfl, by simp⟩ (fun X C => ?_)
  change V X (0, 0) w h 0 [some (.ref r), some (.ref q), some (.ref p), none, none, none] []
  refine v_aload_n C (oX4_stepAlongFixed.at 0 rfl) rfl ?_
  refine v_iconst C (oX4_stepAlongFixed.at 1 rfl) (v := nI 0) rfl ?_
  refine v_callS C (oX4_stepAlongFixed.at 2 rfl) cX4_72 (k_fill hp (by decide)) rfl rfl rfl ⟨rfl, rfl⟩ rfl rfl (fun _ => rfl) (fun h' hp => ?_)
  rw [show h' = _ from hp]
  dsimp only [Option.toList, List.cons_append, List.nil_append]
  refine v_iconst C (oX4_stepAlongFixed.at 3 rfl) (v := nI 0) rfl ?_
  refine v_istore_n C (oX4_stepAlongFixed.at 4 rfl) rfl ?_
  dsimp only [sto1, sto2, killL]
  suffices H : ∀ d v g l4 l5, v + d = n → (∀ u, u < n → g u = nI (ac n k (fun t => decide (T t = t / n)) F (v * k) u)) → V X (0, 0) w (hu h p (io 9 g)) 7 [some (.ref r), some (.ref q), some (.ref p), some (.int (nI v)), l4, l5] [] by
    refine H n 0 _ none none (by omega) (fun u hu => ?_)
    rw [Nat.zero_mul, ac, mix_lt (by omega)]
  intro d
  induction d with
  | zero =>
    intro v g l4 l5 hv hgu
    refine v_iload_n C (oX4_stepAlongFixed.at 5 rfl) rfl ?_
    refine v_aload_n C (oX4_stepAlongFixed.at 6 rfl) rfl ?_
    refine v_getf C (oX4_stepAlongFixed.at 7 rfl) fX4_42 ((hu_n _ _ (by omega)).trans hr) rfl ?_
    refine v_icmp_geN C (oX4_stepAlongFixed.at 8 rfl) (tgt := 82) (by decide) (by omega) (by omega) (fun hc => ?_) (fun hc => ?_)
    · have e1 : v = n := by omega
      subst e1
      rw [hnk] at hgu
      exact v_vret C (oX4_stepAlongFixed.at 47 rfl) rfl rfl ⟨Nat.le_refl _, Nat.le_refl _⟩ ⟨rfl, g, rfl, hgu⟩
    · exact absurd hc (by omega)
  | succ d ih =>
    intro v g l4 l5 hv hgu
    have hvk : (v + 1) * k ≤ n * k := Nat.mul_le_mul_right k (by omega)
    rw [Nat.add_mul, Nat.one_mul] at hvk
    refine v_iload_n C (oX4_stepAlongFixed.at 5 rfl) rfl ?_
    refine v_aload_n C (oX4_stepAlongFixed.at 6 rfl) rfl ?_
    refine v_getf C (oX4_stepAlongFixed.at 7 rfl) fX4_42 ((hu_n _ _ (by omega)).trans hr) rfl ?_
    refine v_icmp_geN C (oX4_stepAlongFixed.at 8 rfl) (tgt := 82) (by decide) (by omega) (by omega) (fun hc => ?_) (fun hc => ?_)
    · exact absurd hc (by omega)
    · refine v_iconst C (oX4_stepAlongFixed.at 9 rfl) (v := nI 0) rfl ?_
      refine v_istore C (oX4_stepAlongFixed.at 10 rfl) rfl ?_
      dsimp only [sto1, sto2, killL]
      suffices H : ∀ d s g l5, s + d = k → (∀ u, u < n → g u = nI (ac n k (fun t => decide (T t = t / n)) F (v * k + s) u)) → V X (0, 0) w (hu h p (io 9 g)) 18 [some (.ref r), some (.ref q), some (.ref p), some (.int (nI v)), some (.int (nI s)), l5] [] from H k 0 g l5 (by omega) hgu
      intro d2
      induction d2 with
      | zero =>
        intro s g l5 hsd hgu
        refine v_iload C (oX4_stepAlongFixed.at 11 rfl) rfl ?_
        refine v_aload_n C (oX4_stepAlongFixed.at 12 rfl) rfl ?_
        refine v_getf C (oX4_stepAlongFixed.at 13 rfl) fX4_63 ((hu_n _ _ (by omega)).trans hr) rfl ?_
        refine v_icmp_geN C (oX4_stepAlongFixed.at 14 rfl) (tgt := 76) (by decide) (by omega) (by omega) (fun hc => ?_) (fun hc => ?_)
        · have e1 : s = k := by omega
          subst e1
          refine v_iincN C (oX4_stepAlongFixed.at 45 rfl) rfl ?_
          refine v_goto C (oX4_stepAlongFixed.at 46 rfl) (tgt := 7) (by decide) ?_
          dsimp only [sto1, sto2, killL]
          refine ih (v + 1) g _ _ (by omega) (fun u hu => ?_)
          rw [Nat.add_mul, Nat.one_mul]
          exact hgu u hu
        · exact absurd hc (by omega)
      | succ d2 ih2 =>
        intro s g l5 hsd hgu
        have hTt := hT (v * k + s) (by omega)
        have hmod : (v * k + s) % n < n := Nat.mod_lt _ hn0
        have hdn : (v * k + s) / n < k := (Nat.div_lt_iff_lt_mul hn0).mpr (by rw [Nat.mul_comm k n]; omega)
        have hdiv : (v * k + s) / k = v := by rw [Nat.mul_comm, Nat.mul_add_div (by omega), Nat.div_eq_of_lt (by omega), Nat.add_zero]
        refine v_iload C (oX4_stepAlongFixed.at 11 rfl) rfl ?_
        refine v_aload_n C (oX4_stepAlongFixed.at 12 rfl) rfl ?_
        refine v_getf C (oX4_stepAlongFixed.at 13 rfl) fX4_63 ((hu_n _ _ (by omega)).trans hr) rfl ?_
        refine v_icmp_geN C (oX4_stepAlongFixed.at 14 rfl) (tgt := 76) (by decide) (by omega) (by omega) (fun hc => ?_) (fun hc => ?_)
        · exact absurd hc (by omega)
        · refine v_iload_n C (oX4_stepAlongFixed.at 15 rfl) rfl ?_
          refine v_aload_n C (oX4_stepAlongFixed.at 16 rfl) rfl ?_
          refine v_getf C (oX4_stepAlongFixed.at 17 rfl) fX4_63 ((hu_n _ _ (by omega)).trans hr) rfl ?_
          refine v_imulN C (oX4_stepAlongFixed.at 18 rfl) ?_
          refine v_iload C (oX4_stepAlongFixed.at 19 rfl) rfl ?_
          refine v_iaddN C (oX4_stepAlongFixed.at 20 rfl) ?_
          refine v_istore C (oX4_stepAlongFixed.at 21 rfl) rfl ?_
          refine v_aload_n C (oX4_stepAlongFixed.at 22 rfl) rfl ?_
          refine v_getf C (oX4_stepAlongFixed.at 23 rfl) fX4_81 ((hu_n _ _ (by omega)).trans hr) rfl ?_
          refine v_iload C (oX4_stepAlongFixed.at 24 rfl) rfl ?_
          refine v_iald C (oX4_stepAlongFixed.at 25 rfl) ((hu_n _ _ (by omega)).trans ht) (by decide) rfl (by omega) hTt.1 ?_
          refine v_aload_n C (oX4_stepAlongFixed.at 26 rfl) rfl ?_
          refine v_getf C (oX4_stepAlongFixed.at 27 rfl) fX4_109 ((hu_n _ _ (by omega)).trans hr) rfl ?_
          refine v_iload C (oX4_stepAlongFixed.at 28 rfl) rfl ?_
          refine v_iald C (oX4_stepAlongFixed.at 29 rfl) ((hu_n _ _ (by omega)).trans he) (by decide) rfl (by omega) (hE _ (by omega)) ?_
          dsimp only [sto1, sto2, killL]
          refine v_icmp_neN C (oX4_stepAlongFixed.at 30 rfl) (tgt := 70) (by decide) (by omega) (by omega) (fun hc => ?_) (fun hc => ?_)
          · refine v_iincN C (oX4_stepAlongFixed.at 43 rfl) rfl ?_
            refine v_goto C (oX4_stepAlongFixed.at 44 rfl) (tgt := 18) (by decide) ?_
            dsimp only [sto1, sto2, killL]
            refine ih2 (s + 1) g _ (by omega) (fun u hu => ?_)
            rw [← Nat.add_assoc, ac]
            simp only [hc, decide_false, Bool.false_and, Bool.false_eq_true, if_false, Nat.add_zero]
            exact hgu u hu
          · refine v_aload_n C (oX4_stepAlongFixed.at 31 rfl) rfl ?_
            refine v_aload_n C (oX4_stepAlongFixed.at 32 rfl) rfl ?_
            refine v_getf C (oX4_stepAlongFixed.at 33 rfl) fX4_69 ((hu_n _ _ (by omega)).trans hr) rfl ?_
            refine v_iload C (oX4_stepAlongFixed.at 34 rfl) rfl ?_
            refine v_iald C (oX4_stepAlongFixed.at 35 rfl) ((hu_n _ _ (by omega)).trans hg) (by decide) rfl (by omega) (hG _ (by omega)) ?_
            refine v_dup2 C (oX4_stepAlongFixed.at 36 rfl) rfl rfl ?_
            refine v_iald C (oX4_stepAlongFixed.at 37 rfl) (hu_s _ _ _) (by decide) rfl (by omega) (hgu _ hmod) ?_
            refine v_aload_n C (oX4_stepAlongFixed.at 38 rfl) rfl ?_
            refine v_iload_n C (oX4_stepAlongFixed.at 39 rfl) rfl ?_
            refine v_iald C (oX4_stepAlongFixed.at 40 rfl) ((hu_n _ _ hqp).trans hq) (by decide) rfl (by omega) (hF _ (by omega)) ?_
            refine v_iaddN C (oX4_stepAlongFixed.at 41 rfl) ?_
            refine v_iast C (oX4_stepAlongFixed.at 42 rfl) (hu_s _ _ _) (by decide) rfl (by omega) ?_
            rw [hu_hu]
            refine v_iincN C (oX4_stepAlongFixed.at 43 rfl) rfl ?_
            refine v_goto C (oX4_stepAlongFixed.at 44 rfl) (tgt := 18) (by decide) ?_
            dsimp only [sto1, sto2, killL]
            refine ih2 (s + 1) _ _ (by omega) (fun u hu => ?_)
            rw [← Nat.add_assoc, ac, hdiv]
            by_cases e1 : u = (v * k + s) % n
            · subst e1
              rw [pk_us]
              simp [hc]
            · rw [pk_un e1, hgu u hu]
              simp [Ne.symm e1]
def fxW (n k : Nat) (T : Nat → Nat) (v0 : Nat) : Nat → Nat → Nat
  | 0, u => baT v0 u
  | i + 1, u => ac n k (fun t => decide (T t = t / n)) (fxW n k T v0 i) (n * k) u
theorem k_countFixed {w : Wt} {h : Hp} {p r k wd len L : Nat} {a b : Int32} {T : Nat → Nat} {lf : Nat → Int32} {Wf : Nat → Nat → Int32} (hR : RuleOK h r k wd T) (hs : SZ k wd) (hP : PaOK h p a b len lf Wf) (hsep : r + 5 < p) (hL : L ≤ 8) : ConN mX4_countFixed 2 (0, 0) w [.ref p, .ref r, .int (nI L)] h (.inl (some (.int (nI (sumN (fun v => fxW (k ^ (wd - 1)) k T v L v) (k ^ (wd - 1))))))) (PaCh h p a b len lf) := by
  have hr := hR.ro
  have hk := hs.k
  have hn9 := hs.n
  have hn0 := hs.n0
  have hnk := hs.nk
  generalize hnn : k ^ (wd - 1) = n at *
  refine conI (by decide +kernel) ⟨fun _ => rfl, rfl, by simp⟩ (fun X C => ?_)
  change V X (0, 0) w h 0 [some (.ref p), some (.ref r), some (.int (nI L)), none, none, none] []
  refine v_iconst C (oX4_countFixed.at 0 rfl) (v := nI 0) rfl ?_
  refine v_istore_n C (oX4_countFixed.at 1 rfl) rfl ?_
  refine v_iconst C (oX4_countFixed.at 2 rfl) (v := nI 0) rfl ?_
  refine v_istore C (oX4_countFixed.at 3 rfl) rfl ?_
  dsimp only [sto1, sto2, killL]
  suffices H : ∀ d v h1 Wf1 l5, v + d = n → PaOK h1 p a b len lf Wf1 → (∀ j, (j < p ∨ p + 17 < j) → h1 j = h j) → V X (0, 0) w h1 5 [some (.ref p), some (.ref r), some (.int (nI L)), some (.int (nI (sumN (fun v => fxW n k T v L v) v))), some (.int (nI v)), l5] [] from H n 0 h Wf none (by omega) hP (fun _ _ => rfl)
  intro d
  induction d with
  | zero =>
    intro v h1 Wf1 l5 hv hP1 hfr
    have hr1 : h1 r = RO r k wd n (k ^ wd) := (hfr r (by omega)).trans hr
    refine v_iload C (oX4_countFixed.at 4 rfl) rfl ?_
    refine v_aload_n C (oX4_countFixed.at 5 rfl) rfl ?_
    refine v_getf C (oX4_countFixed.at 6 rfl) fX4_42 hr1 rfl ?_
    refine v_icmp_geN C (oX4_countFixed.at 7 rfl) (tgt := 87) (by decide) (by omega) (by omega) (fun hc => ?_) (fun hc => ?_)
    · have e : v = n := by omega
      subst e
      refine v_iload_n C (oX4_countFixed.at 51 rfl) rfl ?_
      exact v_iret C (oX4_countFixed.at 52 rfl) rfl rfl ⟨Nat.le_refl _, Nat.le_refl _⟩ ⟨rfl, ⟨Wf1, hP1⟩, hfr⟩
    · exact absurd hc (by omega)
  | succ d ih =>
    intro v h1 Wf1 l5 hv hP1 hfr
    have hr1 : h1 r = RO r k wd n (k ^ wd) := (hfr r (by omega)).trans hr
    refine v_iload C (oX4_countFixed.at 4 rfl) rfl ?_
    refine v_aload_n C (oX4_countFixed.at 5 rfl) rfl ?_
    refine v_getf C (oX4_countFixed.at 6 rfl) fX4_42 hr1 rfl ?_
    refine v_icmp_geN C (oX4_countFixed.at 7 rfl) (tgt := 87) (by decide) (by omega) (by omega) (fun hc => ?_) (fun hc => ?_)
    · exact absurd hc (by omega)
    · refine v_aload_n C (oX4_countFixed.at 8 rfl) rfl ?_
      refine v_getf C (oX4_countFixed.at 9 rfl) fX4_19 hP1.1 rfl ?_
      refine v_iconst C (oX4_countFixed.at 10 rfl) (v := nI 0) rfl ?_
      refine v_aald C (oX4_countFixed.at 11 rfl) hP1.2.2.1 (by decide) rfl (by omega) (rws_at (by omega)) ?_
      refine v_iconst C (oX4_countFixed.at 12 rfl) (v := nI 0) rfl ?_
      refine v_callS C (oX4_countFixed.at 13 rfl) cX4_72 (k_fill (hP1.2.2.2 0 (by omega)) (by decide)) rfl rfl rfl ⟨rfl, rfl⟩ rfl rfl (fun _ => rfl) (fun h' hp => ?_)
      rw [show h' = _ from hp]
      dsimp only [Option.toList, List.cons_append, List.nil_append]
      have hP2 := hP1.row (i := 0) (mix (Wf1 0) (fun _ => nI 0) 9)
      refine v_aload_n C (oX4_countFixed.at 14 rfl) rfl ?_
      refine v_getf C (oX4_countFixed.at 15 rfl) fX4_19 hP2.1 rfl ?_
      refine v_iconst C (oX4_countFixed.at 16 rfl) (v := nI 0) rfl ?_
      refine v_aald C (oX4_countFixed.at 17 rfl) hP2.2.2.1 (by decide) rfl (by omega) (rws_at (by omega)) ?_
      refine v_iload C (oX4_countFixed.at 18 rfl) rfl ?_
      refine v_iconst C (oX4_countFixed.at 19 rfl) (v := nI 1) rfl ?_
      refine v_iast C (oX4_countFixed.at 20 rfl) (hu_s _ _ _) (by decide) rfl (by omega) ?_
      refine v_iconst C (oX4_countFixed.at 21 rfl) (v := nI 0) rfl ?_
      refine v_istore C (oX4_countFixed.at 22 rfl) rfl ?_
      dsimp only [sto1, sto2, killL]
      rw [hu_hu]
      have hP3 := hP1.row (i := 0) (upd (mix (Wf1 0) (fun _ => nI 0) 9) v (nI 1))
      suffices H : ∀ d i h2 Wf2, i + d = L → PaOK h2 p a b len lf Wf2 → (∀ j, (j < p ∨ p + 17 < j) → h2 j = h j) → (∀ u, u < n → Wf2 i u = nI (fxW n k T v i u)) → V X (0, 0) w h2 37 [some (.ref p), some (.ref r), some (.int (nI L)), some (.int (nI (sumN (fun v => fxW n k T v L v) v))), some (.int (nI v)), some (.int (nI i))] [] by
        refine H L 0 _ _ (by omega) hP3 (fun j hj => (hu_n _ _ (by omega)).trans (hfr j hj)) (fun u hu => ?_)
        unfold upW
        rw [if_pos rfl, fxW]
        unfold baT
        by_cases e : u = v
        · subst e; rw [pk_us, if_pos rfl]
        · rw [pk_un e, if_neg e, mix_lt (by omega)]
      clear hP3 hP2 hP1 hfr hr1
      intro d2
      induction d2 with
      | zero =>
        intro i h2 Wf2 hi hP2 hf2 hw2
        have e : i = L := by omega
        subst e
        refine v_iload C (oX4_countFixed.at 23 rfl) rfl ?_
        refine v_iload_n C (oX4_countFixed.at 24 rfl) rfl ?_
        refine v_icmp_geN C (oX4_countFixed.at 25 rfl) (tgt := 69) (by decide) (by omega) (by omega) (fun hc => ?_) (fun hc => ?_)
        · refine v_iload_n C (oX4_countFixed.at 40 rfl) rfl ?_
          refine v_aload_n C (oX4_countFixed.at 41 rfl) rfl ?_
          refine v_getf C (oX4_countFixed.at 42 rfl) fX4_19 hP2.1 rfl ?_
          refine v_iload_n C (oX4_countFixed.at 43 rfl) rfl ?_
          refine v_aald C (oX4_countFixed.at 44 rfl) hP2.2.2.1 (by decide) rfl (by omega) (rws_at (by omega)) ?_
          refine v_iload C (oX4_countFixed.at 45 rfl) rfl ?_
          refine v_iald C (oX4_countFixed.at 46 rfl) (hP2.2.2.2 _ (by omega)) (by decide) rfl (by omega) (hw2 _ (by omega)) ?_
          refine v_iaddN C (oX4_countFixed.at 47 rfl) ?_
          refine v_istore_n C (oX4_countFixed.at 48 rfl) rfl ?_
          refine v_iincN C (oX4_countFixed.at 49 rfl) rfl ?_
          refine v_goto C (oX4_countFixed.at 50 rfl) (tgt := 5) (by decide) ?_
          dsimp only [sto1, sto2, killL]
          exact ih (v + 1) h2 Wf2 _ (by omega) hP2 hf2
        · exact absurd hc (by omega)
      | succ d2 ih2 =>
        intro i h2 Wf2 hi hP2 hf2 hw2
        have hR2 : RuleOK h2 r k wd T := hR.eq (fun q e1 e2 => hf2 q (by omega))
        refine v_iload C (oX4_countFixed.at 23 rfl) rfl ?_
        refine v_iload_n C (oX4_countFixed.at 24 rfl) rfl ?_
        refine v_icmp_geN C (oX4_countFixed.at 25 rfl) (tgt := 69) (by decide) (by omega) (by omega) (fun hc => ?_) (fun hc => ?_)
        · exact absurd hc (by omega)
        · refine v_aload_n C (oX4_countFixed.at 26 rfl) rfl ?_
          refine v_aload_n C (oX4_countFixed.at 27 rfl) rfl ?_
          refine v_getf C (oX4_countFixed.at 28 rfl) fX4_19 hP2.1 rfl ?_
          refine v_iload C (oX4_countFixed.at 29 rfl) rfl ?_
          refine v_aald C (oX4_countFixed.at 30 rfl) hP2.2.2.1 (by decide) rfl (by omega) (rws_at (by omega)) ?_
          refine v_aload_n C (oX4_countFixed.at 31 rfl) rfl ?_
          refine v_getf C (oX4_countFixed.at 32 rfl) fX4_19 hP2.1 rfl ?_
          refine v_iload C (oX4_countFixed.at 33 rfl) rfl ?_
          refine v_iconst C (oX4_countFixed.at 34 rfl) (v := nI 1) rfl ?_
          refine v_iaddN C (oX4_countFixed.at 35 rfl) ?_
          refine v_aald C (oX4_countFixed.at 36 rfl) hP2.2.2.1 (by decide) rfl (by omega) (rws_at (by omega)) ?_
          refine v_callS C (oX4_countFixed.at 37 rfl) cX4_105 (k_stepAlongFixed (F := fxW n k T v i) hR2 hs (hP2.2.2.2 i (by omega)) (hP2.2.2.2 (i + 1) (by omega)) (by omega) (by omega) (fun u hu => hw2 u (by omega))) rfl rfl rfl ⟨rfl, rfl⟩ rfl rfl (fun _ => rfl) (fun h' hp => ?_)
          dsimp only [Option.toList, List.cons_append, List.nil_append]
          obtain ⟨g, hh, hg⟩ := hp
          rw [hh]
          refine v_iincN C (oX4_countFixed.at 38 rfl) rfl ?_
          refine v_goto C (oX4_countFixed.at 39 rfl) (tgt := 37) (by decide) ?_
          dsimp only [sto1, sto2, killL]
          refine ih2 (i + 1) _ _ (by omega) (hP2.row g) (fun j hj => (hu_n _ _ (by omega)).trans (hf2 j hj)) (fun u hu => ?_)
          unfold upW
          rw [if_pos rfl, hg u (by omega), fxW, hnn, hnk]
