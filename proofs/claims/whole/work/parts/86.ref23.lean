/-! ===== the reference: inverses ===== -/
/-- every word's state stands at its image -/
def AsG (k wd : Nat) (T : Nat → Nat) (m p : Nat) (g : Nat → Int32) : Prop := ∀ x, x < k ^ (m + wd - 1) → g (gIm k wd T m x) = nI (cel k (m + wd - 1) x p)
theorem k9_isInverse {w : Wt} {G h : Hp} {th : Nat} {S Z : Sc} {sv : Bool} {F : Sf} {m p : Nat} (hR : RF G h th S sv Z F) (hm1 : 1 ≤ m) (hm5 : m ≤ 5) (hpp : p < m + S.2.1 - 1) : ConN mX9_isInverse 2 (0, 0) w [.ref 62, .int (nI m), .int (nI p)] h (.inl (some (.int (bI (inB S.1 S.2.1 S.2.2.1 m p))))) (fun h' => ∃ g, h' = hu h 87 (io 243 g) ∧ (inB S.1 S.2.1 S.2.2.1 m p = true → AsG S.1 S.2.1 S.2.2.1 m p g)) := by
  obtain ⟨u, o0, o1, o2⟩ := hR.o
  obtain ⟨f, hf, hT⟩ := hR.tk
  have hk := hR.so.1.k
  have hwd := hR.so.1.w
  have hm243 : S.1 ^ m ≤ 243 := hR.so.1.m5 hm5
  have hcl : S.1 ^ (m + S.2.1 - 1) ≤ 2187 := by
    have := hR.so.1.w5 (m := m - 1) (by omega)
    rw [show m - 1 + S.2.1 = m + S.2.1 - 1 by omega] at this
    exact this
  obtain ⟨g0, hg0⟩ := hR.sc (i := 87) (Or.inr (Or.inr (Or.inr rfl)))
  have hg0 : h 87 = io 243 g0 := hg0
  have c0 : ∀ y, hu h 87 y 62 = MO u := fun y => (hu_n _ _ (by decide)).trans o0
  have cR : ∀ g, RF G (hu h 87 (io 243 g)) th S sv Z F := fun g => hR.set_r (i := 87) (Or.inr (Or.inr (Or.inr rfl)))
  have hgl : ∀ x, gIm S.1 S.2.1 S.2.2.1 m x < S.1 ^ m := fun x => gIm_lt (by omega) (fun i hi => (hT i hi).2) m x
  refine conI (by decide +kernel) ⟨fun _ => rfl, rfl, by simp⟩ (fun X C => ?_)
  change V X (0, 0) w h 0 [some (.ref 62), some (.int (nI m)), some (.int (nI p)), none, none, none, none] []
  refine v_iload_n C (oX9_isInverse.at 0 rfl) rfl ?_
  refine v_aload_n C (oX9_isInverse.at 1 rfl) rfl ?_
  refine v_getf C (oX9_isInverse.at 2 rfl) fX9_13 o0 (congrArg (fun z => some (Value.int z)) (o2.2.1)) ?_
  refine v_iaddN C (oX9_isInverse.at 3 rfl) ?_
  refine v_iconst C (oX9_isInverse.at 4 rfl) (v := nI 1) rfl ?_
  refine v_isubN C (oX9_isInverse.at 5 rfl) (by omega) ?_
  refine v_istore_n C (oX9_isInverse.at 6 rfl) rfl ?_
  refine v_iconst C (oX9_isInverse.at 7 rfl) (v := nI 0) rfl ?_
  refine v_istore C (oX9_isInverse.at 8 rfl) rfl ?_
  dsimp only [sto1, sto2, killL]
  have L3 : ∀ g, (∀ x, x < S.1 ^ (m + S.2.1 - 1) → g (gIm S.1 S.2.1 S.2.2.1 m x) = nI (cel S.1 (m + S.2.1 - 1) x p)) → (∀ y, y < S.1 ^ m → (∀ x, x < S.1 ^ (m + S.2.1 - 1) → gIm S.1 S.2.1 S.2.2.1 m x ≠ y) → g y = -1) → AgP S.1 S.2.1 S.2.2.1 m (S.1 ^ (m + S.2.1 - 1)) p → ∀ d y l5 l6, y + d = S.1 ^ m → (∀ y', y' < y → ∃ x, x < S.1 ^ (m + S.2.1 - 1) ∧ gIm S.1 S.2.1 S.2.2.1 m x = y') → V X (0, 0) w (hu h 87 (io 243 g)) 127 [some (.ref 62), some (.int (nI m)), some (.int (nI p)), some (.int (nI (m + S.2.1 - 1))), some (.int (nI y)), l5, l6] [] := by
    intro g h1 h2 hag d
    induction d with
    | zero =>
      intro y l5 l6 hy hme
      obtain rfl : y = S.1 ^ m := by omega
      have hin : inB S.1 S.2.1 S.2.2.1 m p = true := inB_iff.mpr ⟨hme, hag⟩
      rw [hin] at C
      refine v_iload C (oX9_isInverse.at 72 rfl) rfl ?_
      refine v_aload_n C (oX9_isInverse.at 73 rfl) rfl ?_
      refine v_iload_n C (oX9_isInverse.at 74 rfl) rfl ?_
      refine v_callV C (oX9_isInverse.at 75 rfl) cX9_99 (c0 _) (k9_powerR (cR g) (by omega)) rfl rfl rfl ⟨rfl, rfl⟩ rfl rfl (fun _ => rfl) (fun h' hp => ?_)
      rw [show h' = _ from hp]
      dsimp only [Option.toList, List.cons_append, List.nil_append]
      refine v_icmp_geN C (oX9_isInverse.at 76 rfl) (tgt := 155) (by decide) (by omega) (by omega) (fun hc => ?_) (fun hc => absurd hc (by omega))
      refine v_iconst C (oX9_isInverse.at 86 rfl) (v := nI 1) rfl ?_
      exact v_zret1 C (oX9_isInverse.at 87 rfl) rfl rfl ⟨Nat.le_refl _, Nat.le_refl _⟩ ⟨rfl, g, rfl, fun _ => h1⟩
    | succ d ih =>
      intro y l5 l6 hy hme
      by_cases hex : ∃ x, x < S.1 ^ (m + S.2.1 - 1) ∧ gIm S.1 S.2.1 S.2.2.1 m x = y
      · obtain ⟨x, hx, hxy⟩ := hex
        have hgy : g y = nI (cel S.1 (m + S.2.1 - 1) x p) := by rw [← hxy]; exact h1 x hx
        have hcx : cel S.1 (m + S.2.1 - 1) x p < S.1 := cel_lt (by omega)
        refine v_iload C (oX9_isInverse.at 72 rfl) rfl ?_
        refine v_aload_n C (oX9_isInverse.at 73 rfl) rfl ?_
        refine v_iload_n C (oX9_isInverse.at 74 rfl) rfl ?_
        refine v_callV C (oX9_isInverse.at 75 rfl) cX9_99 (c0 _) (k9_powerR (cR g) (by omega)) rfl rfl rfl ⟨rfl, rfl⟩ rfl rfl (fun _ => rfl) (fun h' hp => ?_)
        rw [show h' = _ from hp]
        dsimp only [Option.toList, List.cons_append, List.nil_append]
        refine v_icmp_geN C (oX9_isInverse.at 76 rfl) (tgt := 155) (by decide) (by omega) (by omega) (fun hc => absurd hc (by omega)) (fun hc => ?_)
        refine v_aload_n C (oX9_isInverse.at 77 rfl) rfl ?_
        refine v_getf C (oX9_isInverse.at 78 rfl) fX9_93 (c0 _) rfl ?_
        refine v_iload C (oX9_isInverse.at 79 rfl) rfl ?_
        refine v_iald C (oX9_isInverse.at 80 rfl) (hu_s _ _ _) (by decide) rfl (by omega) hgy ?_
        refine v_if_geN C (oX9_isInverse.at 81 rfl) (tgt := 149) (by decide) (by omega) ?_
        refine v_iincN C (oX9_isInverse.at 84 rfl) rfl ?_
        refine v_goto C (oX9_isInverse.at 85 rfl) (tgt := 127) (by decide) ?_
        dsimp only [sto1, sto2, killL]
        refine ih (y + 1) _ _ (by omega) (fun y' hy' => ?_)
        by_cases q : y' = y
        · rw [q]; exact ⟨x, hx, hxy⟩
        · exact hme y' (by omega)
      · have hgy : g y = -1 := h2 y (by omega) (fun x hx e => hex ⟨x, hx, e⟩)
        have hin : inB S.1 S.2.1 S.2.2.1 m p = false := by
          rw [← Bool.not_eq_true]
          intro q
          exact hex ((inB_iff.mp q).1 y (by omega))
        rw [hin] at C
        refine v_iload C (oX9_isInverse.at 72 rfl) rfl ?_
        refine v_aload_n C (oX9_isInverse.at 73 rfl) rfl ?_
        refine v_iload_n C (oX9_isInverse.at 74 rfl) rfl ?_
        refine v_callV C (oX9_isInverse.at 75 rfl) cX9_99 (c0 _) (k9_powerR (cR g) (by omega)) rfl rfl rfl ⟨rfl, rfl⟩ rfl rfl (fun _ => rfl) (fun h' hp => ?_)
        rw [show h' = _ from hp]
        dsimp only [Option.toList, List.cons_append, List.nil_append]
        refine v_icmp_geN C (oX9_isInverse.at 76 rfl) (tgt := 155) (by decide) (by omega) (by omega) (fun hc => absurd hc (by omega)) (fun hc => ?_)
        refine v_aload_n C (oX9_isInverse.at 77 rfl) rfl ?_
        refine v_getf C (oX9_isInverse.at 78 rfl) fX9_93 (c0 _) rfl ?_
        refine v_iload C (oX9_isInverse.at 79 rfl) rfl ?_
        refine v_iald C (oX9_isInverse.at 80 rfl) (hu_s _ _ _) (by decide) rfl (by omega) hgy ?_
        refine v_if_ge C (oX9_isInverse.at 81 rfl) (tgt := 149) (by decide) (fun hc => absurd hc (by decide)) (fun hc => ?_)
        refine v_iconst C (oX9_isInverse.at 82 rfl) (v := nI 0) rfl ?_
        exact v_zret0 C (oX9_isInverse.at 83 rfl) rfl rfl ⟨Nat.le_refl _, Nat.le_refl _⟩ ⟨rfl, g, rfl, fun q => absurd q (by decide)⟩
  have L2 : ∀ d i g l5 l6, i + d = S.1 ^ (m + S.2.1 - 1) → (∀ x, x < i → g (gIm S.1 S.2.1 S.2.2.1 m x) = nI (cel S.1 (m + S.2.1 - 1) x p)) → (∀ y, y < S.1 ^ m → (∀ x, x < i → gIm S.1 S.2.1 S.2.2.1 m x ≠ y) → g y = -1) → V X (0, 0) w (hu h 87 (io 243 g)) 39 [some (.ref 62), some (.int (nI m)), some (.int (nI p)), some (.int (nI (m + S.2.1 - 1))), some (.int (nI i)), l5, l6] [] := by
    intro d
    induction d with
    | zero =>
      intro i g l5 l6 hi h1 h2
      obtain rfl : i = S.1 ^ (m + S.2.1 - 1) := by omega
      refine v_iload C (oX9_isInverse.at 23 rfl) rfl ?_
      refine v_aload_n C (oX9_isInverse.at 24 rfl) rfl ?_
      refine v_iload_n C (oX9_isInverse.at 25 rfl) rfl ?_
      refine v_callV C (oX9_isInverse.at 26 rfl) cX9_99 (c0 _) (k9_powerR (cR g) (by omega)) rfl rfl rfl ⟨rfl, rfl⟩ rfl rfl (fun _ => rfl) (fun h' hp => ?_)
      rw [show h' = _ from hp]
      dsimp only [Option.toList, List.cons_append, List.nil_append]
      refine v_icmp_geN C (oX9_isInverse.at 27 rfl) (tgt := 124) (by decide) (by omega) (by omega) (fun hc => ?_) (fun hc => absurd hc (by omega))
      refine v_iconst C (oX9_isInverse.at 70 rfl) (v := nI 0) rfl ?_
      refine v_istore C (oX9_isInverse.at 71 rfl) rfl ?_
      dsimp only [sto1, sto2, killL]
      refine L3 g h1 h2 (fun x y hx hy hxy => ?_) (S.1 ^ m) 0 _ _ (by omega) (fun y' hy' => absurd hy' (by omega))
      have e1 := h1 x hx
      have e2 := h1 y hy
      rw [hxy, e2] at e1
      have l1 : cel S.1 (m + S.2.1 - 1) x p < S.1 := cel_lt (by omega)
      have l2 : cel S.1 (m + S.2.1 - 1) y p < S.1 := cel_lt (by omega)
      have := congrArg Int32.toInt e1
      rw [nI_toInt (by omega), nI_toInt (by omega)] at this
      omega
    | succ d ih =>
      intro i g l5 l6 hi h1 h2
      have hcx : cel S.1 (m + S.2.1 - 1) i p < S.1 := cel_lt (by omega)
      have hgi := hgl i
      have p0 : 0 < S.1 ^ (m + S.2.1 - 1 - 1 - p) := Nat.pow_pos (by omega)
      have p1 := pw14 hk (n := m + S.2.1 - 1 - 1 - p) (by omega)
      have p2 : i / S.1 ^ (m + S.2.1 - 1 - 1 - p) ≤ i := Nat.div_le_self _ _
      have hce : i / S.1 ^ (m + S.2.1 - 1 - 1 - p) % S.1 = cel S.1 (m + S.2.1 - 1) i p := rfl
      have ki := k9_imgR (w := w) (L := m + S.2.1 - 1) (x := i) (cR g) (by omega) (by omega) (by omega)
      rw [← gIm_limg (by omega) (by omega) hm1] at ki
      have fin : V X (0, 0) w (hu h 87 (io 243 g)) 109 [some (.ref 62), some (.int (nI m)), some (.int (nI p)), some (.int (nI (m + S.2.1 - 1))), some (.int (nI i)), some (.int (nI (gIm S.1 S.2.1 S.2.2.1 m i))), some (.int (nI (cel S.1 (m + S.2.1 - 1) i p)))] [] ∨ ∃ x, x < i ∧ gIm S.1 S.2.1 S.2.2.1 m x = gIm S.1 S.2.1 S.2.2.1 m i ∧ cel S.1 (m + S.2.1 - 1) x p ≠ cel S.1 (m + S.2.1 - 1) i p := by
        by_cases hbad : ∃ x, x < i ∧ gIm S.1 S.2.1 S.2.2.1 m x = gIm S.1 S.2.1 S.2.2.1 m i ∧ cel S.1 (m + S.2.1 - 1) x p ≠ cel S.1 (m + S.2.1 - 1) i p
        · exact Or.inr hbad
        · left
          refine v_aload_n C (oX9_isInverse.at 63 rfl) rfl ?_
          refine v_getf C (oX9_isInverse.at 64 rfl) fX9_93 (c0 _) rfl ?_
          refine v_iload C (oX9_isInverse.at 65 rfl) rfl ?_
          refine v_iload C (oX9_isInverse.at 66 rfl) rfl ?_
          refine v_iast C (oX9_isInverse.at 67 rfl) (hu_s _ _ _) (by decide) rfl (by omega) ?_
          rw [hu_hu]
          refine v_iincN C (oX9_isInverse.at 68 rfl) rfl ?_
          refine v_goto C (oX9_isInverse.at 69 rfl) (tgt := 39) (by decide) ?_
          dsimp only [sto1, sto2, killL]
          refine ih (i + 1) _ _ _ (by omega) (fun x hx => ?_) (fun y hy hn => ?_)
          · by_cases e : gIm S.1 S.2.1 S.2.2.1 m x = gIm S.1 S.2.1 S.2.2.1 m i
            · rw [e, pk_us]
              by_cases e2 : x = i
              · rw [e2]
              · congr 1
                exact (Decidable.byContradiction (fun q => hbad ⟨x, by omega, e, q⟩) : cel S.1 (m + S.2.1 - 1) x p = _).symm
            · rw [pk_un e]
              exact h1 x (by
                rcases Nat.lt_or_ge x i with q | q
                · exact q
                · exact absurd (by rw [show x = i by omega]) e)
          · rw [pk_un (Ne.symm (hn i (by omega)))]
            exact h2 y hy (fun x hx => hn x (by omega))
      by_cases hex : ∃ x, x < i ∧ gIm S.1 S.2.1 S.2.2.1 m x = gIm S.1 S.2.1 S.2.2.1 m i
      · obtain ⟨x, hx, hxy⟩ := hex
        have hgy : g (gIm S.1 S.2.1 S.2.2.1 m i) = nI (cel S.1 (m + S.2.1 - 1) x p) := by rw [← hxy]; exact h1 x hx
        have hcx2 : cel S.1 (m + S.2.1 - 1) x p < S.1 := cel_lt (by omega)
        refine v_iload C (oX9_isInverse.at 23 rfl) rfl ?_
        refine v_aload_n C (oX9_isInverse.at 24 rfl) rfl ?_
        refine v_iload_n C (oX9_isInverse.at 25 rfl) rfl ?_
        refine v_callV C (oX9_isInverse.at 26 rfl) cX9_99 (c0 _) (k9_powerR (cR g) (by omega)) rfl rfl rfl ⟨rfl, rfl⟩ rfl rfl (fun _ => rfl) (fun h' hp => ?_)
        rw [show h' = _ from hp]
        dsimp only [Option.toList, List.cons_append, List.nil_append]
        refine v_icmp_geN C (oX9_isInverse.at 27 rfl) (tgt := 124) (by decide) (by omega) (by omega) (fun hc => absurd hc (by omega)) (fun hc => ?_)
        refine v_aload_n C (oX9_isInverse.at 28 rfl) rfl ?_
        refine v_iload C (oX9_isInverse.at 29 rfl) rfl ?_
        refine v_iload_n C (oX9_isInverse.at 30 rfl) rfl ?_
        refine v_aload_n C (oX9_isInverse.at 31 rfl) rfl ?_
        refine v_getf C (oX9_isInverse.at 32 rfl) fX9_16 (c0 _) rfl ?_
        refine v_aload_n C (oX9_isInverse.at 33 rfl) rfl ?_
        refine v_getf C (oX9_isInverse.at 34 rfl) fX9_13 (c0 _) (congrArg (fun z => some (Value.int z)) (o2.2.1)) ?_
        refine v_callV C (oX9_isInverse.at 35 rfl) cX9_145 (c0 _) (ki) rfl rfl rfl ⟨rfl, rfl⟩ rfl rfl (fun _ => rfl) (fun h' hp => ?_)
        rw [show h' = _ from hp]
        dsimp only [Option.toList, List.cons_append, List.nil_append]
        refine v_istore C (oX9_isInverse.at 36 rfl) rfl ?_
        refine v_iload C (oX9_isInverse.at 37 rfl) rfl ?_
        refine v_aload_n C (oX9_isInverse.at 38 rfl) rfl ?_
        refine v_iload_n C (oX9_isInverse.at 39 rfl) rfl ?_
        refine v_iconst C (oX9_isInverse.at 40 rfl) (v := nI 1) rfl ?_
        refine v_isubN C (oX9_isInverse.at 41 rfl) (by omega) ?_
        refine v_iload_n C (oX9_isInverse.at 42 rfl) rfl ?_
        refine v_isubN C (oX9_isInverse.at 43 rfl) (by omega) ?_
        dsimp only [sto1, sto2, killL]
        refine v_callV C (oX9_isInverse.at 44 rfl) cX9_99 (c0 _) (k9_powerR (cR g) (by omega)) rfl rfl rfl ⟨rfl, rfl⟩ rfl rfl (fun _ => rfl) (fun h' hp => ?_)
        rw [show h' = _ from hp]
        dsimp only [Option.toList, List.cons_append, List.nil_append]
        refine v_idivN C (oX9_isInverse.at 45 rfl) (by omega) (by omega) (by omega) ?_
        refine v_aload_n C (oX9_isInverse.at 46 rfl) rfl ?_
        refine v_getf C (oX9_isInverse.at 47 rfl) fX9_7 (c0 _) (congrArg (fun z => some (Value.int z)) (o2.1)) ?_
        refine v_iremN C (oX9_isInverse.at 48 rfl) (by omega) (by omega) (by omega) ?_
        refine v_istore C (oX9_isInverse.at 49 rfl) rfl ?_
        dsimp only [sto1, sto2, killL]
        rw [hce]
        refine v_aload_n C (oX9_isInverse.at 50 rfl) rfl ?_
        refine v_getf C (oX9_isInverse.at 51 rfl) fX9_93 (c0 _) rfl ?_
        refine v_iload C (oX9_isInverse.at 52 rfl) rfl ?_
        refine v_iald C (oX9_isInverse.at 53 rfl) (hu_s _ _ _) (by decide) rfl (by omega) hgy ?_
        refine v_if_ltN C (oX9_isInverse.at 54 rfl) (tgt := 109) (by decide) (by omega) ?_
        refine v_aload_n C (oX9_isInverse.at 55 rfl) rfl ?_
        refine v_getf C (oX9_isInverse.at 56 rfl) fX9_93 (c0 _) rfl ?_
        refine v_iload C (oX9_isInverse.at 57 rfl) rfl ?_
        refine v_iald C (oX9_isInverse.at 58 rfl) (hu_s _ _ _) (by decide) rfl (by omega) hgy ?_
        refine v_iload C (oX9_isInverse.at 59 rfl) rfl ?_
        refine v_icmp_eqN C (oX9_isInverse.at 60 rfl) (tgt := 109) (by decide) (by omega) (by omega) (fun hc => ?_) (fun hc => ?_)
        · rcases fin with q | ⟨x', hx', e1, e2⟩
          · exact q
          · have e3 := h1 x' hx'
            rw [e1, hgy, hc] at e3
            have l1 : cel S.1 (m + S.2.1 - 1) x' p < S.1 := cel_lt (by omega)
            have := congrArg Int32.toInt e3
            rw [nI_toInt (by omega), nI_toInt (by omega)] at this
            exact absurd (by omega) e2
        · have hin : inB S.1 S.2.1 S.2.2.1 m p = false := by
            rw [← Bool.not_eq_true]
            intro q
            exact hc ((inB_iff.mp q).2 x i (by omega) (by omega) hxy)
          rw [hin] at C
          refine v_iconst C (oX9_isInverse.at 61 rfl) (v := nI 0) rfl ?_
          exact v_zret0 C (oX9_isInverse.at 62 rfl) rfl rfl ⟨Nat.le_refl _, Nat.le_refl _⟩ ⟨rfl, g, rfl, fun q => absurd q (by decide)⟩
      · have hgy : g (gIm S.1 S.2.1 S.2.2.1 m i) = -1 := h2 _ hgi (fun x hx e => hex ⟨x, hx, e⟩)
        refine v_iload C (oX9_isInverse.at 23 rfl) rfl ?_
        refine v_aload_n C (oX9_isInverse.at 24 rfl) rfl ?_
        refine v_iload_n C (oX9_isInverse.at 25 rfl) rfl ?_
        refine v_callV C (oX9_isInverse.at 26 rfl) cX9_99 (c0 _) (k9_powerR (cR g) (by omega)) rfl rfl rfl ⟨rfl, rfl⟩ rfl rfl (fun _ => rfl) (fun h' hp => ?_)
        rw [show h' = _ from hp]
        dsimp only [Option.toList, List.cons_append, List.nil_append]
        refine v_icmp_geN C (oX9_isInverse.at 27 rfl) (tgt := 124) (by decide) (by omega) (by omega) (fun hc => absurd hc (by omega)) (fun hc => ?_)
        refine v_aload_n C (oX9_isInverse.at 28 rfl) rfl ?_
        refine v_iload C (oX9_isInverse.at 29 rfl) rfl ?_
        refine v_iload_n C (oX9_isInverse.at 30 rfl) rfl ?_
        refine v_aload_n C (oX9_isInverse.at 31 rfl) rfl ?_
        refine v_getf C (oX9_isInverse.at 32 rfl) fX9_16 (c0 _) rfl ?_
        refine v_aload_n C (oX9_isInverse.at 33 rfl) rfl ?_
        refine v_getf C (oX9_isInverse.at 34 rfl) fX9_13 (c0 _) (congrArg (fun z => some (Value.int z)) (o2.2.1)) ?_
        refine v_callV C (oX9_isInverse.at 35 rfl) cX9_145 (c0 _) (ki) rfl rfl rfl ⟨rfl, rfl⟩ rfl rfl (fun _ => rfl) (fun h' hp => ?_)
        rw [show h' = _ from hp]
        dsimp only [Option.toList, List.cons_append, List.nil_append]
        refine v_istore C (oX9_isInverse.at 36 rfl) rfl ?_
        refine v_iload C (oX9_isInverse.at 37 rfl) rfl ?_
        refine v_aload_n C (oX9_isInverse.at 38 rfl) rfl ?_
        refine v_iload_n C (oX9_isInverse.at 39 rfl) rfl ?_
        refine v_iconst C (oX9_isInverse.at 40 rfl) (v := nI 1) rfl ?_
        refine v_isubN C (oX9_isInverse.at 41 rfl) (by omega) ?_
        refine v_iload_n C (oX9_isInverse.at 42 rfl) rfl ?_
        refine v_isubN C (oX9_isInverse.at 43 rfl) (by omega) ?_
        dsimp only [sto1, sto2, killL]
        refine v_callV C (oX9_isInverse.at 44 rfl) cX9_99 (c0 _) (k9_powerR (cR g) (by omega)) rfl rfl rfl ⟨rfl, rfl⟩ rfl rfl (fun _ => rfl) (fun h' hp => ?_)
        rw [show h' = _ from hp]
        dsimp only [Option.toList, List.cons_append, List.nil_append]
        refine v_idivN C (oX9_isInverse.at 45 rfl) (by omega) (by omega) (by omega) ?_
        refine v_aload_n C (oX9_isInverse.at 46 rfl) rfl ?_
        refine v_getf C (oX9_isInverse.at 47 rfl) fX9_7 (c0 _) (congrArg (fun z => some (Value.int z)) (o2.1)) ?_
        refine v_iremN C (oX9_isInverse.at 48 rfl) (by omega) (by omega) (by omega) ?_
        refine v_istore C (oX9_isInverse.at 49 rfl) rfl ?_
        dsimp only [sto1, sto2, killL]
        rw [hce]
        refine v_aload_n C (oX9_isInverse.at 50 rfl) rfl ?_
        refine v_getf C (oX9_isInverse.at 51 rfl) fX9_93 (c0 _) rfl ?_
        refine v_iload C (oX9_isInverse.at 52 rfl) rfl ?_
        refine v_iald C (oX9_isInverse.at 53 rfl) (hu_s _ _ _) (by decide) rfl (by omega) hgy ?_
        refine v_if_lt C (oX9_isInverse.at 54 rfl) (tgt := 109) (by decide) (fun hc => ?_) (fun hc => absurd (by decide) hc)
        rcases fin with q | ⟨x', hx', e1, e2⟩
        · exact q
        · exact absurd ⟨x', hx', e1⟩ hex
  suffices H : ∀ d i g, i + d = S.1 ^ m → (∀ y, y < i → g y = -1) → V X (0, 0) w (hu h 87 (io 243 g)) 12 [some (.ref 62), some (.int (nI m)), some (.int (nI p)), some (.int (nI (m + S.2.1 - 1))), some (.int (nI i)), none, none] [] by
    have := H (S.1 ^ m) 0 g0 (by omega) (fun y hy => absurd hy (by omega))
    rw [hu_id h hg0] at this
    exact this
  intro d
  induction d with
  | zero =>
    intro i g hi hg
    obtain rfl : i = S.1 ^ m := by omega
    refine v_iload C (oX9_isInverse.at 9 rfl) rfl ?_
    refine v_aload_n C (oX9_isInverse.at 10 rfl) rfl ?_
    refine v_iload_n C (oX9_isInverse.at 11 rfl) rfl ?_
    refine v_callV C (oX9_isInverse.at 12 rfl) cX9_99 (c0 _) (k9_powerR (cR g) (by omega)) rfl rfl rfl ⟨rfl, rfl⟩ rfl rfl (fun _ => rfl) (fun h' hp => ?_)
    rw [show h' = _ from hp]
    dsimp only [Option.toList, List.cons_append, List.nil_append]
    refine v_icmp_geN C (oX9_isInverse.at 13 rfl) (tgt := 36) (by decide) (by omega) (by omega) (fun hc => ?_) (fun hc => absurd hc (by omega))
    refine v_iconst C (oX9_isInverse.at 21 rfl) (v := nI 0) rfl ?_
    refine v_istore C (oX9_isInverse.at 22 rfl) rfl ?_
    dsimp only [sto1, sto2, killL]
    exact L2 (S.1 ^ (m + S.2.1 - 1)) 0 g _ _ (by omega) (fun x hx => absurd hx (by omega)) (fun y hy _ => hg y hy)
  | succ d ih =>
    intro i g hi hg
    refine v_iload C (oX9_isInverse.at 9 rfl) rfl ?_
    refine v_aload_n C (oX9_isInverse.at 10 rfl) rfl ?_
    refine v_iload_n C (oX9_isInverse.at 11 rfl) rfl ?_
    refine v_callV C (oX9_isInverse.at 12 rfl) cX9_99 (c0 _) (k9_powerR (cR g) (by omega)) rfl rfl rfl ⟨rfl, rfl⟩ rfl rfl (fun _ => rfl) (fun h' hp => ?_)
    rw [show h' = _ from hp]
    dsimp only [Option.toList, List.cons_append, List.nil_append]
    refine v_icmp_geN C (oX9_isInverse.at 13 rfl) (tgt := 36) (by decide) (by omega) (by omega) (fun hc => absurd hc (by omega)) (fun hc => ?_)
    refine v_aload_n C (oX9_isInverse.at 14 rfl) rfl ?_
    refine v_getf C (oX9_isInverse.at 15 rfl) fX9_93 (c0 _) rfl ?_
    refine v_iload C (oX9_isInverse.at 16 rfl) rfl ?_
    refine v_iconst C (oX9_isInverse.at 17 rfl) (v := -1) rfl ?_
    refine v_iast C (oX9_isInverse.at 18 rfl) (hu_s _ _ _) (by decide) rfl (by omega) ?_
    rw [hu_hu]
    refine v_iincN C (oX9_isInverse.at 19 rfl) rfl ?_
    refine v_goto C (oX9_isInverse.at 20 rfl) (tgt := 12) (by decide) ?_
    dsimp only [sto1, sto2, killL]
    refine ih (i + 1) _ (by omega) (fun y hy => ?_)
    by_cases e : y = i
    · rw [e, pk_us]
    · rw [pk_un e]; exact hg y (by omega)
theorem k9_hasInverse0 {w : Wt} {G h : Hp} {th q : Nat} {S Z : Sc} {sv : Bool} {F : Sf} (hR : RF G h th S sv Z F) (hI : InR S.1 S.2.1 S.2.2.1 0 q) : ConN mX9_hasInverse 3 (0, 0) w [.ref 62] h (.inl (some (.int (bI false)))) (fun h' => RF G h' th S sv Z F) := by
  have hwd := hR.so.1.w
  have hno : ∀ m', 1 ≤ m' → m' ≤ 5 → ∀ j, j < m' + S.2.1 - 1 → inB S.1 S.2.1 S.2.2.1 m' j = false := by
    rcases hI with ⟨-, -, q⟩ | ⟨q, -⟩
    · exact q
    · omega
  refine conI (by decide +kernel) ⟨fun _ => rfl, rfl, by simp⟩ (fun X C => ?_)
  change V X (0, 0) w h 0 [some (.ref 62), none, none] []
  refine v_iconst C (oX9_hasInverse.at 0 rfl) (v := nI 1) rfl ?_
  refine v_istore_n C (oX9_hasInverse.at 1 rfl) rfl ?_
  dsimp only [sto1, sto2, killL]
  suffices H : ∀ d m h1 l2, m + d = 6 → 1 ≤ m → RF G h1 th S sv Z F → V X (0, 0) w h1 2 [some (.ref 62), some (.int (nI m)), l2] [] from H 5 1 h none (by omega) (by omega) hR
  intro d
  induction d with
  | zero =>
    intro m h1 l2 hm hm1 hR1
    obtain rfl : m = 6 := by omega
    refine v_iload_n C (oX9_hasInverse.at 2 rfl) rfl ?_
    refine v_iconst C (oX9_hasInverse.at 3 rfl) (v := nI 5) rfl ?_
    refine v_icmp_gtN C (oX9_hasInverse.at 4 rfl) (tgt := 57) (by decide) (by omega) (by omega) (fun hc => ?_) (fun hc => absurd hc (by omega))
    refine v_iconst C (oX9_hasInverse.at 33 rfl) (v := nI 0) rfl ?_
    exact v_zret0 C (oX9_hasInverse.at 34 rfl) rfl rfl ⟨Nat.le_refl _, Nat.le_refl _⟩ ⟨rfl, hR1⟩
  | succ d ih =>
    intro m h1 l2 hm hm1 hR1
    refine v_iload_n C (oX9_hasInverse.at 2 rfl) rfl ?_
    refine v_iconst C (oX9_hasInverse.at 3 rfl) (v := nI 5) rfl ?_
    refine v_icmp_gtN C (oX9_hasInverse.at 4 rfl) (tgt := 57) (by decide) (by omega) (by omega) (fun hc => absurd hc (by omega)) (fun hc => ?_)
    refine v_iconst C (oX9_hasInverse.at 5 rfl) (v := nI 0) rfl ?_
    refine v_istore_n C (oX9_hasInverse.at 6 rfl) rfl ?_
    dsimp only [sto1, sto2, killL]
    suffices H2 : ∀ e p h1, p + e = m + S.2.1 - 1 → RF G h1 th S sv Z F → V X (0, 0) w h1 9 [some (.ref 62), some (.int (nI m)), some (.int (nI p))] [] from H2 (m + S.2.1 - 1) 0 h1 (by omega) hR1
    clear hR1 h1
    intro e
    induction e with
    | zero =>
      intro p h1 hp hR1
      obtain rfl : p = m + S.2.1 - 1 := by omega
      obtain ⟨u, o0, o1, o2⟩ := hR1.o
      refine v_iload_n C (oX9_hasInverse.at 7 rfl) rfl ?_
      refine v_iload_n C (oX9_hasInverse.at 8 rfl) rfl ?_
      refine v_aload_n C (oX9_hasInverse.at 9 rfl) rfl ?_
      refine v_getf C (oX9_hasInverse.at 10 rfl) fX9_13 o0 (congrArg (fun z => some (Value.int z)) (o2.2.1)) ?_
      refine v_iaddN C (oX9_hasInverse.at 11 rfl) ?_
      refine v_iconst C (oX9_hasInverse.at 12 rfl) (v := nI 2) rfl ?_
      refine v_isubN C (oX9_hasInverse.at 13 rfl) (by omega) ?_
      refine v_icmp_gtN C (oX9_hasInverse.at 14 rfl) (tgt := 51) (by decide) (by omega) (by omega) (fun hc => ?_) (fun hc => absurd hc (by omega))
      refine v_iincN C (oX9_hasInverse.at 31 rfl) rfl ?_
      refine v_goto C (oX9_hasInverse.at 32 rfl) (tgt := 2) (by decide) ?_
      dsimp only [sto1, sto2, killL]
      exact ih (m + 1) h1 _ (by omega) (by omega) hR1
    | succ e ihe =>
      intro p h1 hp hR1
      obtain ⟨u, o0, o1, o2⟩ := hR1.o
      have ki := k9_isInverse (w := w) hR1 hm1 (by omega) (show p < m + S.2.1 - 1 by omega)
      rw [hno m hm1 (by omega) p (by omega)] at ki
      refine v_iload_n C (oX9_hasInverse.at 7 rfl) rfl ?_
      refine v_iload_n C (oX9_hasInverse.at 8 rfl) rfl ?_
      refine v_aload_n C (oX9_hasInverse.at 9 rfl) rfl ?_
      refine v_getf C (oX9_hasInverse.at 10 rfl) fX9_13 o0 (congrArg (fun z => some (Value.int z)) (o2.2.1)) ?_
      refine v_iaddN C (oX9_hasInverse.at 11 rfl) ?_
      refine v_iconst C (oX9_hasInverse.at 12 rfl) (v := nI 2) rfl ?_
      refine v_isubN C (oX9_hasInverse.at 13 rfl) (by omega) ?_
      refine v_icmp_gtN C (oX9_hasInverse.at 14 rfl) (tgt := 51) (by decide) (by omega) (by omega) (fun hc => absurd hc (by omega)) (fun hc => ?_)
      refine v_aload_n C (oX9_hasInverse.at 15 rfl) rfl ?_
      refine v_iload_n C (oX9_hasInverse.at 16 rfl) rfl ?_
      refine v_iload_n C (oX9_hasInverse.at 17 rfl) rfl ?_
      refine v_callV C (oX9_hasInverse.at 18 rfl) cX9_274 o0 (ki) rfl rfl rfl ⟨rfl, rfl⟩ rfl rfl (fun _ => rfl) (fun h' hp => ?_)
      dsimp only [Option.toList, List.cons_append, List.nil_append]
      obtain ⟨g, e9, -⟩ := hp
      have hR2 : RF G h' th S sv Z F := by rw [e9]; exact hR1.set_r (i := 87) (Or.inr (Or.inr (Or.inr rfl)))
      refine v_if_neB C (oX9_hasInverse.at 19 rfl) (tgt := 33) (by decide) (fun z => absurd z (by decide)) (fun _ => ?_)
      refine v_goto C (oX9_hasInverse.at 20 rfl) (tgt := 45) (by decide) ?_
      refine v_iincN C (oX9_hasInverse.at 29 rfl) rfl ?_
      refine v_goto C (oX9_hasInverse.at 30 rfl) (tgt := 9) (by decide) ?_
      dsimp only [sto1, sto2, killL]
      exact ihe (p + 1) h' (by omega) hR2
/-- the inverse has been found -/
def InF (h : Hp) (k wd : Nat) (T : Nat → Nat) (m q : Nat) : Prop := ∃ u g, h 62 = MO u ∧ u 40 = nI m ∧ u 41 = nI q ∧ h 87 = io 243 g ∧ AsG k wd T m q g
theorem k9_hasInverse1 {w : Wt} {G h : Hp} {th m q : Nat} {S Z : Sc} {sv : Bool} {F : Sf} (hR : RF G h th S sv Z F) (hI : InR S.1 S.2.1 S.2.2.1 m q) (hm0 : m ≠ 0) : ConN mX9_hasInverse 3 (0, 0) w [.ref 62] h (.inl (some (.int (bI true)))) (fun h' => RF G h' th S sv Z F ∧ InF h' S.1 S.2.1 S.2.2.1 m q) := by
  have hwd := hR.so.1.w
  have hno : 1 ≤ m ∧ m ≤ 5 ∧ q < m + S.2.1 - 1 ∧ inB S.1 S.2.1 S.2.2.1 m q = true ∧ (∀ j, j < q → inB S.1 S.2.1 S.2.2.1 m j = false) ∧ ∀ m', 1 ≤ m' → m' < m → ∀ j, j < m' + S.2.1 - 1 → inB S.1 S.2.1 S.2.2.1 m' j = false := by
    rcases hI with ⟨q, -⟩ | q
    · omega
    · exact q
  obtain ⟨n1, n2, n3, n4, n5, n6⟩ := hno
  refine conI (by decide +kernel) ⟨fun _ => rfl, rfl, by simp⟩ (fun X C => ?_)
  change V X (0, 0) w h 0 [some (.ref 62), none, none] []
  refine v_iconst C (oX9_hasInverse.at 0 rfl) (v := nI 1) rfl ?_
  refine v_istore_n C (oX9_hasInverse.at 1 rfl) rfl ?_
  dsimp only [sto1, sto2, killL]
  suffices H : ∀ d m' h1 l2, m' + d = m → 1 ≤ m' → RF G h1 th S sv Z F → V X (0, 0) w h1 2 [some (.ref 62), some (.int (nI m')), l2] [] from H (m - 1) 1 h none (by omega) (by omega) hR
  intro d
  induction d with
  | zero =>
    intro m' h1 l2 hm hm1 hR1
    obtain rfl : m' = m := by omega
    refine v_iload_n C (oX9_hasInverse.at 2 rfl) rfl ?_
    refine v_iconst C (oX9_hasInverse.at 3 rfl) (v := nI 5) rfl ?_
    refine v_icmp_gtN C (oX9_hasInverse.at 4 rfl) (tgt := 57) (by decide) (by omega) (by omega) (fun hc => absurd hc (by omega)) (fun hc => ?_)
    refine v_iconst C (oX9_hasInverse.at 5 rfl) (v := nI 0) rfl ?_
    refine v_istore_n C (oX9_hasInverse.at 6 rfl) rfl ?_
    dsimp only [sto1, sto2, killL]
    suffices H2 : ∀ e p h1, p + e = q → RF G h1 th S sv Z F → V X (0, 0) w h1 9 [some (.ref 62), some (.int (nI m')), some (.int (nI p))] [] from H2 q 0 h1 (by omega) hR1
    clear hR1 h1
    intro e
    induction e with
    | zero =>
      intro p h1 hp hR1
      obtain rfl : p = q := by omega
      obtain ⟨u, o0, o1, o2⟩ := hR1.o
      have ki := k9_isInverse (w := w) hR1 hm1 (by omega) n3
      rw [n4] at ki
      refine v_iload_n C (oX9_hasInverse.at 7 rfl) rfl ?_
      refine v_iload_n C (oX9_hasInverse.at 8 rfl) rfl ?_
      refine v_aload_n C (oX9_hasInverse.at 9 rfl) rfl ?_
      refine v_getf C (oX9_hasInverse.at 10 rfl) fX9_13 o0 (congrArg (fun z => some (Value.int z)) (o2.2.1)) ?_
      refine v_iaddN C (oX9_hasInverse.at 11 rfl) ?_
      refine v_iconst C (oX9_hasInverse.at 12 rfl) (v := nI 2) rfl ?_
      refine v_isubN C (oX9_hasInverse.at 13 rfl) (by omega) ?_
      refine v_icmp_gtN C (oX9_hasInverse.at 14 rfl) (tgt := 51) (by decide) (by omega) (by omega) (fun hc => absurd hc (by omega)) (fun hc => ?_)
      refine v_aload_n C (oX9_hasInverse.at 15 rfl) rfl ?_
      refine v_iload_n C (oX9_hasInverse.at 16 rfl) rfl ?_
      refine v_iload_n C (oX9_hasInverse.at 17 rfl) rfl ?_
      refine v_callV C (oX9_hasInverse.at 18 rfl) cX9_274 o0 (ki) rfl rfl rfl ⟨rfl, rfl⟩ rfl rfl (fun _ => rfl) (fun h' hp => ?_)
      dsimp only [Option.toList, List.cons_append, List.nil_append]
      obtain ⟨g, e9, hAs⟩ := hp
      have hR2 : RF G h' th S sv Z F := by rw [e9]; exact hR1.set_r (i := 87) (Or.inr (Or.inr (Or.inr rfl)))
      have h87 : h' 87 = io 243 g := by rw [e9]; exact hu_s _ _ _
      obtain ⟨h2, e2⟩ : ∃ z, z = h' := ⟨h', rfl⟩
      rw [← e2] at hR2 h87 ⊢
      obtain ⟨u2, r0, r1, r2⟩ := hR2.o
      refine v_if_neB C (oX9_hasInverse.at 19 rfl) (tgt := 33) (by decide) (fun _ => ?_) (fun z => absurd z (by decide))
      refine v_aload_n C (oX9_hasInverse.at 21 rfl) rfl ?_
      refine v_iload_n C (oX9_hasInverse.at 22 rfl) rfl ?_
      refine v_put9 C (oX9_hasInverse.at 23 rfl) fX9_277 p9_40 r0 ⟨rfl, rfl, rfl⟩ ?_
      refine v_aload_n C (oX9_hasInverse.at 24 rfl) rfl ?_
      refine v_iload_n C (oX9_hasInverse.at 25 rfl) rfl ?_
      refine v_put9u C (oX9_hasInverse.at 26 rfl) fX9_280 p9_41 ⟨rfl, rfl, rfl⟩ ?_
      refine v_iconst C (oX9_hasInverse.at 27 rfl) (v := nI 1) rfl ?_
      exact v_zret1 C (oX9_hasInverse.at 28 rfl) rfl rfl ⟨Nat.le_refl _, Nat.le_refl _⟩ ⟨rfl, hR2.set_o r1 r2, _, g, hu_s _ _ _, rfl, rfl, (hu_n _ _ (by decide)).trans h87, hAs rfl⟩
    | succ e ihe =>
      intro p h1 hp hR1
      obtain ⟨u, o0, o1, o2⟩ := hR1.o
      have ki := k9_isInverse (w := w) hR1 hm1 (by omega) (show p < m' + S.2.1 - 1 by omega)
      rw [n5 p (by omega)] at ki
      refine v_iload_n C (oX9_hasInverse.at 7 rfl) rfl ?_
      refine v_iload_n C (oX9_hasInverse.at 8 rfl) rfl ?_
      refine v_aload_n C (oX9_hasInverse.at 9 rfl) rfl ?_
      refine v_getf C (oX9_hasInverse.at 10 rfl) fX9_13 o0 (congrArg (fun z => some (Value.int z)) (o2.2.1)) ?_
      refine v_iaddN C (oX9_hasInverse.at 11 rfl) ?_
      refine v_iconst C (oX9_hasInverse.at 12 rfl) (v := nI 2) rfl ?_
      refine v_isubN C (oX9_hasInverse.at 13 rfl) (by omega) ?_
      refine v_icmp_gtN C (oX9_hasInverse.at 14 rfl) (tgt := 51) (by decide) (by omega) (by omega) (fun hc => absurd hc (by omega)) (fun hc => ?_)
      refine v_aload_n C (oX9_hasInverse.at 15 rfl) rfl ?_
      refine v_iload_n C (oX9_hasInverse.at 16 rfl) rfl ?_
      refine v_iload_n C (oX9_hasInverse.at 17 rfl) rfl ?_
      refine v_callV C (oX9_hasInverse.at 18 rfl) cX9_274 o0 (ki) rfl rfl rfl ⟨rfl, rfl⟩ rfl rfl (fun _ => rfl) (fun h' hp => ?_)
      dsimp only [Option.toList, List.cons_append, List.nil_append]
      obtain ⟨g, e9, -⟩ := hp
      have hR2 : RF G h' th S sv Z F := by rw [e9]; exact hR1.set_r (i := 87) (Or.inr (Or.inr (Or.inr rfl)))
      refine v_if_neB C (oX9_hasInverse.at 19 rfl) (tgt := 33) (by decide) (fun z => absurd z (by decide)) (fun _ => ?_)
      refine v_goto C (oX9_hasInverse.at 20 rfl) (tgt := 45) (by decide) ?_
      refine v_iincN C (oX9_hasInverse.at 29 rfl) rfl ?_
      refine v_goto C (oX9_hasInverse.at 30 rfl) (tgt := 9) (by decide) ?_
      dsimp only [sto1, sto2, killL]
      exact ihe (p + 1) h' (by omega) hR2
  | succ d ih =>
    intro m' h1 l2 hm hm1 hR1
    refine v_iload_n C (oX9_hasInverse.at 2 rfl) rfl ?_
    refine v_iconst C (oX9_hasInverse.at 3 rfl) (v := nI 5) rfl ?_
    refine v_icmp_gtN C (oX9_hasInverse.at 4 rfl) (tgt := 57) (by decide) (by omega) (by omega) (fun hc => absurd hc (by omega)) (fun hc => ?_)
    refine v_iconst C (oX9_hasInverse.at 5 rfl) (v := nI 0) rfl ?_
    refine v_istore_n C (oX9_hasInverse.at 6 rfl) rfl ?_
    dsimp only [sto1, sto2, killL]
    suffices H2 : ∀ e p h1, p + e = m' + S.2.1 - 1 → RF G h1 th S sv Z F → V X (0, 0) w h1 9 [some (.ref 62), some (.int (nI m')), some (.int (nI p))] [] from H2 (m' + S.2.1 - 1) 0 h1 (by omega) hR1
    clear hR1 h1
    intro e
    induction e with
    | zero =>
      intro p h1 hp hR1
      obtain rfl : p = m' + S.2.1 - 1 := by omega
      obtain ⟨u, o0, o1, o2⟩ := hR1.o
      refine v_iload_n C (oX9_hasInverse.at 7 rfl) rfl ?_
      refine v_iload_n C (oX9_hasInverse.at 8 rfl) rfl ?_
      refine v_aload_n C (oX9_hasInverse.at 9 rfl) rfl ?_
      refine v_getf C (oX9_hasInverse.at 10 rfl) fX9_13 o0 (congrArg (fun z => some (Value.int z)) (o2.2.1)) ?_
      refine v_iaddN C (oX9_hasInverse.at 11 rfl) ?_
      refine v_iconst C (oX9_hasInverse.at 12 rfl) (v := nI 2) rfl ?_
      refine v_isubN C (oX9_hasInverse.at 13 rfl) (by omega) ?_
      refine v_icmp_gtN C (oX9_hasInverse.at 14 rfl) (tgt := 51) (by decide) (by omega) (by omega) (fun hc => ?_) (fun hc => absurd hc (by omega))
      refine v_iincN C (oX9_hasInverse.at 31 rfl) rfl ?_
      refine v_goto C (oX9_hasInverse.at 32 rfl) (tgt := 2) (by decide) ?_
      dsimp only [sto1, sto2, killL]
      exact ih (m' + 1) h1 _ (by omega) (by omega) hR1
    | succ e ihe =>
      intro p h1 hp hR1
      obtain ⟨u, o0, o1, o2⟩ := hR1.o
      have ki := k9_isInverse (w := w) hR1 hm1 (by omega) (show p < m' + S.2.1 - 1 by omega)
      rw [n6 m' hm1 (by omega) p (by omega)] at ki
      refine v_iload_n C (oX9_hasInverse.at 7 rfl) rfl ?_
      refine v_iload_n C (oX9_hasInverse.at 8 rfl) rfl ?_
      refine v_aload_n C (oX9_hasInverse.at 9 rfl) rfl ?_
      refine v_getf C (oX9_hasInverse.at 10 rfl) fX9_13 o0 (congrArg (fun z => some (Value.int z)) (o2.2.1)) ?_
      refine v_iaddN C (oX9_hasInverse.at 11 rfl) ?_
      refine v_iconst C (oX9_hasInverse.at 12 rfl) (v := nI 2) rfl ?_
      refine v_isubN C (oX9_hasInverse.at 13 rfl) (by omega) ?_
      refine v_icmp_gtN C (oX9_hasInverse.at 14 rfl) (tgt := 51) (by decide) (by omega) (by omega) (fun hc => absurd hc (by omega)) (fun hc => ?_)
      refine v_aload_n C (oX9_hasInverse.at 15 rfl) rfl ?_
      refine v_iload_n C (oX9_hasInverse.at 16 rfl) rfl ?_
      refine v_iload_n C (oX9_hasInverse.at 17 rfl) rfl ?_
      refine v_callV C (oX9_hasInverse.at 18 rfl) cX9_274 o0 (ki) rfl rfl rfl ⟨rfl, rfl⟩ rfl rfl (fun _ => rfl) (fun h' hp => ?_)
      dsimp only [Option.toList, List.cons_append, List.nil_append]
      obtain ⟨g, e9, -⟩ := hp
      have hR2 : RF G h' th S sv Z F := by rw [e9]; exact hR1.set_r (i := 87) (Or.inr (Or.inr (Or.inr rfl)))
      refine v_if_neB C (oX9_hasInverse.at 19 rfl) (tgt := 33) (by decide) (fun z => absurd z (by decide)) (fun _ => ?_)
      refine v_goto C (oX9_hasInverse.at 20 rfl) (tgt := 45) (by decide) ?_
      refine v_iincN C (oX9_hasInverse.at 29 rfl) rfl ?_
      refine v_goto C (oX9_hasInverse.at 30 rfl) (tgt := 9) (by decide) ?_
      dsimp only [sto1, sto2, killL]
      exact ihe (p + 1) h' (by omega) hR2
theorem k9_inverseB {w : Wt} {G h : Hp} {th : Nat} {S Z : Sc} {sv : Bool} {F : Sf} {x : Int32} (hR : RF G h th S sv Z F) (hx : ¬ InB x 2) : ConN mX9_inverse 4 (0, 0) w [.ref 62, .int x] h (.inl (some (.int (nI 0)))) (fun h' => RF G h' 1 S sv Z F) := by
  refine conI (by decide +kernel) ⟨fun _ => rfl, rfl, by simp⟩ (fun X C => ?_)
  change V X (0, 0) w h 0 [some (.ref 62), some (.int x)] []
  refine v_aload_n C (oX9_inverse.at 0 rfl) rfl ?_
  refine v_iconst C (oX9_inverse.at 1 rfl) (v := nI 0) rfl ?_
  refine v_thr C (oX9_inverse.at 2 rfl) fX9_96 hR (fun h1 u1 hR1 q0 qt qm => ?_)
  refine v_iload_n C (oX9_inverse.at 3 rfl) rfl ?_
  refine v_iconst C (oX9_inverse.at 4 rfl) (v := nI 0) rfl ?_
  refine v_iconst C (oX9_inverse.at 5 rfl) (v := nI 1) rfl ?_
  refine v_callS C (oX9_inverse.at 6 rfl) cX9_103 (k_inF 2 (by decide) (by decide) rfl hx) rfl rfl rfl ⟨rfl, rfl⟩ rfl rfl (fun _ => rfl) (fun h' hp => ?_)
  rw [show h' = _ from hp]
  dsimp only [Option.toList, List.cons_append, List.nil_append]
  refine v_if_neB C (oX9_inverse.at 7 rfl) (tgt := 20) (by decide) (fun z => absurd z (by decide)) (fun _ => ?_)
  refine v_aload_n C (oX9_inverse.at 8 rfl) rfl ?_
  refine v_iconst C (oX9_inverse.at 9 rfl) (v := nI 1) rfl ?_
  refine v_callV C (oX9_inverse.at 10 rfl) cX9_111 q0 (k9_noR hR1) rfl rfl rfl ⟨rfl, rfl⟩ rfl rfl (fun _ => rfl) (fun h' hp => ?_)
  dsimp only [Option.toList, List.cons_append, List.nil_append]
  exact v_iret C (oX9_inverse.at 11 rfl) rfl rfl ⟨Nat.le_refl _, Nat.le_refl _⟩ ⟨rfl, hp⟩
theorem k9_inverseX {w : Wt} {G h : Hp} {th q : Nat} {S Z : Sc} {sv : Bool} {F : Sf} {x : Nat} (hR : RF G h th S sv Z F) (hx : x < 2) (hI : InR S.1 S.2.1 S.2.2.1 0 q) : ConN mX9_inverse 4 (0, 0) w [.ref 62, .int (nI x)] h (.inl (some (.int (nI 0)))) (fun h' => RF G h' 2 S sv Z F) := by
  refine conI (by decide +kernel) ⟨fun _ => rfl, rfl, by simp⟩ (fun X C => ?_)
  change V X (0, 0) w h 0 [some (.ref 62), some (.int (nI x))] []
  refine v_aload_n C (oX9_inverse.at 0 rfl) rfl ?_
  refine v_iconst C (oX9_inverse.at 1 rfl) (v := nI 0) rfl ?_
  refine v_thr C (oX9_inverse.at 2 rfl) fX9_96 hR (fun h1 u1 hR1 q0 qt qm => ?_)
  refine v_iload_n C (oX9_inverse.at 3 rfl) rfl ?_
  refine v_iconst C (oX9_inverse.at 4 rfl) (v := nI 0) rfl ?_
  refine v_iconst C (oX9_inverse.at 5 rfl) (v := nI 1) rfl ?_
  refine v_callS C (oX9_inverse.at 6 rfl) cX9_103 (k_inT 2 (by decide) (by decide) rfl (InB.of hx (by decide))) rfl rfl rfl ⟨rfl, rfl⟩ rfl rfl (fun _ => rfl) (fun h' hp => ?_)
  rw [show h' = _ from hp]
  dsimp only [Option.toList, List.cons_append, List.nil_append]
  refine v_if_neB C (oX9_inverse.at 7 rfl) (tgt := 20) (by decide) (fun _ => ?_) (fun z => absurd z (by decide))
  refine v_aload_n C (oX9_inverse.at 12 rfl) rfl ?_
  refine v_callV C (oX9_inverse.at 13 rfl) cX9_283 q0 (k9_hasInverse0 hR1 hI) rfl rfl rfl ⟨rfl, rfl⟩ rfl rfl (fun _ => rfl) (fun h' hp => ?_)
  dsimp only [Option.toList, List.cons_append, List.nil_append]
  have hR2 : RF G h' 0 S sv Z F := hp
  clear hp
  obtain ⟨h2, e2⟩ : ∃ z, z = h' := ⟨h', rfl⟩
  rw [← e2] at hR2 ⊢
  obtain ⟨u2, r0, -⟩ := hR2.o
  refine v_if_neB C (oX9_inverse.at 14 rfl) (tgt := 35) (by decide) (fun z => absurd z (by decide)) (fun _ => ?_)
  refine v_aload_n C (oX9_inverse.at 15 rfl) rfl ?_
  refine v_iconst C (oX9_inverse.at 16 rfl) (v := nI 2) rfl ?_
  refine v_callV C (oX9_inverse.at 17 rfl) cX9_111 r0 (k9_noR hR2) rfl rfl rfl ⟨rfl, rfl⟩ rfl rfl (fun _ => rfl) (fun h' hp => ?_)
  dsimp only [Option.toList, List.cons_append, List.nil_append]
  refine v_goto C (oX9_inverse.at 18 rfl) (tgt := 50) (by decide) ?_
  exact v_iret C (oX9_inverse.at 26 rfl) rfl rfl ⟨Nat.le_refl _, Nat.le_refl _⟩ ⟨rfl, hp⟩
theorem k9_inverse {w : Wt} {G h : Hp} {th m q : Nat} {S Z : Sc} {sv : Bool} {F : Sf} {x : Nat} (hR : RF G h th S sv Z F) (hx : x < 2) (hI : InR S.1 S.2.1 S.2.2.1 m q) (hm : m ≠ 0) : ConN mX9_inverse 4 (0, 0) w [.ref 62, .int (nI x)] h (.inl (some (.int (nI (if x = 0 then m else q))))) (fun h' => RF G h' 0 S sv Z F) := by
  refine conI (by decide +kernel) ⟨fun _ => rfl, rfl, by simp⟩ (fun X C => ?_)
  change V X (0, 0) w h 0 [some (.ref 62), some (.int (nI x))] []
  refine v_aload_n C (oX9_inverse.at 0 rfl) rfl ?_
  refine v_iconst C (oX9_inverse.at 1 rfl) (v := nI 0) rfl ?_
  refine v_thr C (oX9_inverse.at 2 rfl) fX9_96 hR (fun h1 u1 hR1 q0 qt qm => ?_)
  refine v_iload_n C (oX9_inverse.at 3 rfl) rfl ?_
  refine v_iconst C (oX9_inverse.at 4 rfl) (v := nI 0) rfl ?_
  refine v_iconst C (oX9_inverse.at 5 rfl) (v := nI 1) rfl ?_
  refine v_callS C (oX9_inverse.at 6 rfl) cX9_103 (k_inT 2 (by decide) (by decide) rfl (InB.of hx (by decide))) rfl rfl rfl ⟨rfl, rfl⟩ rfl rfl (fun _ => rfl) (fun h' hp => ?_)
  rw [show h' = _ from hp]
  dsimp only [Option.toList, List.cons_append, List.nil_append]
  refine v_if_neB C (oX9_inverse.at 7 rfl) (tgt := 20) (by decide) (fun _ => ?_) (fun z => absurd z (by decide))
  refine v_aload_n C (oX9_inverse.at 12 rfl) rfl ?_
  refine v_callV C (oX9_inverse.at 13 rfl) cX9_283 q0 (k9_hasInverse1 hR1 hI hm) rfl rfl rfl ⟨rfl, rfl⟩ rfl rfl (fun _ => rfl) (fun h' hp => ?_)
  dsimp only [Option.toList, List.cons_append, List.nil_append]
  obtain ⟨hR2, u2, g, r0, r40, r41, -⟩ := hp
  refine v_if_neB C (oX9_inverse.at 14 rfl) (tgt := 35) (by decide) (fun _ => ?_) (fun z => absurd z (by decide))
  refine v_iload_n C (oX9_inverse.at 19 rfl) rfl ?_
  refine v_if_neN C (oX9_inverse.at 20 rfl) (tgt := 46) (by decide) (by omega) (fun hc => ?_) (fun hc => ?_)
  · rw [if_neg hc] at C
    refine v_aload_n C (oX9_inverse.at 24 rfl) rfl ?_
    refine v_getf C (oX9_inverse.at 25 rfl) fX9_280 r0 (congrArg (fun z => some (Value.int z)) (r41)) ?_
    exact v_iret C (oX9_inverse.at 26 rfl) rfl rfl ⟨Nat.le_refl _, Nat.le_refl _⟩ ⟨rfl, hR2⟩
  · rw [if_pos hc] at C
    refine v_aload_n C (oX9_inverse.at 21 rfl) rfl ?_
    refine v_getf C (oX9_inverse.at 22 rfl) fX9_277 r0 (congrArg (fun z => some (Value.int z)) (r40)) ?_
    refine v_goto C (oX9_inverse.at 23 rfl) (tgt := 50) (by decide) ?_
    exact v_iret C (oX9_inverse.at 26 rfl) rfl rfl ⟨Nat.le_refl _, Nat.le_refl _⟩ ⟨rfl, hR2⟩
theorem k9_inverseOutputN {w : Wt} {G h : Hp} {th q : Nat} {S Z : Sc} {sv : Bool} {F : Sf} {x : Int32} (hR : RF G h th S sv Z F) (hI : InR S.1 S.2.1 S.2.2.1 0 q) : ConN mX9_inverseOutput 4 (0, 0) w [.ref 62, .int x] h (.inl (some (.int (nI 0)))) (fun h' => RF G h' 1 S sv Z F) := by
  refine conI (by decide +kernel) ⟨fun _ => rfl, rfl, by simp⟩ (fun X C => ?_)
  change V X (0, 0) w h 0 [some (.ref 62), some (.int x)] []
  refine v_aload_n C (oX9_inverseOutput.at 0 rfl) rfl ?_
  refine v_iconst C (oX9_inverseOutput.at 1 rfl) (v := nI 0) rfl ?_
  refine v_thr C (oX9_inverseOutput.at 2 rfl) fX9_96 hR (fun h1 u1 hR1 q0 qt qm => ?_)
  refine v_aload_n C (oX9_inverseOutput.at 3 rfl) rfl ?_
  refine v_callV C (oX9_inverseOutput.at 4 rfl) cX9_283 q0 (k9_hasInverse0 hR1 hI) rfl rfl rfl ⟨rfl, rfl⟩ rfl rfl (fun _ => rfl) (fun h' hp => ?_)
  dsimp only [Option.toList, List.cons_append, List.nil_append]
  have hR2 : RF G h' 0 S sv Z F := hp
  clear hp
  obtain ⟨h2, e2⟩ : ∃ z, z = h' := ⟨h', rfl⟩
  rw [← e2] at hR2 ⊢
  obtain ⟨u2, r0, -⟩ := hR2.o
  refine v_if_neB C (oX9_inverseOutput.at 5 rfl) (tgt := 18) (by decide) (fun z => absurd z (by decide)) (fun _ => ?_)
  refine v_aload_n C (oX9_inverseOutput.at 6 rfl) rfl ?_
  refine v_iconst C (oX9_inverseOutput.at 7 rfl) (v := nI 1) rfl ?_
  refine v_callV C (oX9_inverseOutput.at 8 rfl) cX9_111 r0 (k9_noR hR2) rfl rfl rfl ⟨rfl, rfl⟩ rfl rfl (fun _ => rfl) (fun h' hp => ?_)
  dsimp only [Option.toList, List.cons_append, List.nil_append]
  exact v_iret C (oX9_inverseOutput.at 9 rfl) rfl rfl ⟨Nat.le_refl _, Nat.le_refl _⟩ ⟨rfl, hp⟩
theorem k9_inverseOutputX {w : Wt} {G h : Hp} {th m q : Nat} {S Z : Sc} {sv : Bool} {F : Sf} {x : Int32} (hR : RF G h th S sv Z F) (hI : InR S.1 S.2.1 S.2.2.1 m q) (hm : m ≠ 0) (hm5 : m ≤ 5) (hx : ¬ InB x (S.1 ^ m)) : ConN mX9_inverseOutput 4 (0, 0) w [.ref 62, .int x] h (.inl (some (.int (nI 0)))) (fun h' => RF G h' 2 S sv Z F) := by
  have hk := hR.so.1.k
  have hm243 : S.1 ^ m ≤ 243 := hR.so.1.m5 hm5
  have hp0 : 0 < S.1 ^ m := Nat.pow_pos (by omega)
  refine conI (by decide +kernel) ⟨fun _ => rfl, rfl, by simp⟩ (fun X C => ?_)
  change V X (0, 0) w h 0 [some (.ref 62), some (.int x)] []
  refine v_aload_n C (oX9_inverseOutput.at 0 rfl) rfl ?_
  refine v_iconst C (oX9_inverseOutput.at 1 rfl) (v := nI 0) rfl ?_
  refine v_thr C (oX9_inverseOutput.at 2 rfl) fX9_96 hR (fun h1 u1 hR1 q0 qt qm => ?_)
  refine v_aload_n C (oX9_inverseOutput.at 3 rfl) rfl ?_
  refine v_callV C (oX9_inverseOutput.at 4 rfl) cX9_283 q0 (k9_hasInverse1 hR1 hI hm) rfl rfl rfl ⟨rfl, rfl⟩ rfl rfl (fun _ => rfl) (fun h' hp => ?_)
  dsimp only [Option.toList, List.cons_append, List.nil_append]
  obtain ⟨hR2, u2, g, r0, r40, r41, -⟩ := hp
  obtain ⟨h2, e2⟩ : ∃ z, z = h' := ⟨h', rfl⟩
  rw [← e2] at hR2 r0 ⊢
  refine v_if_neB C (oX9_inverseOutput.at 5 rfl) (tgt := 18) (by decide) (fun _ => ?_) (fun z => absurd z (by decide))
  refine v_iload_n C (oX9_inverseOutput.at 10 rfl) rfl ?_
  refine v_iconst C (oX9_inverseOutput.at 11 rfl) (v := nI 0) rfl ?_
  refine v_aload_n C (oX9_inverseOutput.at 12 rfl) rfl ?_
  refine v_aload_n C (oX9_inverseOutput.at 13 rfl) rfl ?_
  refine v_getf C (oX9_inverseOutput.at 14 rfl) fX9_277 r0 (congrArg (fun z => some (Value.int z)) (r40)) ?_
  refine v_callV C (oX9_inverseOutput.at 15 rfl) cX9_99 r0 (k9_powerR hR2 (by omega)) rfl rfl rfl ⟨rfl, rfl⟩ rfl rfl (fun _ => rfl) (fun h' hp => ?_)
  rw [show h' = _ from hp]
  dsimp only [Option.toList, List.cons_append, List.nil_append]
  refine v_iconst C (oX9_inverseOutput.at 16 rfl) (v := nI 1) rfl ?_
  refine v_isubN C (oX9_inverseOutput.at 17 rfl) (by omega) ?_
  refine v_callS C (oX9_inverseOutput.at 18 rfl) cX9_103 (k_inF (S.1 ^ m) hp0 (by omega) rfl hx) rfl rfl rfl ⟨rfl, rfl⟩ rfl rfl (fun _ => rfl) (fun h' hp => ?_)
  rw [show h' = _ from hp]
  dsimp only [Option.toList, List.cons_append, List.nil_append]
  refine v_if_eqB C (oX9_inverseOutput.at 19 rfl) (tgt := 45) (by decide) (fun _ => ?_) (fun z => absurd z (by decide))
  refine v_aload_n C (oX9_inverseOutput.at 25 rfl) rfl ?_
  refine v_iconst C (oX9_inverseOutput.at 26 rfl) (v := nI 2) rfl ?_
  refine v_callV C (oX9_inverseOutput.at 27 rfl) cX9_111 r0 (k9_noR hR2) rfl rfl rfl ⟨rfl, rfl⟩ rfl rfl (fun _ => rfl) (fun h' hp => ?_)
  dsimp only [Option.toList, List.cons_append, List.nil_append]
  exact v_iret C (oX9_inverseOutput.at 28 rfl) rfl rfl ⟨Nat.le_refl _, Nat.le_refl _⟩ ⟨rfl, hp⟩
theorem k9_inverseOutput {w : Wt} {G h : Hp} {th m q x y : Nat} {S Z : Sc} {sv : Bool} {F : Sf} (hR : RF G h th S sv Z F) (hI : InR S.1 S.2.1 S.2.2.1 m q) (hm : m ≠ 0) (hm5 : m ≤ 5) (hy : y < S.1 ^ m) (hx : x < S.1 ^ (m + S.2.1 - 1)) (hxy : gIm S.1 S.2.1 S.2.2.1 m x = y) : ConN mX9_inverseOutput 4 (0, 0) w [.ref 62, .int (nI y)] h (.inl (some (.int (nI (cel S.1 (m + S.2.1 - 1) x q))))) (fun h' => RF G h' 0 S sv Z F) := by
  have hk := hR.so.1.k
  have hm243 : S.1 ^ m ≤ 243 := hR.so.1.m5 hm5
  have hp0 : 0 < S.1 ^ m := Nat.pow_pos (by omega)
  refine conI (by decide +kernel) ⟨fun _ => rfl, rfl, by simp⟩ (fun X C => ?_)
  change V X (0, 0) w h 0 [some (.ref 62), some (.int (nI y))] []
  refine v_aload_n C (oX9_inverseOutput.at 0 rfl) rfl ?_
  refine v_iconst C (oX9_inverseOutput.at 1 rfl) (v := nI 0) rfl ?_
  refine v_thr C (oX9_inverseOutput.at 2 rfl) fX9_96 hR (fun h1 u1 hR1 q0 qt qm => ?_)
  refine v_aload_n C (oX9_inverseOutput.at 3 rfl) rfl ?_
  refine v_callV C (oX9_inverseOutput.at 4 rfl) cX9_283 q0 (k9_hasInverse1 hR1 hI hm) rfl rfl rfl ⟨rfl, rfl⟩ rfl rfl (fun _ => rfl) (fun h' hp => ?_)
  dsimp only [Option.toList, List.cons_append, List.nil_append]
  obtain ⟨hR2, u2, g, r0, r40, r41, r87, hAs⟩ := hp
  obtain ⟨h2, e2⟩ : ∃ z, z = h' := ⟨h', rfl⟩
  rw [← e2] at hR2 r0 r87 ⊢
  have hgy := hAs x hx
  rw [hxy] at hgy
  refine v_if_neB C (oX9_inverseOutput.at 5 rfl) (tgt := 18) (by decide) (fun _ => ?_) (fun z => absurd z (by decide))
  refine v_iload_n C (oX9_inverseOutput.at 10 rfl) rfl ?_
  refine v_iconst C (oX9_inverseOutput.at 11 rfl) (v := nI 0) rfl ?_
  refine v_aload_n C (oX9_inverseOutput.at 12 rfl) rfl ?_
  refine v_aload_n C (oX9_inverseOutput.at 13 rfl) rfl ?_
  refine v_getf C (oX9_inverseOutput.at 14 rfl) fX9_277 r0 (congrArg (fun z => some (Value.int z)) (r40)) ?_
  refine v_callV C (oX9_inverseOutput.at 15 rfl) cX9_99 r0 (k9_powerR hR2 (by omega)) rfl rfl rfl ⟨rfl, rfl⟩ rfl rfl (fun _ => rfl) (fun h' hp => ?_)
  rw [show h' = _ from hp]
  dsimp only [Option.toList, List.cons_append, List.nil_append]
  refine v_iconst C (oX9_inverseOutput.at 16 rfl) (v := nI 1) rfl ?_
  refine v_isubN C (oX9_inverseOutput.at 17 rfl) (by omega) ?_
  refine v_callS C (oX9_inverseOutput.at 18 rfl) cX9_103 (k_inT (S.1 ^ m) hp0 (by omega) rfl (InB.of hy (by omega))) rfl rfl rfl ⟨rfl, rfl⟩ rfl rfl (fun _ => rfl) (fun h' hp => ?_)
  rw [show h' = _ from hp]
  dsimp only [Option.toList, List.cons_append, List.nil_append]
  refine v_if_eqB C (oX9_inverseOutput.at 19 rfl) (tgt := 45) (by decide) (fun z => absurd z (by decide)) (fun _ => ?_)
  refine v_aload_n C (oX9_inverseOutput.at 20 rfl) rfl ?_
  refine v_getf C (oX9_inverseOutput.at 21 rfl) fX9_93 r0 rfl ?_
  refine v_iload_n C (oX9_inverseOutput.at 22 rfl) rfl ?_
  refine v_iald C (oX9_inverseOutput.at 23 rfl) r87 (by decide) rfl (by omega) hgy ?_
  refine v_goto C (oX9_inverseOutput.at 24 rfl) (tgt := 50) (by decide) ?_
  exact v_iret C (oX9_inverseOutput.at 28 rfl) rfl rfl ⟨Nat.le_refl _, Nat.le_refl _⟩ ⟨rfl, hR2⟩
