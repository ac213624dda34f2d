/-! ===== the reference: pairs of nodes ===== -/
def eB (k n : Nat) (T : Nat → Nat) (a c : Nat) : Bool := !(allB (fun s => allB (fun t => !(decide (a / 9 < n ∧ a % 9 < n ∧ T (a / 9 * k + s) = T (a % 9 * k + t) ∧ 9 * ((a / 9 * k + s) % n) + (a % 9 * k + t) % n = c))) k) k)
theorem eB_iff {k n : Nat} {T : Nat → Nat} {a c : Nat} : eB k n T a c = true ↔ ∃ s t, s < k ∧ t < k ∧ a / 9 < n ∧ a % 9 < n ∧ T (a / 9 * k + s) = T (a % 9 * k + t) ∧ 9 * ((a / 9 * k + s) % n) + (a % 9 * k + t) % n = c := by
  unfold eB
  rw [Bool.not_eq_true', ← Bool.not_eq_true, allB_iff]
  constructor
  · intro h
    apply Classical.byContradiction
    intro hn
    refine h (fun s hs => (allB_iff _).mpr (fun t ht => ?_))
    rw [Bool.not_eq_true', decide_eq_false_iff_not]
    exact fun q => hn ⟨s, t, hs, ht, q⟩
  · rintro ⟨s, t, hs, ht, q⟩ h
    have h1 := (allB_iff _).mp (h s hs) t ht
    rw [Bool.not_eq_true', decide_eq_false_iff_not] at h1
    exact h1 q
def wR (E : Nat → Nat → Bool) : Nat → Nat → Nat → Bool
  | 0, a, c => E a c
  | b + 1, a, c => wR E b a c || (wR E b a b && wR E b b c)
theorem wR_row (E : Nat → Nat → Bool) (b c : Nat) : wR E (b + 1) b c = wR E b b c := by
  rw [wR]
  cases wR E b b c <;> cases wR E b b b <;> rfl
def prC (k n : Nat) (T : Nat → Nat) : Nat := sumN (fun p => sumN (fun q => if p ≠ q ∧ wR (eB k n T) 81 (9 * p + q) (9 * p + q) = true then 1 else 0) n) n
theorem bI_or (a b : Bool) : bI a ||| bI b = bI (a || b) := by cases a <;> cases b <;> decide
theorem k9_pairs {w : Wt} {G h : Hp} {th : Nat} {S Z : Sc} {sv : Bool} {F : Sf} (hR : RF G h th S sv Z F) : ConN mX9_pairs 2 (0, 0) w [.ref 62] h (.inl (some (.int (nI (prC S.1 (S.1 ^ (S.2.1 - 1)) S.2.2.1))))) (fun h' => RF G h' th S sv Z F) := by
  obtain ⟨u, o0, o1, o2⟩ := hR.o
  have hk := hR.so.1.k
  have hn9 := hR.so.1.n
  have hn0 := hR.so.1.n0
  obtain ⟨z0, hz0⟩ := hR.2.2.2.2.2.2.2.2.1.2.2
  have c0 : ∀ y, hu h 86 y 62 = MO u := fun y => (hu_n _ _ (by decide)).trans o0
  have cR : ∀ z, RF G (hu h 86 (zo 6561 z)) th S sv Z F := by
    intro z
    obtain ⟨f, hf, hB⟩ := hR.bf
    have hM := hR.2.2.2.2.2.2.2.2.1
    refine hR.set_b ((hu_n _ _ (by decide)).trans o0) o1 o2 ((hu_n _ _ (by decide)).trans hf) hB hR.fo (fun j j1 j2 j3 => hu_n _ _ (by omega)) ⟨fun i hi => ?_, ?_, ⟨z, hu_s _ _ _⟩⟩
    · obtain ⟨g, hg⟩ := hM.1 i hi
      exact ⟨g, (hu_n _ _ (by unfold mIn at hi; omega)).trans hg⟩
    · obtain ⟨g, hg⟩ := hM.2.1
      exact ⟨g, (hu_n _ _ (by decide)).trans hg⟩
  have kn := k9_nodesR (w := w) hR
  have kl := fun z v s hv hs => k9_labelR (w := w) (v := v) (s := s) (cR z) hv hs
  have kg := fun z v s hv hs => k9_goalR (w := w) (v := v) (s := s) (cR z) hv hs
  have hTl : ∀ v s, v < S.1 ^ (S.2.1 - 1) → s < S.1 → S.2.2.1 (v * S.1 + s) < 3 := by
    intro v s hv hs
    obtain ⟨f9, -, hT9⟩ := hR.tk
    have := (hT9 _ (vs_lt hR.so.1 hv hs)).2
    omega
  generalize hnn : S.1 ^ (S.2.1 - 1) = n at *
  unfold prC
  refine conI (by decide +kernel) ⟨fun _ => rfl, rfl, by simp⟩ (fun X C => ?_)
  change V X (0, 0) w h 0 [some (.ref 62), none, none, none, none, none] []
  refine v_aload_n C (oX9_pairs.at 0 rfl) rfl ?_
  refine v_callV C (oX9_pairs.at 1 rfl) cX9_118 o0 (kn) rfl rfl rfl ⟨rfl, rfl⟩ rfl rfl (fun _ => rfl) (fun h' hp => ?_)
  rw [show h' = _ from hp]
  dsimp only [Option.toList, List.cons_append, List.nil_append]
  refine v_istore_n C (oX9_pairs.at 2 rfl) rfl ?_
  refine v_iconst C (oX9_pairs.at 3 rfl) (v := nI 0) rfl ?_
  refine v_istore_n C (oX9_pairs.at 4 rfl) rfl ?_
  dsimp only [sto1, sto2, killL]
  -- the count
  have L3 : ∀ z l4 l5, (∀ a c, a < 81 → c < 81 → z (81 * a + c) = bI (wR (eB S.1 n S.2.2.1) 81 a c)) → V X (0, 0) w (hu h 86 (zo 6561 z)) 228 [some (.ref 62), some (.int (nI n)), some (.int (nI 81)), some (.int (nI 81)), l4, l5] [] := by
    intro z l4 l5 hz
    refine v_iconst C (oX9_pairs.at 127 rfl) (v := nI 0) rfl ?_
    refine v_istore_n C (oX9_pairs.at 128 rfl) rfl ?_
    refine v_iconst C (oX9_pairs.at 129 rfl) (v := nI 0) rfl ?_
    refine v_istore_n C (oX9_pairs.at 130 rfl) rfl ?_
    dsimp only [sto1, sto2, killL]
    suffices H : ∀ d p l4, p + d = n → V X (0, 0) w (hu h 86 (zo 6561 z)) 232 [some (.ref 62), some (.int (nI n)), some (.int (nI (sumN (fun p => sumN (fun q => if p ≠ q ∧ wR (eB S.1 n S.2.2.1) 81 (9 * p + q) (9 * p + q) = true then 1 else 0) n) p))), some (.int (nI p)), l4, l5] [] from H n 0 _ (by omega)
    intro d
    induction d with
    | zero =>
      intro p l4 hp
      obtain rfl : p = n := by omega
      refine v_iload_n C (oX9_pairs.at 131 rfl) rfl ?_
      refine v_iload_n C (oX9_pairs.at 132 rfl) rfl ?_
      refine v_icmp_geN C (oX9_pairs.at 133 rfl) (tgt := 290) (by decide) (by omega) (by omega) (fun hc => ?_) (fun hc => absurd hc (by omega))
      refine v_iload_n C (oX9_pairs.at 163 rfl) rfl ?_
      exact v_iret C (oX9_pairs.at 164 rfl) rfl rfl ⟨Nat.le_refl _, Nat.le_refl _⟩ ⟨rfl, cR _⟩
    | succ d ih =>
      intro p l4 hp
      have ih := fun l4 => ih (p + 1) l4 (by omega)
      rw [sumN] at ih
      refine v_iload_n C (oX9_pairs.at 131 rfl) rfl ?_
      refine v_iload_n C (oX9_pairs.at 132 rfl) rfl ?_
      refine v_icmp_geN C (oX9_pairs.at 133 rfl) (tgt := 290) (by decide) (by omega) (by omega) (fun hc => absurd hc (by omega)) (fun hc => ?_)
      refine v_iconst C (oX9_pairs.at 134 rfl) (v := nI 0) rfl ?_
      refine v_istore C (oX9_pairs.at 135 rfl) rfl ?_
      dsimp only [sto1, sto2, killL]
      suffices H2 : ∀ e q, q + e = n → V X (0, 0) w (hu h 86 (zo 6561 z)) 240 [some (.ref 62), some (.int (nI n)), some (.int (nI (sumN (fun p => sumN (fun q => if p ≠ q ∧ wR (eB S.1 n S.2.2.1) 81 (9 * p + q) (9 * p + q) = true then 1 else 0) n) p + sumN (fun q => if p ≠ q ∧ wR (eB S.1 n S.2.2.1) 81 (9 * p + q) (9 * p + q) = true then 1 else 0) q))), some (.int (nI p)), some (.int (nI q)), l5] [] from H2 n 0 (by omega)
      intro e
      induction e with
      | zero =>
        intro q hq
        obtain rfl : q = n := by omega
        refine v_iload C (oX9_pairs.at 136 rfl) rfl ?_
        refine v_iload_n C (oX9_pairs.at 137 rfl) rfl ?_
        refine v_icmp_geN C (oX9_pairs.at 138 rfl) (tgt := 284) (by decide) (by omega) (by omega) (fun hc => ?_) (fun hc => absurd hc (by omega))
        refine v_iincN C (oX9_pairs.at 161 rfl) rfl ?_
        refine v_goto C (oX9_pairs.at 162 rfl) (tgt := 232) (by decide) ?_
        dsimp only [sto1, sto2, killL]
        exact ih _
      | succ e ihe =>
        intro q hq
        have ihe := ihe (q + 1) (by omega)
        rw [sumN, ← Nat.add_assoc] at ihe
        have hzz := hz (9 * p + q) (9 * p + q) (by omega) (by omega)
        rw [show 81 * (9 * p + q) + (9 * p + q) = 82 * (9 * p + q) by omega] at hzz
        refine v_iload C (oX9_pairs.at 136 rfl) rfl ?_
        refine v_iload_n C (oX9_pairs.at 137 rfl) rfl ?_
        refine v_icmp_geN C (oX9_pairs.at 138 rfl) (tgt := 284) (by decide) (by omega) (by omega) (fun hc => absurd hc (by omega)) (fun hc => ?_)
        refine v_iload_n C (oX9_pairs.at 139 rfl) rfl ?_
        refine v_iload_n C (oX9_pairs.at 140 rfl) rfl ?_
        refine v_iload C (oX9_pairs.at 141 rfl) rfl ?_
        refine v_icmp_eqN C (oX9_pairs.at 142 rfl) (tgt := 275) (by decide) (by omega) (by omega) (fun hc => ?_) (fun hc => ?_)
        · rw [if_neg (fun z => z.1 hc)] at ihe
          refine v_iconst C (oX9_pairs.at 156 rfl) (v := nI 0) rfl ?_
          refine v_iaddN C (oX9_pairs.at 157 rfl) ?_
          refine v_istore_n C (oX9_pairs.at 158 rfl) rfl ?_
          refine v_iincN C (oX9_pairs.at 159 rfl) rfl ?_
          refine v_goto C (oX9_pairs.at 160 rfl) (tgt := 240) (by decide) ?_
          dsimp only [sto1, sto2, killL]
          exact ihe
        · have hpq := hc
          refine v_aload_n C (oX9_pairs.at 143 rfl) rfl ?_
          refine v_getf C (oX9_pairs.at 144 rfl) fX9_90 (c0 _) rfl ?_
          refine v_bipush C (oX9_pairs.at 145 rfl) (v := nI 82) rfl ?_
          refine v_bipush C (oX9_pairs.at 146 rfl) (v := nI 9) rfl ?_
          refine v_iload_n C (oX9_pairs.at 147 rfl) rfl ?_
          refine v_imulN C (oX9_pairs.at 148 rfl) ?_
          refine v_iload C (oX9_pairs.at 149 rfl) rfl ?_
          refine v_iaddN C (oX9_pairs.at 150 rfl) ?_
          refine v_imulN C (oX9_pairs.at 151 rfl) ?_
          refine v_zald C (oX9_pairs.at 152 rfl) (hu_s _ _ _) (by decide) rfl (by omega) hzz ?_
          refine v_if_eqB C (oX9_pairs.at 153 rfl) (tgt := 275) (by decide) (fun hc => ?_) (fun hc => ?_)
          · rw [if_neg (fun z => by rw [hc] at z; exact absurd z.2 (by decide))] at ihe
            refine v_iconst C (oX9_pairs.at 156 rfl) (v := nI 0) rfl ?_
            refine v_iaddN C (oX9_pairs.at 157 rfl) ?_
            refine v_istore_n C (oX9_pairs.at 158 rfl) rfl ?_
            refine v_iincN C (oX9_pairs.at 159 rfl) rfl ?_
            refine v_goto C (oX9_pairs.at 160 rfl) (tgt := 240) (by decide) ?_
            dsimp only [sto1, sto2, killL]
            exact ihe
          · rw [if_pos ⟨hpq, hc⟩] at ihe
            refine v_iconst C (oX9_pairs.at 154 rfl) (v := nI 1) rfl ?_
            refine v_goto C (oX9_pairs.at 155 rfl) (tgt := 276) (by decide) ?_
            refine v_iaddN C (oX9_pairs.at 157 rfl) ?_
            refine v_istore_n C (oX9_pairs.at 158 rfl) rfl ?_
            refine v_iincN C (oX9_pairs.at 159 rfl) rfl ?_
            refine v_goto C (oX9_pairs.at 160 rfl) (tgt := 240) (by decide) ?_
            dsimp only [sto1, sto2, killL]
            exact ihe
  -- the closure
  have L2 : ∀ d b z l3 l4 l5, b + d = 81 → (∀ a c, a < 81 → c < 81 → z (81 * a + c) = bI (wR (eB S.1 n S.2.2.1) b a c)) → (b = 0 ∨ l3 = some (.int (nI 81))) → V X (0, 0) w (hu h 86 (zo 6561 z)) 142 [some (.ref 62), some (.int (nI n)), some (.int (nI b)), l3, l4, l5] [] := by
    intro d
    induction d with
    | zero =>
      intro b z l3 l4 l5 hb hz hl
      obtain rfl : b = 81 := by omega
      rcases hl with q | q
      · omega
      · subst q
        refine v_iload_n C (oX9_pairs.at 79 rfl) rfl ?_
        refine v_bipush C (oX9_pairs.at 80 rfl) (v := nI 81) rfl ?_
        refine v_icmp_geN C (oX9_pairs.at 81 rfl) (tgt := 228) (by decide) (by omega) (by omega) (fun hc => ?_) (fun hc => absurd hc (by omega))
        exact L3 z _ _ hz
    | succ d ih =>
      intro b z l3 l4 l5 hb hz hl
      refine v_iload_n C (oX9_pairs.at 79 rfl) rfl ?_
      refine v_bipush C (oX9_pairs.at 80 rfl) (v := nI 81) rfl ?_
      refine v_icmp_geN C (oX9_pairs.at 81 rfl) (tgt := 228) (by decide) (by omega) (by omega) (fun hc => absurd hc (by omega)) (fun hc => ?_)
      refine v_iconst C (oX9_pairs.at 82 rfl) (v := nI 0) rfl ?_
      refine v_istore_n C (oX9_pairs.at 83 rfl) rfl ?_
      dsimp only [sto1, sto2, killL]
      suffices H : ∀ e a z l4, a + e = 81 → (∀ a' c, a' < 81 → c < 81 → z (81 * a' + c) = bI (if a' < a then wR (eB S.1 n S.2.2.1) (b + 1) a' c else wR (eB S.1 n S.2.2.1) b a' c)) → V X (0, 0) w (hu h 86 (zo 6561 z)) 150 [some (.ref 62), some (.int (nI n)), some (.int (nI b)), some (.int (nI a)), l4, l5] [] from H 81 0 z _ (by omega) (fun a' c h1 h2 => by rw [if_neg (by omega)]; exact hz a' c h1 h2)
      clear hz z
      intro e
      induction e with
      | zero =>
        intro a z l4 ha hz
        obtain rfl : a = 81 := by omega
        refine v_iload_n C (oX9_pairs.at 84 rfl) rfl ?_
        refine v_bipush C (oX9_pairs.at 85 rfl) (v := nI 81) rfl ?_
        refine v_icmp_geN C (oX9_pairs.at 86 rfl) (tgt := 222) (by decide) (by omega) (by omega) (fun hc => ?_) (fun hc => absurd hc (by omega))
        refine v_iincN C (oX9_pairs.at 125 rfl) rfl ?_
        refine v_goto C (oX9_pairs.at 126 rfl) (tgt := 142) (by decide) ?_
        dsimp only [sto1, sto2, killL]
        exact ih (b + 1) z _ _ _ (by omega) (fun a' c h1 h2 => by rw [hz a' c h1 h2, if_pos h1]) (Or.inr rfl)
      | succ e ihe =>
        intro a z l4 ha hz
        have hzb : z (81 * a + b) = bI (wR (eB S.1 n S.2.2.1) b a b) := by rw [hz a b (by omega) (by omega), if_neg (by omega)]
        have hrow : ∀ c, c < 81 → z (81 * b + c) = bI (wR (eB S.1 n S.2.2.1) b b c) := by
          intro c hc
          rw [hz b c (by omega) hc]
          by_cases q : b < a
          · rw [if_pos q, wR_row]
          · rw [if_neg q]
        refine v_iload_n C (oX9_pairs.at 84 rfl) rfl ?_
        refine v_bipush C (oX9_pairs.at 85 rfl) (v := nI 81) rfl ?_
        refine v_icmp_geN C (oX9_pairs.at 86 rfl) (tgt := 222) (by decide) (by omega) (by omega) (fun hc => absurd hc (by omega)) (fun hc => ?_)
        refine v_aload_n C (oX9_pairs.at 87 rfl) rfl ?_
        refine v_getf C (oX9_pairs.at 88 rfl) fX9_90 (c0 _) rfl ?_
        refine v_bipush C (oX9_pairs.at 89 rfl) (v := nI 81) rfl ?_
        refine v_iload_n C (oX9_pairs.at 90 rfl) rfl ?_
        refine v_imulN C (oX9_pairs.at 91 rfl) ?_
        refine v_iload_n C (oX9_pairs.at 92 rfl) rfl ?_
        refine v_iaddN C (oX9_pairs.at 93 rfl) ?_
        refine v_zald C (oX9_pairs.at 94 rfl) (hu_s _ _ _) (by decide) rfl (by omega) hzb ?_
        refine v_if_neB C (oX9_pairs.at 95 rfl) (tgt := 173) (by decide) (fun hc => ?_) (fun hc => ?_)
        · refine v_iconst C (oX9_pairs.at 97 rfl) (v := nI 0) rfl ?_
          refine v_istore C (oX9_pairs.at 98 rfl) rfl ?_
          dsimp only [sto1, sto2, killL]
          have hab := hc
          suffices H4 : ∀ q c z, c + q = 81 → (∀ a' c', a' < 81 → c' < 81 → z (81 * a' + c') = bI (if a' < a ∨ (a' = a ∧ c' < c) then wR (eB S.1 n S.2.2.1) (b + 1) a' c' else wR (eB S.1 n S.2.2.1) b a' c')) → V X (0, 0) w (hu h 86 (zo 6561 z)) 176 [some (.ref 62), some (.int (nI n)), some (.int (nI b)), some (.int (nI a)), some (.int (nI c)), l5] [] from H4 81 0 z (by omega) (fun a' c' h1 h2 => by
            rw [hz a' c' h1 h2]
            by_cases q : a' < a
            · rw [if_pos q, if_pos (Or.inl q)]
            · rw [if_neg q, if_neg (by omega)])
          clear hz hzb hrow z hc
          intro q
          induction q with
          | zero =>
            intro c z hc0 hz
            obtain rfl : c = 81 := by omega
            refine v_iload C (oX9_pairs.at 99 rfl) rfl ?_
            refine v_bipush C (oX9_pairs.at 100 rfl) (v := nI 81) rfl ?_
            refine v_icmp_geN C (oX9_pairs.at 101 rfl) (tgt := 216) (by decide) (by omega) (by omega) (fun hc => ?_) (fun hc => absurd hc (by omega))
            refine v_iincN C (oX9_pairs.at 123 rfl) rfl ?_
            refine v_goto C (oX9_pairs.at 124 rfl) (tgt := 150) (by decide) ?_
            dsimp only [sto1, sto2, killL]
            refine ihe (a + 1) z _ (by omega) (fun a' c' h1 h2 => ?_)
            rw [hz a' c' h1 h2]
            by_cases q : a' < a + 1
            · rw [if_pos q, if_pos (by omega)]
            · rw [if_neg q, if_neg (by omega)]
          | succ q ihq =>
            intro c z hc0 hz
            have z1 : z (81 * a + c) = bI (wR (eB S.1 n S.2.2.1) b a c) := by rw [hz a c (by omega) (by omega), if_neg (by omega)]
            have z2 : z (81 * b + c) = bI (wR (eB S.1 n S.2.2.1) b b c) := by
              rw [hz b c (by omega) (by omega)]
              by_cases q : b < a
              · rw [if_pos (Or.inl q), wR_row]
              · rw [if_neg (by omega)]
            refine v_iload C (oX9_pairs.at 99 rfl) rfl ?_
            refine v_bipush C (oX9_pairs.at 100 rfl) (v := nI 81) rfl ?_
            refine v_icmp_geN C (oX9_pairs.at 101 rfl) (tgt := 216) (by decide) (by omega) (by omega) (fun hc => absurd hc (by omega)) (fun hc => ?_)
            refine v_aload_n C (oX9_pairs.at 102 rfl) rfl ?_
            refine v_getf C (oX9_pairs.at 103 rfl) fX9_90 (c0 _) rfl ?_
            refine v_bipush C (oX9_pairs.at 104 rfl) (v := nI 81) rfl ?_
            refine v_iload_n C (oX9_pairs.at 105 rfl) rfl ?_
            refine v_imulN C (oX9_pairs.at 106 rfl) ?_
            refine v_iload C (oX9_pairs.at 107 rfl) rfl ?_
            refine v_iaddN C (oX9_pairs.at 108 rfl) ?_
            refine v_dup2 C (oX9_pairs.at 109 rfl) rfl rfl ?_
            refine v_zald C (oX9_pairs.at 110 rfl) (hu_s _ _ _) (by decide) rfl (by omega) z1 ?_
            refine v_aload_n C (oX9_pairs.at 111 rfl) rfl ?_
            refine v_getf C (oX9_pairs.at 112 rfl) fX9_90 (c0 _) rfl ?_
            refine v_bipush C (oX9_pairs.at 113 rfl) (v := nI 81) rfl ?_
            refine v_iload_n C (oX9_pairs.at 114 rfl) rfl ?_
            refine v_imulN C (oX9_pairs.at 115 rfl) ?_
            refine v_iload C (oX9_pairs.at 116 rfl) rfl ?_
            refine v_iaddN C (oX9_pairs.at 117 rfl) ?_
            refine v_zald C (oX9_pairs.at 118 rfl) (hu_s _ _ _) (by decide) rfl (by omega) z2 ?_
            refine v_ior C (oX9_pairs.at 119 rfl) ?_
            rw [bI_or]
            refine v_zast C (oX9_pairs.at 120 rfl) (hu_s _ _ _) (by decide) rfl (by omega) ?_
            rw [hu_hu]
            refine v_iincN C (oX9_pairs.at 121 rfl) rfl ?_
            refine v_goto C (oX9_pairs.at 122 rfl) (tgt := 176) (by decide) ?_
            dsimp only [sto1, sto2, killL]
            refine ihq (c + 1) _ (by omega) (fun a' c' h1 h2 => ?_)
            by_cases q : a' = a ∧ c' = c
            · rw [q.1, q.2, pk_us, if_pos (by omega), wR, hab, Bool.true_and]
            · rw [pk_un (by omega), hz a' c' h1 h2]
              by_cases q2 : a' < a ∨ (a' = a ∧ c' < c)
              · rw [if_pos q2, if_pos (by omega)]
              · rw [if_neg q2, if_neg (by omega)]
        · refine v_goto C (oX9_pairs.at 96 rfl) (tgt := 216) (by decide) ?_
          refine v_iincN C (oX9_pairs.at 123 rfl) rfl ?_
          refine v_goto C (oX9_pairs.at 124 rfl) (tgt := 150) (by decide) ?_
          dsimp only [sto1, sto2, killL]
          refine ihe (a + 1) z _ (by omega) (fun a' c' h1 h2 => ?_)
          rw [hz a' c' h1 h2]
          by_cases q : a' < a
          · rw [if_pos q, if_pos (by omega)]
          · rw [if_neg q]
            by_cases q2 : a' < a + 1
            · obtain rfl : a' = a := by omega
              rw [if_pos q2, wR, hc, Bool.false_and, Bool.or_false]
            · rw [if_neg q2]
  -- the edges
  have L1 : ∀ (f : Nat → Bool) d p z l3 l4 l5, p + d = n → (∀ x, x < 6561 → z x = bI (f x)) → (∀ x, x < 6561 → f x = true → eB S.1 n S.2.2.1 (x / 81) (x % 81) = true) → (∀ p' q' s' t', p' < n → q' < n → s' < S.1 → t' < S.1 → S.2.2.1 (p' * S.1 + s') = S.2.2.1 (q' * S.1 + t') → p' < p → f (81 * (9 * p' + q') + 9 * ((p' * S.1 + s') % n) + (q' * S.1 + t') % n) = true) → V X (0, 0) w (hu h 86 (zo 6561 z)) 29 [some (.ref 62), some (.int (nI n)), some (.int (nI p)), l3, l4, l5] [] := by
    intro f d
    revert f
    induction d with
    | zero =>
      intro f p z l3 l4 l5 hp hz hs hcm
      obtain rfl : p = n := by omega
      refine v_iload_n C (oX9_pairs.at 17 rfl) rfl ?_
      refine v_iload_n C (oX9_pairs.at 18 rfl) rfl ?_
      refine v_icmp_geN C (oX9_pairs.at 19 rfl) (tgt := 140) (by decide) (by omega) (by omega) (fun hc => ?_) (fun hc => absurd hc (by omega))
      refine v_iconst C (oX9_pairs.at 77 rfl) (v := nI 0) rfl ?_
      refine v_istore_n C (oX9_pairs.at 78 rfl) rfl ?_
      dsimp only [sto1, sto2, killL]
      refine L2 81 0 z _ _ _ (by omega) (fun a c ha hc => ?_) (Or.inl rfl)
      rw [hz _ (by omega), wR]
      congr 1
      have e1 : (81 * a + c) / 81 = a := by omega
      have e2 : (81 * a + c) % 81 = c := by omega
      cases hf : f (81 * a + c) with
      | true =>
        have := hs (81 * a + c) (by omega) hf
        rw [e1, e2] at this
        exact this.symm
      | false =>
        cases he : eB S.1 p S.2.2.1 a c with
        | false => rfl
        | true =>
          obtain ⟨s, t, hs1, ht1, h1, h2, h3, h4⟩ := eB_iff.mp he
          have := hcm (a / 9) (a % 9) s t h1 h2 hs1 ht1 h3 h1
          have hab : 9 * (a / 9) + a % 9 = a := by omega
          rw [hab, Nat.add_assoc, h4, hf] at this
          exact this
    | succ d ih =>
      intro f p z l3 l4 l5 hp hz hs hcm
      refine v_iload_n C (oX9_pairs.at 17 rfl) rfl ?_
      refine v_iload_n C (oX9_pairs.at 18 rfl) rfl ?_
      refine v_icmp_geN C (oX9_pairs.at 19 rfl) (tgt := 140) (by decide) (by omega) (by omega) (fun hc => absurd hc (by omega)) (fun hc => ?_)
      refine v_iconst C (oX9_pairs.at 20 rfl) (v := nI 0) rfl ?_
      refine v_istore_n C (oX9_pairs.at 21 rfl) rfl ?_
      dsimp only [sto1, sto2, killL]
      suffices H : ∀ (f : Nat → Bool) e q z l4 l5, q + e = n → (∀ x, x < 6561 → z x = bI (f x)) → (∀ x, x < 6561 → f x = true → eB S.1 n S.2.2.1 (x / 81) (x % 81) = true) → (∀ p' q' s' t', p' < n → q' < n → s' < S.1 → t' < S.1 → S.2.2.1 (p' * S.1 + s') = S.2.2.1 (q' * S.1 + t') → (p' < p ∨ (p' = p ∧ q' < q)) → f (81 * (9 * p' + q') + 9 * ((p' * S.1 + s') % n) + (q' * S.1 + t') % n) = true) → V X (0, 0) w (hu h 86 (zo 6561 z)) 36 [some (.ref 62), some (.int (nI n)), some (.int (nI p)), some (.int (nI q)), l4, l5] [] from H f n 0 z _ _ (by omega) hz hs (fun p' q' s' t' a1 a2 a3 a4 a5 a6 => hcm p' q' s' t' a1 a2 a3 a4 a5 (by omega))
      clear hz hs hcm z f
      intro f e
      revert f
      induction e with
      | zero =>
        intro f q z l4 l5 hq hz hs hcm
        obtain rfl : q = n := by omega
        refine v_iload_n C (oX9_pairs.at 22 rfl) rfl ?_
        refine v_iload_n C (oX9_pairs.at 23 rfl) rfl ?_
        refine v_icmp_geN C (oX9_pairs.at 24 rfl) (tgt := 134) (by decide) (by omega) (by omega) (fun hc => ?_) (fun hc => absurd hc (by omega))
        refine v_iincN C (oX9_pairs.at 75 rfl) rfl ?_
        refine v_goto C (oX9_pairs.at 76 rfl) (tgt := 29) (by decide) ?_
        dsimp only [sto1, sto2, killL]
        exact ih f (p + 1) z _ _ _ (by omega) hz hs (fun p' q' s' t' a1 a2 a3 a4 a5 a6 => hcm p' q' s' t' a1 a2 a3 a4 a5 (by omega))
      | succ e ihe =>
        intro f q z l4 l5 hq hz hs hcm
        refine v_iload_n C (oX9_pairs.at 22 rfl) rfl ?_
        refine v_iload_n C (oX9_pairs.at 23 rfl) rfl ?_
        refine v_icmp_geN C (oX9_pairs.at 24 rfl) (tgt := 134) (by decide) (by omega) (by omega) (fun hc => absurd hc (by omega)) (fun hc => ?_)
        refine v_iconst C (oX9_pairs.at 25 rfl) (v := nI 0) rfl ?_
        refine v_istore C (oX9_pairs.at 26 rfl) rfl ?_
        dsimp only [sto1, sto2, killL]
        suffices H : ∀ (f : Nat → Bool) e2 s z l5, s + e2 = S.1 → (∀ x, x < 6561 → z x = bI (f x)) → (∀ x, x < 6561 → f x = true → eB S.1 n S.2.2.1 (x / 81) (x % 81) = true) → (∀ p' q' s' t', p' < n → q' < n → s' < S.1 → t' < S.1 → S.2.2.1 (p' * S.1 + s') = S.2.2.1 (q' * S.1 + t') → (p' < p ∨ (p' = p ∧ (q' < q ∨ (q' = q ∧ s' < s)))) → f (81 * (9 * p' + q') + 9 * ((p' * S.1 + s') % n) + (q' * S.1 + t') % n) = true) → V X (0, 0) w (hu h 86 (zo 6561 z)) 44 [some (.ref 62), some (.int (nI n)), some (.int (nI p)), some (.int (nI q)), some (.int (nI s)), l5] [] from H f S.1 0 z _ (by omega) hz hs (fun p' q' s' t' a1 a2 a3 a4 a5 a6 => hcm p' q' s' t' a1 a2 a3 a4 a5 (by omega))
        clear hz hs hcm z f
        intro f e2
        revert f
        induction e2 with
        | zero =>
          intro f s z l5 hs0 hz hs hcm
          obtain rfl : s = S.1 := by omega
          refine v_iload C (oX9_pairs.at 27 rfl) rfl ?_
          refine v_aload_n C (oX9_pairs.at 28 rfl) rfl ?_
          refine v_getf C (oX9_pairs.at 29 rfl) fX9_7 (c0 _) (congrArg (fun z => some (Value.int z)) (o2.1)) ?_
          refine v_icmp_geN C (oX9_pairs.at 30 rfl) (tgt := 128) (by decide) (by omega) (by omega) (fun hc => ?_) (fun hc => absurd hc (by omega))
          refine v_iincN C (oX9_pairs.at 73 rfl) rfl ?_
          refine v_goto C (oX9_pairs.at 74 rfl) (tgt := 36) (by decide) ?_
          dsimp only [sto1, sto2, killL]
          exact ihe f (q + 1) z _ _ (by omega) hz hs (fun p' q' s' t' a1 a2 a3 a4 a5 a6 => hcm p' q' s' t' a1 a2 a3 a4 a5 (by omega))
        | succ e2 ih2 =>
          intro f s z l5 hs0 hz hs hcm
          refine v_iload C (oX9_pairs.at 27 rfl) rfl ?_
          refine v_aload_n C (oX9_pairs.at 28 rfl) rfl ?_
          refine v_getf C (oX9_pairs.at 29 rfl) fX9_7 (c0 _) (congrArg (fun z => some (Value.int z)) (o2.1)) ?_
          refine v_icmp_geN C (oX9_pairs.at 30 rfl) (tgt := 128) (by decide) (by omega) (by omega) (fun hc => absurd hc (by omega)) (fun hc => ?_)
          refine v_iconst C (oX9_pairs.at 31 rfl) (v := nI 0) rfl ?_
          refine v_istore C (oX9_pairs.at 32 rfl) rfl ?_
          dsimp only [sto1, sto2, killL]
          suffices H : ∀ (f : Nat → Bool) e3 t z, t + e3 = S.1 → (∀ x, x < 6561 → z x = bI (f x)) → (∀ x, x < 6561 → f x = true → eB S.1 n S.2.2.1 (x / 81) (x % 81) = true) → (∀ p' q' s' t', p' < n → q' < n → s' < S.1 → t' < S.1 → S.2.2.1 (p' * S.1 + s') = S.2.2.1 (q' * S.1 + t') → (p' < p ∨ (p' = p ∧ (q' < q ∨ (q' = q ∧ (s' < s ∨ (s' = s ∧ t' < t)))))) → f (81 * (9 * p' + q') + 9 * ((p' * S.1 + s') % n) + (q' * S.1 + t') % n) = true) → V X (0, 0) w (hu h 86 (zo 6561 z)) 56 [some (.ref 62), some (.int (nI n)), some (.int (nI p)), some (.int (nI q)), some (.int (nI s)), some (.int (nI t))] [] from H f S.1 0 z (by omega) hz hs (fun p' q' s' t' a1 a2 a3 a4 a5 a6 => hcm p' q' s' t' a1 a2 a3 a4 a5 (by omega))
          clear hz hs hcm z f
          intro f e3
          revert f
          induction e3 with
          | zero =>
            intro f t z ht0 hz hs hcm
            obtain rfl : t = S.1 := by omega
            refine v_iload C (oX9_pairs.at 33 rfl) rfl ?_
            refine v_aload_n C (oX9_pairs.at 34 rfl) rfl ?_
            refine v_getf C (oX9_pairs.at 35 rfl) fX9_7 (c0 _) (congrArg (fun z => some (Value.int z)) (o2.1)) ?_
            refine v_icmp_geN C (oX9_pairs.at 36 rfl) (tgt := 122) (by decide) (by omega) (by omega) (fun hc => ?_) (fun hc => absurd hc (by omega))
            refine v_iincN C (oX9_pairs.at 71 rfl) rfl ?_
            refine v_goto C (oX9_pairs.at 72 rfl) (tgt := 44) (by decide) ?_
            dsimp only [sto1, sto2, killL]
            exact ih2 f (s + 1) z _ (by omega) hz hs (fun p' q' s' t' a1 a2 a3 a4 a5 a6 => hcm p' q' s' t' a1 a2 a3 a4 a5 (by omega))
          | succ e3 ih3 =>
            intro f t z ht0 hz hs hcm
            have g1 : (p * S.1 + s) % n < n := Nat.mod_lt _ hn0
            have g2 : (q * S.1 + t) % n < n := Nat.mod_lt _ hn0
            have t1 := hTl p s (by omega) (by omega)
            have t2 := hTl q t (by omega) (by omega)
            refine v_iload C (oX9_pairs.at 33 rfl) rfl ?_
            refine v_aload_n C (oX9_pairs.at 34 rfl) rfl ?_
            refine v_getf C (oX9_pairs.at 35 rfl) fX9_7 (c0 _) (congrArg (fun z => some (Value.int z)) (o2.1)) ?_
            refine v_icmp_geN C (oX9_pairs.at 36 rfl) (tgt := 122) (by decide) (by omega) (by omega) (fun hc => absurd hc (by omega)) (fun hc => ?_)
            refine v_aload_n C (oX9_pairs.at 37 rfl) rfl ?_
            refine v_iload_n C (oX9_pairs.at 38 rfl) rfl ?_
            refine v_iload C (oX9_pairs.at 39 rfl) rfl ?_
            refine v_callV C (oX9_pairs.at 40 rfl) cX9_222 (c0 _) (kl z p s (by omega) (by omega)) rfl rfl rfl ⟨rfl, rfl⟩ rfl rfl (fun _ => rfl) (fun h' hp => ?_)
            rw [show h' = _ from hp]
            dsimp only [Option.toList, List.cons_append, List.nil_append]
            refine v_aload_n C (oX9_pairs.at 41 rfl) rfl ?_
            refine v_iload_n C (oX9_pairs.at 42 rfl) rfl ?_
            refine v_iload C (oX9_pairs.at 43 rfl) rfl ?_
            refine v_callV C (oX9_pairs.at 44 rfl) cX9_222 (c0 _) (kl z q t (by omega) (by omega)) rfl rfl rfl ⟨rfl, rfl⟩ rfl rfl (fun _ => rfl) (fun h' hp => ?_)
            rw [show h' = _ from hp]
            dsimp only [Option.toList, List.cons_append, List.nil_append]
            refine v_icmp_neN C (oX9_pairs.at 45 rfl) (tgt := 116) (by decide) (by omega) (by omega) (fun hc => ?_) (fun hc => ?_)
            · refine v_iincN C (oX9_pairs.at 69 rfl) rfl ?_
              refine v_goto C (oX9_pairs.at 70 rfl) (tgt := 56) (by decide) ?_
              dsimp only [sto1, sto2, killL]
              refine ih3 f (t + 1) z (by omega) hz hs (fun p' q' s' t' a1 a2 a3 a4 a5 a6 => ?_)
              by_cases q9 : p' = p ∧ q' = q ∧ s' = s ∧ t' = t
              · obtain ⟨rfl, rfl, rfl, rfl⟩ := q9
                exact absurd a5 hc
              · exact hcm p' q' s' t' a1 a2 a3 a4 a5 (by omega)
            · have hTT := hc
              refine v_aload_n C (oX9_pairs.at 46 rfl) rfl ?_
              refine v_getf C (oX9_pairs.at 47 rfl) fX9_90 (c0 _) rfl ?_
              refine v_bipush C (oX9_pairs.at 48 rfl) (v := nI 81) rfl ?_
              refine v_bipush C (oX9_pairs.at 49 rfl) (v := nI 9) rfl ?_
              refine v_iload_n C (oX9_pairs.at 50 rfl) rfl ?_
              refine v_imulN C (oX9_pairs.at 51 rfl) ?_
              refine v_iload_n C (oX9_pairs.at 52 rfl) rfl ?_
              refine v_iaddN C (oX9_pairs.at 53 rfl) ?_
              refine v_imulN C (oX9_pairs.at 54 rfl) ?_
              refine v_bipush C (oX9_pairs.at 55 rfl) (v := nI 9) rfl ?_
              refine v_aload_n C (oX9_pairs.at 56 rfl) rfl ?_
              refine v_iload_n C (oX9_pairs.at 57 rfl) rfl ?_
              refine v_iload C (oX9_pairs.at 58 rfl) rfl ?_
              refine v_callV C (oX9_pairs.at 59 rfl) cX9_225 (c0 _) (kg z p s (by omega) (by omega)) rfl rfl rfl ⟨rfl, rfl⟩ rfl rfl (fun _ => rfl) (fun h' hp => ?_)
              rw [show h' = _ from hp]
              dsimp only [Option.toList, List.cons_append, List.nil_append]
              refine v_imulN C (oX9_pairs.at 60 rfl) ?_
              refine v_iaddN C (oX9_pairs.at 61 rfl) ?_
              refine v_aload_n C (oX9_pairs.at 62 rfl) rfl ?_
              refine v_iload_n C (oX9_pairs.at 63 rfl) rfl ?_
              refine v_iload C (oX9_pairs.at 64 rfl) rfl ?_
              refine v_callV C (oX9_pairs.at 65 rfl) cX9_225 (c0 _) (kg z q t (by omega) (by omega)) rfl rfl rfl ⟨rfl, rfl⟩ rfl rfl (fun _ => rfl) (fun h' hp => ?_)
              rw [show h' = _ from hp]
              dsimp only [Option.toList, List.cons_append, List.nil_append]
              refine v_iaddN C (oX9_pairs.at 66 rfl) ?_
              refine v_iconst C (oX9_pairs.at 67 rfl) (v := bI true) rfl ?_
              refine v_zast C (oX9_pairs.at 68 rfl) (hu_s _ _ _) (by decide) rfl (by omega) ?_
              rw [hu_hu]
              refine v_iincN C (oX9_pairs.at 69 rfl) rfl ?_
              refine v_goto C (oX9_pairs.at 70 rfl) (tgt := 56) (by decide) ?_
              dsimp only [sto1, sto2, killL]
              refine ih3 (fun x => if x = 81 * (9 * p + q) + 9 * ((p * S.1 + s) % n) + (q * S.1 + t) % n then true else f x) (t + 1) _ (by omega) (fun x hx => ?_) (fun x hx hfx => ?_) (fun p' q' s' t' a1 a2 a3 a4 a5 a6 => ?_)
              · by_cases e9 : x = 81 * (9 * p + q) + 9 * ((p * S.1 + s) % n) + (q * S.1 + t) % n
                · rw [e9, pk_us, if_pos rfl]
                · rw [pk_un e9, if_neg e9]; exact hz x hx
              · by_cases e9 : x = 81 * (9 * p + q) + 9 * ((p * S.1 + s) % n) + (q * S.1 + t) % n
                · have d1 : x / 81 = 9 * p + q := by omega
                  have d2 : x % 81 = 9 * ((p * S.1 + s) % n) + (q * S.1 + t) % n := by omega
                  have d3 : (9 * p + q) / 9 = p := by omega
                  have d4 : (9 * p + q) % 9 = q := by omega
                  rw [d1, d2]
                  refine eB_iff.mpr ⟨s, t, by omega, by omega, ?_⟩
                  rw [d3, d4]
                  exact ⟨by omega, by omega, hTT, rfl⟩
                · have hfx : (if x = 81 * (9 * p + q) + 9 * ((p * S.1 + s) % n) + (q * S.1 + t) % n then true else f x) = true := hfx
                  rw [if_neg e9] at hfx
                  exact hs x hx hfx
              · show (if _ then true else _) = true
                split
                · rfl
                · rename_i e9
                  refine hcm p' q' s' t' a1 a2 a3 a4 a5 ?_
                  by_cases q9 : p' = p ∧ q' = q ∧ s' = s ∧ t' = t
                  · obtain ⟨rfl, rfl, rfl, rfl⟩ := q9
                    exact absurd rfl e9
                  · omega
  suffices H : ∀ d i z, i + d = 6561 → (∀ x, x < i → z x = bI false) → V X (0, 0) w (hu h 86 (zo 6561 z)) 7 [some (.ref 62), some (.int (nI n)), some (.int (nI i)), none, none, none] [] by
    have := H 6561 0 z0 (by omega) (fun x hx => absurd hx (by omega))
    rw [hu_id h hz0] at this
    exact this
  intro d
  induction d with
  | zero =>
    intro i z hi hz
    obtain rfl : i = 6561 := by omega
    refine v_iload_n C (oX9_pairs.at 5 rfl) rfl ?_
    refine v_sipush C (oX9_pairs.at 6 rfl) (v := nI 6561) rfl ?_
    refine v_icmp_geN C (oX9_pairs.at 7 rfl) (tgt := 27) (by decide) (by omega) (by omega) (fun hc => ?_) (fun hc => absurd hc (by omega))
    refine v_iconst C (oX9_pairs.at 15 rfl) (v := nI 0) rfl ?_
    refine v_istore_n C (oX9_pairs.at 16 rfl) rfl ?_
    dsimp only [sto1, sto2, killL]
    exact L1 (fun _ => false) n 0 z _ _ _ (by omega) hz (fun x _ hx => absurd hx (by decide)) (fun p' q' s' t' a1 a2 a3 a4 a5 a6 => absurd a6 (by omega))
  | succ d ih =>
    intro i z hi hz
    refine v_iload_n C (oX9_pairs.at 5 rfl) rfl ?_
    refine v_sipush C (oX9_pairs.at 6 rfl) (v := nI 6561) rfl ?_
    refine v_icmp_geN C (oX9_pairs.at 7 rfl) (tgt := 27) (by decide) (by omega) (by omega) (fun hc => absurd hc (by omega)) (fun hc => ?_)
    refine v_aload_n C (oX9_pairs.at 8 rfl) rfl ?_
    refine v_getf C (oX9_pairs.at 9 rfl) fX9_90 (c0 _) rfl ?_
    refine v_iload_n C (oX9_pairs.at 10 rfl) rfl ?_
    refine v_iconst C (oX9_pairs.at 11 rfl) (v := bI false) rfl ?_
    refine v_zast C (oX9_pairs.at 12 rfl) (hu_s _ _ _) (by decide) rfl (by omega) ?_
    rw [hu_hu]
    refine v_iincN C (oX9_pairs.at 13 rfl) rfl ?_
    refine v_goto C (oX9_pairs.at 14 rfl) (tgt := 7) (by decide) ?_
    dsimp only [sto1, sto2, killL]
    refine ih (i + 1) _ (by omega) (fun x hx => ?_)
    by_cases e : x = i
    · rw [e, pk_us]
    · rw [pk_un e]; exact hz x (by omega)
theorem k9_cyclicPairs {w : Wt} {G h : Hp} {th : Nat} {S Z : Sc} {sv : Bool} {F : Sf} (hR : RF G h th S sv Z F) : ConN mX9_cyclicPairs 3 (0, 0) w [.ref 62] h (.inl (some (.int (nI (prC S.1 (S.1 ^ (S.2.1 - 1)) S.2.2.1))))) (fun h' => RF G h' 0 S sv Z F) := by
  refine conI (by decide +kernel) ⟨fun _ => rfl, rfl, by simp⟩ (fun X C => ?_)
  change V X (0, 0) w h 0 [some (.ref 62)] []
  refine v_aload_n C (oX9_cyclicPairs.at 0 rfl) rfl ?_
  refine v_iconst C (oX9_cyclicPairs.at 1 rfl) (v := nI 0) rfl ?_
  refine v_thr C (oX9_cyclicPairs.at 2 rfl) fX9_96 hR (fun h1 u1 hR1 q0 qt qm => ?_)
  refine v_aload_n C (oX9_cyclicPairs.at 3 rfl) rfl ?_
  refine v_callV C (oX9_cyclicPairs.at 4 rfl) cX9_262 q0 (k9_pairs hR1) rfl rfl rfl ⟨rfl, rfl⟩ rfl rfl (fun _ => rfl) (fun h' hp => ?_)
  dsimp only [Option.toList, List.cons_append, List.nil_append]
  exact v_iret C (oX9_cyclicPairs.at 5 rfl) rfl rfl ⟨Nat.le_refl _, Nat.le_refl _⟩ ⟨rfl, hp⟩
