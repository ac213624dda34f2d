/-! ===== the reference: preimages counted, the preimage with a number ===== -/
/-- ways are known for the last row B -/
def WG (S : Sc) (x : Nat) (B : Nat → Nat) (g : Nat → Int32) : Prop := ∀ i v, i ≤ S.2.2.2.1 x → v < S.1 ^ (S.2.1 - 1) → g (9 * i + v) = nI (wB S.1 (S.1 ^ (S.2.1 - 1)) S.2.2.1 (rlb S x) (S.2.2.2.1 x) B (S.2.2.2.1 x - i) v)
theorem WG.at0 {S : Sc} {x v : Nat} {B : Nat → Nat} {g : Nat → Int32} (h : WG S x B g) (hv : v < S.1 ^ (S.2.1 - 1)) : g v = nI (wB S.1 (S.1 ^ (S.2.1 - 1)) S.2.2.1 (rlb S x) (S.2.2.2.1 x) B (S.2.2.2.1 x) v) := by
  have := h 0 v (Nat.zero_le _) hv
  rw [Nat.mul_zero, Nat.zero_add, Nat.sub_zero] at this
  exact this
theorem cnt_mono (p : Nat → Bool) {a : Nat} : ∀ {b : Nat}, a ≤ b → cnt p a ≤ cnt p b
  | 0, h => by have : a = 0 := by omega
               subst this; exact Nat.le_refl _
  | b + 1, h => by
    by_cases e : a = b + 1
    · subst e; exact Nat.le_refl _
    · have := cnt_mono p (a := a) (b := b) (by omega)
      rw [cnt]; omega
theorem k9_countF {w : Wt} {G h : Hp} {th : Nat} {S Z : Sc} {sv : Bool} {F : Sf} {x : Nat} (hR : RF G h th S sv Z F) (hx : x < 4) : ConN mX9_count 3 (0, 0) w [.ref 62, .int (nI x), .int (bI false)] h (.inl (some (.int (nI (pAll S x))))) (fun h' => ∃ g, h' = hu h 76 (io 144 g)) := by
  obtain ⟨u, o0, o1, o2⟩ := hR.o
  have hn9 := hR.so.1.n
  have hn0 := hR.so.1.n0
  have c0 : ∀ y, hu h 76 y 62 = MO u := fun y => (hu_n _ _ (by decide)).trans o0
  have cR : ∀ g', RF G (hu h 76 (io 144 g')) th S sv Z F := fun g' => hR.set_r (i := 76) (Or.inl ⟨by decide, by decide⟩)
  unfold pAll
  refine conI (by decide +kernel) ⟨fun _ => rfl, rfl, by simp⟩ (fun X C => ?_)
  change V X (0, 0) w h 0 [some (.ref 62), some (.int (nI x)), some (.int (bI false)), none, none] []
  refine v_iload_n C (oX9_count.at 0 rfl) rfl ?_
  refine v_if_eqB C (oX9_count.at 1 rfl) (tgt := 15) (by decide) (fun _ => ?_) (fun z => absurd z (by decide))
  refine v_iconst C (oX9_count.at 9 rfl) (v := nI 0) rfl ?_
  refine v_istore_n C (oX9_count.at 10 rfl) rfl ?_
  refine v_iconst C (oX9_count.at 11 rfl) (v := nI 0) rfl ?_
  refine v_istore C (oX9_count.at 12 rfl) rfl ?_
  refine v_iload C (oX9_count.at 13 rfl) rfl ?_
  refine v_aload_n C (oX9_count.at 14 rfl) rfl ?_
  dsimp only [sto1, sto2, killL]
  refine v_callV C (oX9_count.at 15 rfl) cX9_118 o0 (k9_nodesR hR) rfl rfl rfl ⟨rfl, rfl⟩ rfl rfl (fun _ => rfl) (fun h' hp => ?_)
  rw [show h' = _ from hp]
  dsimp only [Option.toList, List.cons_append, List.nil_append]
  refine v_icmp_geN C (oX9_count.at 16 rfl) (tgt := 69) (by decide) (by omega) (by omega) (fun hc => absurd hc (by omega)) (fun hc => ?_)
  refine v_iload_n C (oX9_count.at 17 rfl) rfl ?_
  refine v_if_neB C (oX9_count.at 18 rfl) (tgt := 38) (by decide) (fun z => absurd z (by decide)) (fun _ => ?_)
  refine v_iload C (oX9_count.at 19 rfl) rfl ?_
  refine v_if_neN C (oX9_count.at 20 rfl) (tgt := 53) (by decide) (by omega) (fun hc => absurd hc (by omega)) (fun hc => ?_)
  refine v_aload_n C (oX9_count.at 21 rfl) rfl ?_
  refine v_iload_n C (oX9_count.at 22 rfl) rfl ?_
  refine v_iload_n C (oX9_count.at 23 rfl) rfl ?_
  refine v_if_eqB C (oX9_count.at 24 rfl) (tgt := 49) (by decide) (fun _ => ?_) (fun z => absurd z (by decide))
  refine v_iconst C (oX9_count.at 27 rfl) (v := -1) rfl ?_
  refine v_callV C (oX9_count.at 28 rfl) cX9_228 o0 (k9_findsWays hR hx (Or.inl ⟨rfl, rfl⟩)) rfl rfl rfl ⟨rfl, rfl⟩ rfl rfl (fun _ => rfl) (fun h' hp => ?_)
  dsimp only [Option.toList, List.cons_append, List.nil_append]
  obtain ⟨g, e, hg⟩ := hp
  have hg : WG S x baA g := hg
  rw [e]
  suffices H : ∀ d v, v + d = S.1 ^ (S.2.1 - 1) → V X (0, 0) w (hu h 76 (io 144 g)) 53 [some (.ref 62), some (.int (nI x)), some (.int (bI false)), some (.int (nI (sumN (wB S.1 (S.1 ^ (S.2.1 - 1)) S.2.2.1 (rlb S x) (S.2.2.2.1 x) baA (S.2.2.2.1 x)) v))), some (.int (nI v))] [] ∨ d = 0 by
    rcases H (S.1 ^ (S.2.1 - 1)) 0 (by omega) with q | q
    · exact q
    · omega
  intro d
  induction d with
  | zero => intro v hv; exact Or.inr rfl
  | succ d ih =>
    intro v hv
    left
    have e1 := hg.at0 (v := v) (by omega)
    refine v_iload_n C (oX9_count.at 29 rfl) rfl ?_
    refine v_aload_n C (oX9_count.at 30 rfl) rfl ?_
    refine v_getf C (oX9_count.at 31 rfl) fX9_59 (c0 _) rfl ?_
    refine v_iload C (oX9_count.at 32 rfl) rfl ?_
    refine v_iald C (oX9_count.at 33 rfl) (hu_s _ _ _) (by decide) rfl (by omega) e1 ?_
    refine v_iaddN C (oX9_count.at 34 rfl) ?_
    refine v_istore_n C (oX9_count.at 35 rfl) rfl ?_
    refine v_iincN C (oX9_count.at 36 rfl) rfl ?_
    refine v_goto C (oX9_count.at 37 rfl) (tgt := 20) (by decide) ?_
    refine v_iload C (oX9_count.at 13 rfl) rfl ?_
    refine v_aload_n C (oX9_count.at 14 rfl) rfl ?_
    dsimp only [sto1, sto2, killL]
    refine v_callV C (oX9_count.at 15 rfl) cX9_118 (c0 _) (k9_nodesR (cR g)) rfl rfl rfl ⟨rfl, rfl⟩ rfl rfl (fun _ => rfl) (fun h' hp => ?_)
    rw [show h' = _ from hp]
    dsimp only [Option.toList, List.cons_append, List.nil_append]
    refine v_icmp_geN C (oX9_count.at 16 rfl) (tgt := 69) (by decide) (by omega) (by omega) (fun hc => ?_) (fun hc => ?_)
    · obtain rfl : d = 0 := by omega
      have ev : sumN (wB S.1 (S.1 ^ (S.2.1 - 1)) S.2.2.1 (rlb S x) (S.2.2.2.1 x) baA (S.2.2.2.1 x)) v + wB S.1 (S.1 ^ (S.2.1 - 1)) S.2.2.1 (rlb S x) (S.2.2.2.1 x) baA (S.2.2.2.1 x) v = sumN (wB S.1 (S.1 ^ (S.2.1 - 1)) S.2.2.1 (rlb S x) (S.2.2.2.1 x) baA (S.2.2.2.1 x)) (S.1 ^ (S.2.1 - 1)) := by rw [show S.1 ^ (S.2.1 - 1) = v + 1 by omega]; rfl
      rw [ev]
      refine v_iload_n C (oX9_count.at 38 rfl) rfl ?_
      exact v_iret C (oX9_count.at 39 rfl) rfl rfl ⟨Nat.le_refl _, Nat.le_refl _⟩ ⟨rfl, g, rfl⟩
    · refine v_iload_n C (oX9_count.at 17 rfl) rfl ?_
      refine v_if_neB C (oX9_count.at 18 rfl) (tgt := 38) (by decide) (fun z => absurd z (by decide)) (fun _ => ?_)
      refine v_iload C (oX9_count.at 19 rfl) rfl ?_
      refine v_if_neN C (oX9_count.at 20 rfl) (tgt := 53) (by decide) (by omega) (fun hc => ?_) (fun hc => absurd hc (by omega))
      rcases ih (v + 1) (by omega) with q | q
      · exact q
      · omega
theorem k9_countT {w : Wt} {G h : Hp} {th : Nat} {S Z : Sc} {sv : Bool} {F : Sf} {x : Nat} (hR : RF G h th S sv Z F) (hx : x < 4) : ConN mX9_count 3 (0, 0) w [.ref 62, .int (nI x), .int (bI true)] h (.inl (some (.int (nI (pClo S x))))) (fun h' => ∃ g, h' = hu h 76 (io 144 g)) := by
  obtain ⟨u, o0, o1, o2⟩ := hR.o
  obtain ⟨f, hf, hL⟩ := hR.rl
  obtain ⟨b1, b2⟩ := hR.so.2 x hx
  have hn9 := hR.so.1.n
  have hn0 := hR.so.1.n0
  have c0 : ∀ y, hu h 76 y 62 = MO u := fun y => (hu_n _ _ (by decide)).trans o0
  have cR : ∀ g', RF G (hu h 76 (io 144 g')) th S sv Z F := fun g' => hR.set_r (i := 76) (Or.inl ⟨by decide, by decide⟩)
  obtain ⟨g0, hg0⟩ := hR.sc (i := 76) (Or.inl ⟨by decide, by decide⟩)
  have hg0 : h 76 = io 144 g0 := hg0
  unfold pClo
  refine conI (by decide +kernel) ⟨fun _ => rfl, rfl, by simp⟩ (fun X C => ?_)
  change V X (0, 0) w h 0 [some (.ref 62), some (.int (nI x)), some (.int (bI true)), none, none] []
  refine v_iload_n C (oX9_count.at 0 rfl) rfl ?_
  refine v_if_eqB C (oX9_count.at 1 rfl) (tgt := 15) (by decide) (fun z => absurd z (by decide)) (fun _ => ?_)
  refine v_aload_n C (oX9_count.at 2 rfl) rfl ?_
  refine v_getf C (oX9_count.at 3 rfl) fX9_20 o0 rfl ?_
  refine v_iload_n C (oX9_count.at 4 rfl) rfl ?_
  refine v_iald C (oX9_count.at 5 rfl) hf (by decide) rfl (by omega) (hL x hx) ?_
  refine v_if_neN C (oX9_count.at 6 rfl) (tgt := 15) (by decide) (by omega) (fun hc => ?_) (fun hc => ?_)
  · rw [if_neg hc] at C
    refine v_iconst C (oX9_count.at 9 rfl) (v := nI 0) rfl ?_
    refine v_istore_n C (oX9_count.at 10 rfl) rfl ?_
    refine v_iconst C (oX9_count.at 11 rfl) (v := nI 0) rfl ?_
    refine v_istore C (oX9_count.at 12 rfl) rfl ?_
    dsimp only [sto1, sto2, killL]
    suffices H : ∀ d v g, v + d = S.1 ^ (S.2.1 - 1) → V X (0, 0) w (hu h 76 (io 144 g)) 20 [some (.ref 62), some (.int (nI x)), some (.int (bI true)), some (.int (nI (sumN (fun v => wB S.1 (S.1 ^ (S.2.1 - 1)) S.2.2.1 (rlb S x) (S.2.2.2.1 x) (baT v) (S.2.2.2.1 x) v) v))), some (.int (nI v))] [] by
      have := H (S.1 ^ (S.2.1 - 1)) 0 g0 (by omega)
      rw [hu_id h hg0] at this
      exact this
    intro d
    induction d with
    | zero =>
      intro v g hv
      obtain rfl : v = S.1 ^ (S.2.1 - 1) := by omega
      refine v_iload C (oX9_count.at 13 rfl) rfl ?_
      refine v_aload_n C (oX9_count.at 14 rfl) rfl ?_
      refine v_callV C (oX9_count.at 15 rfl) cX9_118 (c0 _) (k9_nodesR (cR g)) rfl rfl rfl ⟨rfl, rfl⟩ rfl rfl (fun _ => rfl) (fun h' hp => ?_)
      rw [show h' = _ from hp]
      dsimp only [Option.toList, List.cons_append, List.nil_append]
      refine v_icmp_geN C (oX9_count.at 16 rfl) (tgt := 69) (by decide) (by omega) (by omega) (fun hc => ?_) (fun hc => absurd hc (by omega))
      refine v_iload_n C (oX9_count.at 38 rfl) rfl ?_
      exact v_iret C (oX9_count.at 39 rfl) rfl rfl ⟨Nat.le_refl _, Nat.le_refl _⟩ ⟨rfl, g, rfl⟩
    | succ d ih =>
      intro v g hv
      refine v_iload C (oX9_count.at 13 rfl) rfl ?_
      refine v_aload_n C (oX9_count.at 14 rfl) rfl ?_
      refine v_callV C (oX9_count.at 15 rfl) cX9_118 (c0 _) (k9_nodesR (cR g)) rfl rfl rfl ⟨rfl, rfl⟩ rfl rfl (fun _ => rfl) (fun h' hp => ?_)
      rw [show h' = _ from hp]
      dsimp only [Option.toList, List.cons_append, List.nil_append]
      refine v_icmp_geN C (oX9_count.at 16 rfl) (tgt := 69) (by decide) (by omega) (by omega) (fun hc => absurd hc (by omega)) (fun hc => ?_)
      refine v_iload_n C (oX9_count.at 17 rfl) rfl ?_
      refine v_if_neB C (oX9_count.at 18 rfl) (tgt := 38) (by decide) (fun _ => ?_) (fun z => absurd z (by decide))
      refine v_aload_n C (oX9_count.at 21 rfl) rfl ?_
      refine v_iload_n C (oX9_count.at 22 rfl) rfl ?_
      refine v_iload_n C (oX9_count.at 23 rfl) rfl ?_
      refine v_if_eqB C (oX9_count.at 24 rfl) (tgt := 49) (by decide) (fun z => absurd z (by decide)) (fun _ => ?_)
      refine v_iload C (oX9_count.at 25 rfl) rfl ?_
      refine v_goto C (oX9_count.at 26 rfl) (tgt := 50) (by decide) ?_
      refine v_callV C (oX9_count.at 28 rfl) cX9_228 (c0 _) (k9_findsWays (cR g) hx (Or.inr ⟨v, by omega, rfl, rfl⟩)) rfl rfl rfl ⟨rfl, rfl⟩ rfl rfl (fun _ => rfl) (fun h' hp => ?_)
      dsimp only [Option.toList, List.cons_append, List.nil_append]
      obtain ⟨g', e, hg⟩ := hp
      have hg : WG S x (baT v) g' := hg
      rw [e, hu_hu]
      have e1 := hg.at0 (v := v) (by omega)
      refine v_iload_n C (oX9_count.at 29 rfl) rfl ?_
      refine v_aload_n C (oX9_count.at 30 rfl) rfl ?_
      refine v_getf C (oX9_count.at 31 rfl) fX9_59 (c0 _) rfl ?_
      refine v_iload C (oX9_count.at 32 rfl) rfl ?_
      refine v_iald C (oX9_count.at 33 rfl) (hu_s _ _ _) (by decide) rfl (by omega) e1 ?_
      refine v_iaddN C (oX9_count.at 34 rfl) ?_
      refine v_istore_n C (oX9_count.at 35 rfl) rfl ?_
      refine v_iincN C (oX9_count.at 36 rfl) rfl ?_
      refine v_goto C (oX9_count.at 37 rfl) (tgt := 20) (by decide) ?_
      dsimp only [sto1, sto2, killL]
      exact ih (v + 1) g' (by omega)
  · rw [if_pos hc] at C
    refine v_iconst C (oX9_count.at 7 rfl) (v := nI 0) rfl ?_
    exact v_iret C (oX9_count.at 8 rfl) rfl rfl ⟨Nat.le_refl _, Nat.le_refl _⟩ ⟨rfl, g0, (hu_id h hg0).symm⟩
theorem k9_count {w : Wt} {G h : Hp} {th : Nat} {S Z : Sc} {sv : Bool} {F : Sf} {x : Nat} {c : Bool} (hR : RF G h th S sv Z F) (hx : x < 4) : ConN mX9_count 3 (0, 0) w [.ref 62, .int (nI x), .int (bI c)] h (.inl (some (.int (nI (if c then pClo S x else pAll S x))))) (fun h' => ∃ g, h' = hu h 76 (io 144 g)) := by
  cases c
  · exact k9_countF hR hx
  · exact k9_countT hR hx
theorem k9_preimageCountX {w : Wt} {G h : Hp} {th : Nat} {S Z : Sc} {sv : Bool} {F : Sf} {x c : Int32} (hR : RF G h th S sv Z F) (hx : ¬ InB x 4) : ConN mX9_preimageCount 4 (0, 0) w [.ref 62, .int x, .int c] h (.inl (some (.int (nI 0)))) (fun h' => RF G h' 1 S sv Z F) := by
  obtain ⟨u, o0, o1, o2⟩ := hR.o
  refine conI (by decide +kernel) ⟨fun _ => rfl, rfl, by simp⟩ (fun X C => ?_)
  change V X (0, 0) w h 0 [some (.ref 62), some (.int x), some (.int c)] []
  refine v_aload_n C (oX9_preimageCount.at 0 rfl) rfl ?_
  refine v_iload_n C (oX9_preimageCount.at 1 rfl) rfl ?_
  refine v_callV C (oX9_preimageCount.at 2 rfl) cX9_213 o0 (k9_isOneF hR hx) rfl rfl rfl ⟨rfl, rfl⟩ rfl rfl (fun _ => rfl) (fun h' hp => ?_)
  dsimp only [Option.toList, List.cons_append, List.nil_append]
  refine v_if_eqB C (oX9_preimageCount.at 3 rfl) (tgt := 17) (by decide) (fun _ => ?_) (fun z => absurd z (by decide))
  refine v_iconst C (oX9_preimageCount.at 9 rfl) (v := nI 0) rfl ?_
  exact v_iret C (oX9_preimageCount.at 10 rfl) rfl rfl ⟨Nat.le_refl _, Nat.le_refl _⟩ ⟨rfl, hp⟩
theorem k9_preimageCount {w : Wt} {G h : Hp} {th : Nat} {S Z : Sc} {sv : Bool} {F : Sf} {x : Nat} {c : Bool} (hR : RF G h th S sv Z F) (hx : x < 4) : ConN mX9_preimageCount 4 (0, 0) w [.ref 62, .int (nI x), .int (bI c)] h (.inl (some (.int (nI (if c then pClo S x else pAll S x))))) (fun h' => RF G h' 0 S sv Z F) := by
  obtain ⟨u, o0, o1, o2⟩ := hR.o
  refine conI (by decide +kernel) ⟨fun _ => rfl, rfl, by simp⟩ (fun X C => ?_)
  change V X (0, 0) w h 0 [some (.ref 62), some (.int (nI x)), some (.int (bI c))] []
  refine v_aload_n C (oX9_preimageCount.at 0 rfl) rfl ?_
  refine v_iload_n C (oX9_preimageCount.at 1 rfl) rfl ?_
  refine v_callV C (oX9_preimageCount.at 2 rfl) cX9_213 o0 (k9_isOneT hR (InB.of hx (by decide))) rfl rfl rfl ⟨rfl, rfl⟩ rfl rfl (fun _ => rfl) (fun h' hp => ?_)
  dsimp only [Option.toList, List.cons_append, List.nil_append]
  have hR1 : RF G h' 0 S sv Z F := hp
  clear hp
  obtain ⟨h2, e2⟩ : ∃ z, z = h' := ⟨h', rfl⟩
  rw [← e2] at hR1 ⊢
  obtain ⟨u1, r0, -, r2⟩ := hR1.o
  refine v_if_eqB C (oX9_preimageCount.at 3 rfl) (tgt := 17) (by decide) (fun z => absurd z (by decide)) (fun _ => ?_)
  refine v_aload_n C (oX9_preimageCount.at 4 rfl) rfl ?_
  refine v_iload_n C (oX9_preimageCount.at 5 rfl) rfl ?_
  refine v_iload_n C (oX9_preimageCount.at 6 rfl) rfl ?_
  refine v_callV C (oX9_preimageCount.at 7 rfl) cX9_232 r0 (k9_count hR1 hx) rfl rfl rfl ⟨rfl, rfl⟩ rfl rfl (fun _ => rfl) (fun h' hp => ?_)
  dsimp only [Option.toList, List.cons_append, List.nil_append]
  obtain ⟨g, e⟩ := hp
  rw [e]
  refine v_goto C (oX9_preimageCount.at 8 rfl) (tgt := 18) (by decide) ?_
  exact v_iret C (oX9_preimageCount.at 10 rfl) rfl rfl ⟨Nat.le_refl _, Nat.le_refl _⟩ ⟨rfl, hR1.set_r (i := 76) (Or.inl ⟨by decide, by decide⟩)⟩
theorem wkW_div {k n : Nat} {T lb : Nat → Nat} {len : Nat} {B : Nat → Nat} (hk : 0 < k) : ∀ (j v word x : Nat), wkW k n T lb len B j v word x / k ^ j = word
  | 0, v, word, x => by simp [wkW]
  | j + 1, v, word, x => by
    have hs := selS_le (wf1 k n T lb len B j v) x (k - 1)
    rw [wkW, Nat.pow_succ, ← Nat.div_div_eq_div_mul, wkW_div hk j, Nat.mul_comm word, Nat.mul_add_div hk, Nat.div_eq_of_lt (by omega), Nat.add_zero]
theorem wf1_le {k n : Nat} {T lb : Nat → Nat} {len : Nat} {B : Nat → Nat} (hB : ∀ v, B v ≤ 1) (j v s : Nat) : wf1 k n T lb len B j v s ≤ k ^ j := by
  unfold wf1
  split
  · exact wB_le hB _ _
  · exact Nat.zero_le _
/-- the walk of longOne -/
theorem lo_walk {w : Wt} {G h : Hp} {th : Nat} {S Z : Sc} {sv : Bool} {F : Sf} {x st v0 x0 : Nat} {B : Nat → Nat} {g : Nat → Int32} {a2 a3 : Int32} {X : CT} {P : Wt → Hp → Prop} {rs : Nat} (C : Cx X mX9_longOne [] 3 (0, 0) (.inl (some (.int (nI rs)))) P) (hrs : rs = wkW S.1 (S.1 ^ (S.2.1 - 1)) S.2.2.1 (rlb S x) (S.2.2.2.1 x) B (S.2.2.2.1 x) v0 v0 x0 / S.1 ^ (S.2.2.2.1 x - st)) (hR : RF G h th S sv Z F) (hx : x < 4) (hB : ∀ v, B v ≤ 1) (hg : WG S x B g) (hst : st ≤ S.2.2.2.1 x) (hv0 : v0 < S.1 ^ (S.2.1 - 1)) (hx0 : x0 < wB S.1 (S.1 ^ (S.2.1 - 1)) S.2.2.1 (rlb S x) (S.2.2.2.1 x) B (S.2.2.2.1 x) v0) (hP : P w (hu h 76 (io 144 g))) : V X (0, 0) w (hu h 76 (io 144 g)) 89 [some (.ref 62), some (.int (nI x)), some (.int a2), some (.int a3), some (.int (nI x0)), some (.int (nI st)), some (.int (nI v0)), none, none, none, none, none] [] := by
  subst hrs
  obtain ⟨u, o0, o1, o2⟩ := hR.o
  obtain ⟨b1, b2⟩ := hR.so.2 x hx
  have hk := hR.so.1.k
  have hn9 := hR.so.1.n
  have hn0 := hR.so.1.n0
  have c0 : ∀ y, hu h 76 y 62 = MO u := fun y => (hu_n _ _ (by decide)).trans o0
  have cR : RF G (hu h 76 (io 144 g)) th S sv Z F := hR.set_r (i := 76) (Or.inl ⟨by decide, by decide⟩)
  generalize hfin : wkW S.1 (S.1 ^ (S.2.1 - 1)) S.2.2.1 (rlb S x) (S.2.2.2.1 x) B (S.2.2.2.1 x) v0 v0 x0 = fin at *
  have p14 : ∀ j, j ≤ 14 → S.1 ^ j ≤ 4782969 := fun j hj => pw_le hk (b := 14) hj
  refine v_iload C (oX9_longOne.at 50 rfl) rfl ?_
  refine v_istore C (oX9_longOne.at 51 rfl) rfl ?_
  refine v_iconst C (oX9_longOne.at 52 rfl) (v := nI 0) rfl ?_
  refine v_istore C (oX9_longOne.at 53 rfl) rfl ?_
  dsimp only [sto1, sto2, killL]
  suffices H : ∀ d i v word left l9 l10 l11, i + d = st → v < S.1 ^ (S.2.1 - 1) → left < wB S.1 (S.1 ^ (S.2.1 - 1)) S.2.2.1 (rlb S x) (S.2.2.2.1 x) B (S.2.2.2.1 x - i) v → wkW S.1 (S.1 ^ (S.2.1 - 1)) S.2.2.1 (rlb S x) (S.2.2.2.1 x) B (S.2.2.2.1 x - i) v word left = fin → V X (0, 0) w (hu h 76 (io 144 g)) 96 [some (.ref 62), some (.int (nI x)), some (.int a2), some (.int a3), some (.int (nI left)), some (.int (nI st)), some (.int (nI v)), some (.int (nI word)), some (.int (nI i)), l9, l10, l11] [] from H st 0 v0 v0 x0 none none none (by omega) hv0 hx0 hfin
  intro d
  induction d with
  | zero =>
    intro i v word left l9 l10 l11 hi hv hl hw
    obtain rfl : i = st := by omega
    rw [← hw, wkW_div (by omega)] at C
    refine v_iload C (oX9_longOne.at 54 rfl) rfl ?_
    refine v_iload C (oX9_longOne.at 55 rfl) rfl ?_
    refine v_icmp_geN C (oX9_longOne.at 56 rfl) (tgt := 222) (by decide) (by omega) (by omega) (fun hc => ?_) (fun hc => absurd hc (by omega))
    refine v_iload C (oX9_longOne.at 118 rfl) rfl ?_
    exact v_iret C (oX9_longOne.at 119 rfl) rfl rfl ⟨Nat.le_refl _, Nat.le_refl _⟩ hP
  | succ d ih =>
    intro i v word left l9 l10 l11 hi hv hl hw
    obtain ⟨j, hj⟩ : ∃ j, S.2.2.2.1 x - i = j + 1 := ⟨S.2.2.2.1 x - i - 1, by omega⟩
    have hj2 : S.2.2.2.1 x - (i + 1) = j := by omega
    have hj3 : S.2.2.2.1 x - 1 - j = i := by omega
    rw [hj] at hl hw
    rw [wB] at hl
    rw [wkW] at hw
    have hl : left < sumN (wf1 S.1 (S.1 ^ (S.2.1 - 1)) S.2.2.1 (rlb S x) (S.2.2.2.1 x) B j v) S.1 := hl
    have hce : cel S.1 (S.2.2.2.1 x) (S.2.2.2.2 x) i = rlb S x i := rfl
    have hT2 : cel S.1 (S.2.2.2.1 x) (S.2.2.2.2 x) i < S.1 := cel_lt (by omega)
    have kc := k9_cellOf (w := w) (x := x) (c := i) cR hx (by omega)
    have ih := fun v' word' left' l9 l10 l11 => ih (i + 1) v' word' left' l9 l10 l11 (by omega)
    rw [hj2] at ih
    have wl : ∀ s, wf1 S.1 (S.1 ^ (S.2.1 - 1)) S.2.2.1 (rlb S x) (S.2.2.2.1 x) B j v s ≤ 4782969 := fun s => Nat.le_trans (wf1_le hB j v s) (p14 j (by omega))
    have slb : sumN (wf1 S.1 (S.1 ^ (S.2.1 - 1)) S.2.2.1 (rlb S x) (S.2.2.2.1 x) B j v) S.1 ≤ S.1 * 4782969 := sumN_le _ (fun s _ => wl s)
    refine v_iload C (oX9_longOne.at 54 rfl) rfl ?_
    refine v_iload C (oX9_longOne.at 55 rfl) rfl ?_
    refine v_icmp_geN C (oX9_longOne.at 56 rfl) (tgt := 222) (by decide) (by omega) (by omega) (fun hc => absurd hc (by omega)) (fun hc => ?_)
    refine v_iconst C (oX9_longOne.at 57 rfl) (v := nI 0) rfl ?_
    refine v_istore C (oX9_longOne.at 58 rfl) rfl ?_
    refine v_iconst C (oX9_longOne.at 59 rfl) (v := nI 1) rfl ?_
    refine v_istore C (oX9_longOne.at 60 rfl) rfl ?_
    dsimp only [sto1, sto2, killL]
    suffices H2 : ∀ e s l11, s + e = S.1 → sumN (wf1 S.1 (S.1 ^ (S.2.1 - 1)) S.2.2.1 (rlb S x) (S.2.2.2.1 x) B j v) s ≤ left → V X (0, 0) w (hu h 76 (io 144 g)) 109 [some (.ref 62), some (.int (nI x)), some (.int a2), some (.int a3), some (.int (nI (left - sumN (wf1 S.1 (S.1 ^ (S.2.1 - 1)) S.2.2.1 (rlb S x) (S.2.2.2.1 x) B j v) s))), some (.int (nI st)), some (.int (nI v)), some (.int (nI word)), some (.int (nI i)), some (.int (nI s)), some (.int (nI 1)), l11] [] from H2 S.1 0 _ (by omega) (Nat.zero_le _)
    intro e
    induction e with
    | zero =>
      intro s l11 hs hsl
      obtain rfl : s = S.1 := by omega
      exact absurd hl (by omega)
    | succ e ihe =>
      intro s l11 hs hsl
      have ihe := ihe (s + 1)
      rw [sumN] at ihe
      have hgl : (v * S.1 + s) % S.1 ^ (S.2.1 - 1) < S.1 ^ (S.2.1 - 1) := Nat.mod_lt _ hn0
      have hT1 : S.2.2.1 (v * S.1 + s) < 2 ^ 31 := by
        obtain ⟨f9, -, hT9⟩ := hR.tk
        have := (hT9 _ (vs_lt hR.so.1 hv (show s < S.1 by omega))).2
        omega
      have kl := k9_labelR (w := w) (v := v) (s := s) cR hv (by omega)
      have kg := k9_goalR (w := w) (v := v) (s := s) cR hv (by omega)
      have hwv := hg (i + 1) _ (by omega) hgl
      rw [hj2] at hwv
      have ev : wf1 S.1 (S.1 ^ (S.2.1 - 1)) S.2.2.1 (rlb S x) (S.2.2.2.1 x) B j v s = if S.2.2.1 (v * S.1 + s) = rlb S x i then wB S.1 (S.1 ^ (S.2.1 - 1)) S.2.2.1 (rlb S x) (S.2.2.2.1 x) B j ((v * S.1 + s) % S.1 ^ (S.2.1 - 1)) else 0 := by unfold wf1; rw [hj3]
      have wls := wl s
      have fin2 : ∀ is, is = wf1 S.1 (S.1 ^ (S.2.1 - 1)) S.2.2.1 (rlb S x) (S.2.2.2.1 x) B j v s → V X (0, 0) w (hu h 76 (io 144 g)) 157 [some (.ref 62), some (.int (nI x)), some (.int a2), some (.int a3), some (.int (nI (left - sumN (wf1 S.1 (S.1 ^ (S.2.1 - 1)) S.2.2.1 (rlb S x) (S.2.2.2.1 x) B j v) s))), some (.int (nI st)), some (.int (nI v)), some (.int (nI word)), some (.int (nI i)), some (.int (nI s)), some (.int (nI 1)), l11] [.int (nI is)] := by
        intro is his
        rw [← his] at ihe
        refine v_istore C (oX9_longOne.at 87 rfl) rfl ?_
        refine v_iload C (oX9_longOne.at 88 rfl) rfl ?_
        refine v_iload C (oX9_longOne.at 89 rfl) rfl ?_
        dsimp only [sto1, sto2, killL]
        refine v_icmp_ltN C (oX9_longOne.at 90 rfl) (tgt := 170) (by decide) (by omega) (by omega) (fun hc => ?_) (fun hc => ?_)
        · have hse : selS (wf1 S.1 (S.1 ^ (S.2.1 - 1)) S.2.2.1 (rlb S x) (S.2.2.2.1 x) B j v) left (S.1 - 1) = s := sel_eq hsl (by rw [sumN, ← his]; omega) _ (by omega)
          rw [hse] at hw
          refine v_iconst C (oX9_longOne.at 93 rfl) (v := nI 0) rfl ?_
          refine v_istore C (oX9_longOne.at 94 rfl) rfl ?_
          refine v_iload C (oX9_longOne.at 95 rfl) rfl ?_
          dsimp only [sto1, sto2, killL]
          refine v_if_neN C (oX9_longOne.at 96 rfl) (tgt := 181) (by decide) (by omega) (fun hc => absurd hc (by omega)) (fun hc => ?_)
          refine v_goto C (oX9_longOne.at 97 rfl) (tgt := 109) (by decide) ?_
          refine v_iload C (oX9_longOne.at 61 rfl) rfl ?_
          refine v_if_eqN C (oX9_longOne.at 62 rfl) (tgt := 194) (by decide) (by omega) (fun hc => ?_) (fun hc => absurd hc (by omega))
          refine v_iload C (oX9_longOne.at 104 rfl) rfl ?_
          refine v_aload_n C (oX9_longOne.at 105 rfl) rfl ?_
          refine v_getf C (oX9_longOne.at 106 rfl) fX9_7 (c0 _) (congrArg (fun z => some (Value.int z)) (o2.1)) ?_
          refine v_imulN C (oX9_longOne.at 107 rfl) ?_
          refine v_iload C (oX9_longOne.at 108 rfl) rfl ?_
          refine v_iaddN C (oX9_longOne.at 109 rfl) ?_
          refine v_istore C (oX9_longOne.at 110 rfl) rfl ?_
          refine v_aload_n C (oX9_longOne.at 111 rfl) rfl ?_
          refine v_iload C (oX9_longOne.at 112 rfl) rfl ?_
          refine v_iload C (oX9_longOne.at 113 rfl) rfl ?_
          dsimp only [sto1, sto2, killL]
          refine v_callV C (oX9_longOne.at 114 rfl) cX9_225 (c0 _) (kg) rfl rfl rfl ⟨rfl, rfl⟩ rfl rfl (fun _ => rfl) (fun h' hp => ?_)
          rw [show h' = _ from hp]
          dsimp only [Option.toList, List.cons_append, List.nil_append]
          refine v_istore C (oX9_longOne.at 115 rfl) rfl ?_
          refine v_iincN C (oX9_longOne.at 116 rfl) rfl ?_
          refine v_goto C (oX9_longOne.at 117 rfl) (tgt := 96) (by decide) ?_
          dsimp only [sto1, sto2, killL]
          refine ih _ _ _ _ _ _ hgl ?_ hw
          have : left - sumN (wf1 S.1 (S.1 ^ (S.2.1 - 1)) S.2.2.1 (rlb S x) (S.2.2.2.1 x) B j v) s < wf1 S.1 (S.1 ^ (S.2.1 - 1)) S.2.2.1 (rlb S x) (S.2.2.2.1 x) B j v s := by omega
          rw [ev] at this
          by_cases q : S.2.2.1 (v * S.1 + s) = rlb S x i
          · rw [if_pos q] at this; exact this
          · rw [if_neg q] at this; exact absurd this (by omega)
        · skip
          refine v_iconst C (oX9_longOne.at 91 rfl) (v := nI 1) rfl ?_
          refine v_goto C (oX9_longOne.at 92 rfl) (tgt := 171) (by decide) ?_
          refine v_istore C (oX9_longOne.at 94 rfl) rfl ?_
          refine v_iload C (oX9_longOne.at 95 rfl) rfl ?_
          dsimp only [sto1, sto2, killL]
          refine v_if_neN C (oX9_longOne.at 96 rfl) (tgt := 181) (by decide) (by omega) (fun hc => ?_) (fun hc => absurd hc (by omega))
          refine v_iload C (oX9_longOne.at 98 rfl) rfl ?_
          refine v_iload C (oX9_longOne.at 99 rfl) rfl ?_
          refine v_isubN C (oX9_longOne.at 100 rfl) (by omega) ?_
          refine v_istore C (oX9_longOne.at 101 rfl) rfl ?_
          refine v_iincN C (oX9_longOne.at 102 rfl) rfl ?_
          refine v_goto C (oX9_longOne.at 103 rfl) (tgt := 109) (by decide) ?_
          dsimp only [sto1, sto2, killL]
          have := ihe (some (.int (nI is))) (by omega) (by omega)
          rw [show left - (sumN (wf1 S.1 (S.1 ^ (S.2.1 - 1)) S.2.2.1 (rlb S x) (S.2.2.2.1 x) B j v) s + is) = left - sumN (wf1 S.1 (S.1 ^ (S.2.1 - 1)) S.2.2.1 (rlb S x) (S.2.2.2.1 x) B j v) s - is by omega] at this
          exact this
      refine v_iload C (oX9_longOne.at 61 rfl) rfl ?_
      refine v_if_eqN C (oX9_longOne.at 62 rfl) (tgt := 194) (by decide) (by omega) (fun hc => absurd hc (by omega)) (fun hc => ?_)
      refine v_aload_n C (oX9_longOne.at 63 rfl) rfl ?_
      refine v_iload C (oX9_longOne.at 64 rfl) rfl ?_
      refine v_iload C (oX9_longOne.at 65 rfl) rfl ?_
      refine v_callV C (oX9_longOne.at 66 rfl) cX9_222 (c0 _) (kl) rfl rfl rfl ⟨rfl, rfl⟩ rfl rfl (fun _ => rfl) (fun h' hp => ?_)
      rw [show h' = _ from hp]
      dsimp only [Option.toList, List.cons_append, List.nil_append]
      refine v_aload_n C (oX9_longOne.at 67 rfl) rfl ?_
      refine v_iload_n C (oX9_longOne.at 68 rfl) rfl ?_
      refine v_iload C (oX9_longOne.at 69 rfl) rfl ?_
      refine v_callV C (oX9_longOne.at 70 rfl) cX9_216 (c0 _) (kc) rfl rfl rfl ⟨rfl, rfl⟩ rfl rfl (fun _ => rfl) (fun h' hp => ?_)
      rw [show h' = _ from hp]
      dsimp only [Option.toList, List.cons_append, List.nil_append]
      refine v_icmp_neN C (oX9_longOne.at 71 rfl) (tgt := 156) (by decide) (by omega) (by omega) (fun hc => ?_) (fun hc => ?_)
      · refine v_iconst C (oX9_longOne.at 86 rfl) (v := nI 0) rfl ?_
        exact fin2 0 (by rw [ev, if_neg (by rw [← hce]; exact hc)])
      · refine v_aload_n C (oX9_longOne.at 72 rfl) rfl ?_
        refine v_getf C (oX9_longOne.at 73 rfl) fX9_59 (c0 _) rfl ?_
        refine v_bipush C (oX9_longOne.at 74 rfl) (v := nI 9) rfl ?_
        refine v_iload C (oX9_longOne.at 75 rfl) rfl ?_
        refine v_iconst C (oX9_longOne.at 76 rfl) (v := nI 1) rfl ?_
        refine v_iaddN C (oX9_longOne.at 77 rfl) ?_
        refine v_imulN C (oX9_longOne.at 78 rfl) ?_
        refine v_aload_n C (oX9_longOne.at 79 rfl) rfl ?_
        refine v_iload C (oX9_longOne.at 80 rfl) rfl ?_
        refine v_iload C (oX9_longOne.at 81 rfl) rfl ?_
        refine v_callV C (oX9_longOne.at 82 rfl) cX9_225 (c0 _) (kg) rfl rfl rfl ⟨rfl, rfl⟩ rfl rfl (fun _ => rfl) (fun h' hp => ?_)
        rw [show h' = _ from hp]
        dsimp only [Option.toList, List.cons_append, List.nil_append]
        refine v_iaddN C (oX9_longOne.at 83 rfl) ?_
        refine v_iald C (oX9_longOne.at 84 rfl) (hu_s _ _ _) (by decide) rfl (by omega) hwv ?_
        refine v_goto C (oX9_longOne.at 85 rfl) (tgt := 157) (by decide) ?_
        exact fin2 _ (by rw [ev, if_pos (by rw [← hce]; exact hc)])
theorem k9_longF {w : Wt} {G h : Hp} {th : Nat} {S Z : Sc} {sv : Bool} {F : Sf} {x y : Nat} (hR : RF G h th S sv Z F) (hx : x < 4) (hy : y < pAll S x) : ConN mX9_longOne 3 (0, 0) w [.ref 62, .int (nI x), .int (bI false), .int (nI y)] h (.inl (some (.int (nI (opN S.1 (S.1 ^ (S.2.1 - 1)) S.2.2.1 (rlb S x) (S.2.2.2.1 x) y))))) (fun h' => ∃ g, h' = hu h 76 (io 144 g)) := by
  obtain ⟨u, o0, o1, o2⟩ := hR.o
  obtain ⟨f, hf, hL⟩ := hR.rl
  obtain ⟨b1, b2⟩ := hR.so.2 x hx
  have hk := hR.so.1.k
  have hn9 := hR.so.1.n
  have hn0 := hR.so.1.n0
  have c0 : ∀ y, hu h 76 y 62 = MO u := fun y => (hu_n _ _ (by decide)).trans o0
  unfold pAll at hy
  unfold opN
  have wl : ∀ v, wB S.1 (S.1 ^ (S.2.1 - 1)) S.2.2.1 (rlb S x) (S.2.2.2.1 x) baA (S.2.2.2.1 x) v ≤ 4782969 := fun v => Nat.le_trans (wB_le baA_le _ _) (pw_le hk (b := 14) b1)
  have slb : sumN (wB S.1 (S.1 ^ (S.2.1 - 1)) S.2.2.1 (rlb S x) (S.2.2.2.1 x) baA (S.2.2.2.1 x)) (S.1 ^ (S.2.1 - 1)) ≤ S.1 ^ (S.2.1 - 1) * 4782969 := sumN_le _ (fun s _ => wl s)
  have slb2 : S.1 ^ (S.2.1 - 1) * 4782969 ≤ 9 * 4782969 := Nat.mul_le_mul_right _ hn9
  refine conI (by decide +kernel) ⟨fun _ => rfl, rfl, by simp⟩ (fun X C => ?_)
  change V X (0, 0) w h 0 [some (.ref 62), some (.int (nI x)), some (.int (bI false)), some (.int (nI y)), none, none, none, none, none, none, none, none] []
  refine v_iload_n C (oX9_longOne.at 0 rfl) rfl ?_
  refine v_istore C (oX9_longOne.at 1 rfl) rfl ?_
  refine v_iload_n C (oX9_longOne.at 2 rfl) rfl ?_
  dsimp only [sto1, sto2, killL]
  refine v_if_eqB C (oX9_longOne.at 3 rfl) (tgt := 23) (by decide) (fun _ => ?_) (fun z => absurd z (by decide))
  refine v_aload_n C (oX9_longOne.at 14 rfl) rfl ?_
  refine v_getf C (oX9_longOne.at 15 rfl) fX9_20 o0 rfl ?_
  refine v_iload_n C (oX9_longOne.at 16 rfl) rfl ?_
  refine v_iald C (oX9_longOne.at 17 rfl) hf (by decide) rfl (by omega) (hL x hx) ?_
  refine v_istore C (oX9_longOne.at 18 rfl) rfl ?_
  refine v_iconst C (oX9_longOne.at 19 rfl) (v := nI 0) rfl ?_
  refine v_istore C (oX9_longOne.at 20 rfl) rfl ?_
  refine v_aload_n C (oX9_longOne.at 21 rfl) rfl ?_
  refine v_iload_n C (oX9_longOne.at 22 rfl) rfl ?_
  refine v_iload_n C (oX9_longOne.at 23 rfl) rfl ?_
  dsimp only [sto1, sto2, killL]
  refine v_if_eqB C (oX9_longOne.at 24 rfl) (tgt := 44) (by decide) (fun _ => ?_) (fun z => absurd z (by decide))
  refine v_iconst C (oX9_longOne.at 27 rfl) (v := -1) rfl ?_
  refine v_callV C (oX9_longOne.at 28 rfl) cX9_228 o0 (k9_findsWays hR hx (Or.inl ⟨rfl, rfl⟩)) rfl rfl rfl ⟨rfl, rfl⟩ rfl rfl (fun _ => rfl) (fun h' hp => ?_)
  dsimp only [Option.toList, List.cons_append, List.nil_append]
  obtain ⟨g, e, hg⟩ := hp
  have hg : WG S x baA g := hg
  rw [e]
  suffices H : ∀ d v, v + d = S.1 ^ (S.2.1 - 1) → sumN (wB S.1 (S.1 ^ (S.2.1 - 1)) S.2.2.1 (rlb S x) (S.2.2.2.1 x) baA (S.2.2.2.1 x)) v ≤ y → V X (0, 0) w (hu h 76 (io 144 g)) 48 [some (.ref 62), some (.int (nI x)), some (.int (bI false)), some (.int (nI y)), some (.int (nI (y - sumN (wB S.1 (S.1 ^ (S.2.1 - 1)) S.2.2.1 (rlb S x) (S.2.2.2.1 x) baA (S.2.2.2.1 x)) v))), some (.int (nI (S.2.2.2.1 x))), some (.int (nI v)), none, none, none, none, none] [] from H (S.1 ^ (S.2.1 - 1)) 0 (by omega) (Nat.zero_le _)
  intro d
  induction d with
  | zero =>
    intro v hv hs
    obtain rfl : v = S.1 ^ (S.2.1 - 1) := by omega
    exact absurd hy (by omega)
  | succ d ih =>
    intro v hv hs
    have ih := ih (v + 1) (by omega)
    rw [sumN] at ih
    have e1 := hg.at0 (v := v) (by omega)
    have wlv := wl v
    refine v_iload C (oX9_longOne.at 29 rfl) rfl ?_
    refine v_aload_n C (oX9_longOne.at 30 rfl) rfl ?_
    refine v_getf C (oX9_longOne.at 31 rfl) fX9_59 (c0 _) rfl ?_
    refine v_iload C (oX9_longOne.at 32 rfl) rfl ?_
    refine v_iald C (oX9_longOne.at 33 rfl) (hu_s _ _ _) (by decide) rfl (by omega) e1 ?_
    refine v_icmp_ltN C (oX9_longOne.at 34 rfl) (tgt := 89) (by decide) (by omega) (by omega) (fun hc => ?_) (fun hc => ?_)
    · have hse : selS (wB S.1 (S.1 ^ (S.2.1 - 1)) S.2.2.1 (rlb S x) (S.2.2.2.1 x) baA (S.2.2.2.1 x)) y (S.1 ^ (S.2.1 - 1) - 1) = v := sel_eq hs (by rw [sumN]; omega) _ (by omega)
      rw [hse] at C
      exact lo_walk (st := S.2.2.2.1 x) (B := baA) C (by rw [Nat.sub_self, Nat.pow_zero, Nat.div_one]) hR hx baA_le hg (Nat.le_refl _) (by omega) hc ⟨rfl, g, rfl⟩
    · refine v_iload C (oX9_longOne.at 35 rfl) rfl ?_
      refine v_aload_n C (oX9_longOne.at 36 rfl) rfl ?_
      refine v_getf C (oX9_longOne.at 37 rfl) fX9_59 (c0 _) rfl ?_
      refine v_iload C (oX9_longOne.at 38 rfl) rfl ?_
      refine v_iald C (oX9_longOne.at 39 rfl) (hu_s _ _ _) (by decide) rfl (by omega) e1 ?_
      refine v_isubN C (oX9_longOne.at 40 rfl) (by omega) ?_
      refine v_istore C (oX9_longOne.at 41 rfl) rfl ?_
      refine v_iincN C (oX9_longOne.at 42 rfl) rfl ?_
      refine v_iload_n C (oX9_longOne.at 43 rfl) rfl ?_
      dsimp only [sto1, sto2, killL]
      refine v_if_eqB C (oX9_longOne.at 44 rfl) (tgt := 48) (by decide) (fun _ => ?_) (fun z => absurd z (by decide))
      have := ih (by omega)
      rw [show y - (sumN (wB S.1 (S.1 ^ (S.2.1 - 1)) S.2.2.1 (rlb S x) (S.2.2.2.1 x) baA (S.2.2.2.1 x)) v + wB S.1 (S.1 ^ (S.2.1 - 1)) S.2.2.1 (rlb S x) (S.2.2.2.1 x) baA (S.2.2.2.1 x) v) = y - sumN (wB S.1 (S.1 ^ (S.2.1 - 1)) S.2.2.1 (rlb S x) (S.2.2.2.1 x) baA (S.2.2.2.1 x)) v - wB S.1 (S.1 ^ (S.2.1 - 1)) S.2.2.1 (rlb S x) (S.2.2.2.1 x) baA (S.2.2.2.1 x) v by omega] at this
      exact this
theorem k9_longT {w : Wt} {G h : Hp} {th : Nat} {S Z : Sc} {sv : Bool} {F : Sf} {x y : Nat} (hR : RF G h th S sv Z F) (hx : x < 4) (hy : y < pClo S x) (hl : S.2.1 - 1 ≤ S.2.2.2.1 x) : ConN mX9_longOne 3 (0, 0) w [.ref 62, .int (nI x), .int (bI true), .int (nI y)] h (.inl (some (.int (nI (clN S.1 (S.1 ^ (S.2.1 - 1)) S.2.2.1 (rlb S x) (S.2.2.2.1 x) y))))) (fun h' => ∃ g, h' = hu h 76 (io 144 g)) := by
  obtain ⟨u, o0, o1, o2⟩ := hR.o
  obtain ⟨f, hf, hL⟩ := hR.rl
  obtain ⟨b1, b2⟩ := hR.so.2 x hx
  have hk := hR.so.1.k
  have hwd := hR.so.1.w
  have hn9 := hR.so.1.n
  have hn0 := hR.so.1.n0
  have c0 : ∀ y, hu h 76 y 62 = MO u := fun y => (hu_n _ _ (by decide)).trans o0
  have cR : ∀ g', RF G (hu h 76 (io 144 g')) th S sv Z F := fun g' => hR.set_r (i := 76) (Or.inl ⟨by decide, by decide⟩)
  unfold pClo at hy
  rw [if_neg (by omega)] at hy
  have hy : y < sumN (clW S.1 (S.1 ^ (S.2.1 - 1)) S.2.2.1 (rlb S x) (S.2.2.2.1 x)) (S.1 ^ (S.2.1 - 1)) := hy
  unfold clN
  have wl : ∀ v, clW S.1 (S.1 ^ (S.2.1 - 1)) S.2.2.1 (rlb S x) (S.2.2.2.1 x) v ≤ 4782969 := fun v => Nat.le_trans (wB_le (baT_le v) _ _) (pw_le hk (b := 14) b1)
  have slb : sumN (clW S.1 (S.1 ^ (S.2.1 - 1)) S.2.2.1 (rlb S x) (S.2.2.2.1 x)) (S.1 ^ (S.2.1 - 1)) ≤ S.1 ^ (S.2.1 - 1) * 4782969 := sumN_le _ (fun s _ => wl s)
  have slb2 : S.1 ^ (S.2.1 - 1) * 4782969 ≤ 9 * 4782969 := Nat.mul_le_mul_right _ hn9
  refine conI (by decide +kernel) ⟨fun _ => rfl, rfl, by simp⟩ (fun X C => ?_)
  change V X (0, 0) w h 0 [some (.ref 62), some (.int (nI x)), some (.int (bI true)), some (.int (nI y)), none, none, none, none, none, none, none, none] []
  refine v_iload_n C (oX9_longOne.at 0 rfl) rfl ?_
  refine v_istore C (oX9_longOne.at 1 rfl) rfl ?_
  refine v_iload_n C (oX9_longOne.at 2 rfl) rfl ?_
  dsimp only [sto1, sto2, killL]
  refine v_if_eqB C (oX9_longOne.at 3 rfl) (tgt := 23) (by decide) (fun z => absurd z (by decide)) (fun _ => ?_)
  refine v_aload_n C (oX9_longOne.at 4 rfl) rfl ?_
  refine v_getf C (oX9_longOne.at 5 rfl) fX9_20 o0 rfl ?_
  refine v_iload_n C (oX9_longOne.at 6 rfl) rfl ?_
  refine v_iald C (oX9_longOne.at 7 rfl) hf (by decide) rfl (by omega) (hL x hx) ?_
  refine v_aload_n C (oX9_longOne.at 8 rfl) rfl ?_
  refine v_getf C (oX9_longOne.at 9 rfl) fX9_13 o0 (congrArg (fun z => some (Value.int z)) (o2.2.1)) ?_
  refine v_iconst C (oX9_longOne.at 10 rfl) (v := nI 1) rfl ?_
  refine v_isubN C (oX9_longOne.at 11 rfl) (by omega) ?_
  refine v_isubN C (oX9_longOne.at 12 rfl) (by omega) ?_
  refine v_goto C (oX9_longOne.at 13 rfl) (tgt := 29) (by decide) ?_
  refine v_istore C (oX9_longOne.at 18 rfl) rfl ?_
  refine v_iconst C (oX9_longOne.at 19 rfl) (v := nI 0) rfl ?_
  refine v_istore C (oX9_longOne.at 20 rfl) rfl ?_
  refine v_aload_n C (oX9_longOne.at 21 rfl) rfl ?_
  refine v_iload_n C (oX9_longOne.at 22 rfl) rfl ?_
  refine v_iload_n C (oX9_longOne.at 23 rfl) rfl ?_
  dsimp only [sto1, sto2, killL]
  refine v_if_eqB C (oX9_longOne.at 24 rfl) (tgt := 44) (by decide) (fun z => absurd z (by decide)) (fun _ => ?_)
  refine v_iconst C (oX9_longOne.at 25 rfl) (v := nI 0) rfl ?_
  refine v_goto C (oX9_longOne.at 26 rfl) (tgt := 45) (by decide) ?_
  refine v_callV C (oX9_longOne.at 28 rfl) cX9_228 o0 (k9_findsWays hR hx (Or.inr ⟨0, by omega, rfl, rfl⟩)) rfl rfl rfl ⟨rfl, rfl⟩ rfl rfl (fun _ => rfl) (fun h' hp => ?_)
  dsimp only [Option.toList, List.cons_append, List.nil_append]
  obtain ⟨g, e, hg⟩ := hp
  have hg : WG S x (baT 0) g := hg
  rw [e]
  suffices H : ∀ d v g, v + d = S.1 ^ (S.2.1 - 1) → sumN (clW S.1 (S.1 ^ (S.2.1 - 1)) S.2.2.1 (rlb S x) (S.2.2.2.1 x)) v ≤ y → WG S x (baT v) g → V X (0, 0) w (hu h 76 (io 144 g)) 48 [some (.ref 62), some (.int (nI x)), some (.int (bI true)), some (.int (nI y)), some (.int (nI (y - sumN (clW S.1 (S.1 ^ (S.2.1 - 1)) S.2.2.1 (rlb S x) (S.2.2.2.1 x)) v))), some (.int (nI (S.2.2.2.1 x - (S.2.1 - 1)))), some (.int (nI v)), none, none, none, none, none] [] from H (S.1 ^ (S.2.1 - 1)) 0 g (by omega) (Nat.zero_le _) hg
  clear hg e
  intro d
  induction d with
  | zero =>
    intro v g hv hs hg
    obtain rfl : v = S.1 ^ (S.2.1 - 1) := by omega
    exact absurd hy (by omega)
  | succ d ih =>
    intro v g hv hs hg
    have ih := ih (v + 1)
    rw [sumN] at ih
    have e1 : g v = nI (clW S.1 (S.1 ^ (S.2.1 - 1)) S.2.2.1 (rlb S x) (S.2.2.2.1 x) v) := hg.at0 (v := v) (by omega)
    have wlv := wl v
    refine v_iload C (oX9_longOne.at 29 rfl) rfl ?_
    refine v_aload_n C (oX9_longOne.at 30 rfl) rfl ?_
    refine v_getf C (oX9_longOne.at 31 rfl) fX9_59 (c0 _) rfl ?_
    refine v_iload C (oX9_longOne.at 32 rfl) rfl ?_
    refine v_iald C (oX9_longOne.at 33 rfl) (hu_s _ _ _) (by decide) rfl (by omega) e1 ?_
    refine v_icmp_ltN C (oX9_longOne.at 34 rfl) (tgt := 89) (by decide) (by omega) (by omega) (fun hc => ?_) (fun hc => ?_)
    · have hse : selS (clW S.1 (S.1 ^ (S.2.1 - 1)) S.2.2.1 (rlb S x) (S.2.2.2.1 x)) y (S.1 ^ (S.2.1 - 1) - 1) = v := sel_eq hs (by rw [sumN]; omega) _ (by omega)
      rw [hse] at C
      exact lo_walk (st := S.2.2.2.1 x - (S.2.1 - 1)) (B := baT v) C (by rw [show S.2.2.2.1 x - (S.2.2.2.1 x - (S.2.1 - 1)) = S.2.1 - 1 by omega]) hR hx (baT_le v) hg (by omega) (by omega) hc ⟨rfl, g, rfl⟩
    · have hd : 0 < d := by
        rcases Nat.eq_zero_or_pos d with q | q
        · have e9 : ∀ m, m = v + 1 → sumN (clW S.1 (S.1 ^ (S.2.1 - 1)) S.2.2.1 (rlb S x) (S.2.2.2.1 x)) m = sumN (clW S.1 (S.1 ^ (S.2.1 - 1)) S.2.2.1 (rlb S x) (S.2.2.2.1 x)) v + clW S.1 (S.1 ^ (S.2.1 - 1)) S.2.2.1 (rlb S x) (S.2.2.2.1 x) v := fun m hm => by rw [hm]; rfl
          rw [e9 _ (by omega)] at hy
          omega
        · exact q
      refine v_iload C (oX9_longOne.at 35 rfl) rfl ?_
      refine v_aload_n C (oX9_longOne.at 36 rfl) rfl ?_
      refine v_getf C (oX9_longOne.at 37 rfl) fX9_59 (c0 _) rfl ?_
      refine v_iload C (oX9_longOne.at 38 rfl) rfl ?_
      refine v_iald C (oX9_longOne.at 39 rfl) (hu_s _ _ _) (by decide) rfl (by omega) e1 ?_
      refine v_isubN C (oX9_longOne.at 40 rfl) (by omega) ?_
      refine v_istore C (oX9_longOne.at 41 rfl) rfl ?_
      refine v_iincN C (oX9_longOne.at 42 rfl) rfl ?_
      refine v_iload_n C (oX9_longOne.at 43 rfl) rfl ?_
      dsimp only [sto1, sto2, killL]
      refine v_if_eqB C (oX9_longOne.at 44 rfl) (tgt := 48) (by decide) (fun z => absurd z (by decide)) (fun _ => ?_)
      refine v_aload_n C (oX9_longOne.at 45 rfl) rfl ?_
      refine v_iload_n C (oX9_longOne.at 46 rfl) rfl ?_
      refine v_iload C (oX9_longOne.at 47 rfl) rfl ?_
      refine v_callV C (oX9_longOne.at 48 rfl) cX9_228 (c0 _) (k9_findsWays (cR g) hx (Or.inr ⟨v + 1, by omega, rfl, rfl⟩)) rfl rfl rfl ⟨rfl, rfl⟩ rfl rfl (fun _ => rfl) (fun h' hp => ?_)
      dsimp only [Option.toList, List.cons_append, List.nil_append]
      obtain ⟨g', e, hg'⟩ := hp
      rw [e, hu_hu]
      refine v_goto C (oX9_longOne.at 49 rfl) (tgt := 48) (by decide) ?_
      have := ih g' (by omega) (by omega) hg'
      rw [show y - (sumN (clW S.1 (S.1 ^ (S.2.1 - 1)) S.2.2.1 (rlb S x) (S.2.2.2.1 x)) v + clW S.1 (S.1 ^ (S.2.1 - 1)) S.2.2.1 (rlb S x) (S.2.2.2.1 x) v) = y - sumN (clW S.1 (S.1 ^ (S.2.1 - 1)) S.2.2.1 (rlb S x) (S.2.2.2.1 x)) v - clW S.1 (S.1 ^ (S.2.1 - 1)) S.2.2.1 (rlb S x) (S.2.2.2.1 x) v by omega] at this
      exact this
theorem k9_shortOne {w : Wt} {G h : Hp} {th : Nat} {S Z : Sc} {sv : Bool} {F : Sf} {x n y : Nat} (hR : RF G h th S sv Z F) (hx : x < 4) (hy : y < S.1 ^ S.2.2.2.1 x) (hc0 : cimg S.1 S.2.1 S.2.2.1 (S.2.2.2.1 x) y = S.2.2.2.2 x) (hn : cnt (fun z => decide (cimg S.1 S.2.1 S.2.2.1 (S.2.2.2.1 x) z = S.2.2.2.2 x)) y = n) : ConN mX9_shortOne 2 (0, 0) w [.ref 62, .int (nI x), .int (nI n)] h (.inl (some (.int (nI y)))) (fun h' => h' = h) := by
  obtain ⟨u, o0, o1, o2⟩ := hR.o
  obtain ⟨f, hf, hL⟩ := hR.rl
  obtain ⟨e, he, hI⟩ := hR.ri
  obtain ⟨t, ht, hT⟩ := hR.tk
  obtain ⟨b1, b2⟩ := hR.so.2 x hx
  have hk := hR.so.1.k
  have p4 := pw14 hk (n := S.2.2.2.1 x) (by omega)
  have hcl := cimg_lt (k := S.1) (wd := S.2.1) (T := S.2.2.1) (by omega) (fun i hi => (hT i hi).2) (S.2.2.2.1 x)
  refine conI (by decide +kernel) ⟨fun _ => rfl, rfl, by simp⟩ (fun X C => ?_)
  change V X (0, 0) w h 0 [some (.ref 62), some (.int (nI x)), some (.int (nI n)), none, none] []
  refine v_iload_n C (oX9_shortOne.at 0 rfl) rfl ?_
  refine v_istore_n C (oX9_shortOne.at 1 rfl) rfl ?_
  refine v_iconst C (oX9_shortOne.at 2 rfl) (v := nI 0) rfl ?_
  refine v_istore C (oX9_shortOne.at 3 rfl) rfl ?_
  dsimp only [sto1, sto2, killL]
  suffices H : ∀ d i, i + d = y → V X (0, 0) w h 5 [some (.ref 62), some (.int (nI x)), some (.int (nI n)), some (.int (nI (n - cnt (fun z => decide (cimg S.1 S.2.1 S.2.2.1 (S.2.2.2.1 x) z = S.2.2.2.2 x)) i))), some (.int (nI i))] [] from H y 0 (by omega)
  intro d
  induction d with
  | zero =>
    intro i hi
    obtain rfl : i = y := by omega
    have hci := hcl i
    rw [hn, Nat.sub_self]
    refine v_iload C (oX9_shortOne.at 4 rfl) rfl ?_
    refine v_aload_n C (oX9_shortOne.at 5 rfl) rfl ?_
    refine v_aload_n C (oX9_shortOne.at 6 rfl) rfl ?_
    refine v_getf C (oX9_shortOne.at 7 rfl) fX9_20 o0 rfl ?_
    refine v_iload_n C (oX9_shortOne.at 8 rfl) rfl ?_
    refine v_iald C (oX9_shortOne.at 9 rfl) hf (by decide) rfl (by omega) (hL x hx) ?_
    refine v_callV C (oX9_shortOne.at 10 rfl) cX9_99 o0 (k9_powerR hR (by omega)) rfl rfl rfl ⟨rfl, rfl⟩ rfl rfl (fun _ => rfl) (fun h' hp => ?_)
    rw [show h' = _ from hp]
    dsimp only [Option.toList, List.cons_append, List.nil_append]
    refine v_icmp_geN C (oX9_shortOne.at 11 rfl) (tgt := 60) (by decide) (by omega) (by omega) (fun hc => absurd hc (by omega)) (fun hc => ?_)
    refine v_aload_n C (oX9_shortOne.at 12 rfl) rfl ?_
    refine v_iload C (oX9_shortOne.at 13 rfl) rfl ?_
    refine v_aload_n C (oX9_shortOne.at 14 rfl) rfl ?_
    refine v_getf C (oX9_shortOne.at 15 rfl) fX9_20 o0 rfl ?_
    refine v_iload_n C (oX9_shortOne.at 16 rfl) rfl ?_
    refine v_iald C (oX9_shortOne.at 17 rfl) hf (by decide) rfl (by omega) (hL x hx) ?_
    refine v_callV C (oX9_shortOne.at 18 rfl) cX9_219 o0 (k9_cycR hR (by omega) b1) rfl rfl rfl ⟨rfl, rfl⟩ rfl rfl (fun _ => rfl) (fun h' hp => ?_)
    rw [show h' = _ from hp]
    dsimp only [Option.toList, List.cons_append, List.nil_append]
    refine v_aload_n C (oX9_shortOne.at 19 rfl) rfl ?_
    refine v_getf C (oX9_shortOne.at 20 rfl) fX9_23 o0 rfl ?_
    refine v_iload_n C (oX9_shortOne.at 21 rfl) rfl ?_
    refine v_iald C (oX9_shortOne.at 22 rfl) he (by decide) rfl (by omega) (hI x hx) ?_
    refine v_icmp_eqN C (oX9_shortOne.at 23 rfl) (tgt := 44) (by decide) (by omega) (by omega) (fun hc => ?_) (fun hc => absurd hc (by omega))
    refine v_iload_n C (oX9_shortOne.at 25 rfl) rfl ?_
    refine v_if_neN C (oX9_shortOne.at 26 rfl) (tgt := 51) (by decide) (by omega) (fun hc => absurd hc (by omega)) (fun hc => ?_)
    refine v_iload C (oX9_shortOne.at 27 rfl) rfl ?_
    exact v_iret C (oX9_shortOne.at 28 rfl) rfl rfl ⟨Nat.le_refl _, Nat.le_refl _⟩ ⟨rfl, rfl⟩
  | succ d ih =>
    intro i hi
    have ih := ih (i + 1) (by omega)
    rw [cnt] at ih
    have hci := hcl i
    have hcm : cnt (fun z => decide (cimg S.1 S.2.1 S.2.2.1 (S.2.2.2.1 x) z = S.2.2.2.2 x)) (i + 1) ≤ n := by rw [← hn]; exact cnt_mono _ (by omega)
    rw [cnt] at hcm
    have hcy := cnt_le (fun z => decide (cimg S.1 S.2.1 S.2.2.1 (S.2.2.2.1 x) z = S.2.2.2.2 x)) y
    refine v_iload C (oX9_shortOne.at 4 rfl) rfl ?_
    refine v_aload_n C (oX9_shortOne.at 5 rfl) rfl ?_
    refine v_aload_n C (oX9_shortOne.at 6 rfl) rfl ?_
    refine v_getf C (oX9_shortOne.at 7 rfl) fX9_20 o0 rfl ?_
    refine v_iload_n C (oX9_shortOne.at 8 rfl) rfl ?_
    refine v_iald C (oX9_shortOne.at 9 rfl) hf (by decide) rfl (by omega) (hL x hx) ?_
    refine v_callV C (oX9_shortOne.at 10 rfl) cX9_99 o0 (k9_powerR hR (by omega)) rfl rfl rfl ⟨rfl, rfl⟩ rfl rfl (fun _ => rfl) (fun h' hp => ?_)
    rw [show h' = _ from hp]
    dsimp only [Option.toList, List.cons_append, List.nil_append]
    refine v_icmp_geN C (oX9_shortOne.at 11 rfl) (tgt := 60) (by decide) (by omega) (by omega) (fun hc => absurd hc (by omega)) (fun hc => ?_)
    refine v_aload_n C (oX9_shortOne.at 12 rfl) rfl ?_
    refine v_iload C (oX9_shortOne.at 13 rfl) rfl ?_
    refine v_aload_n C (oX9_shortOne.at 14 rfl) rfl ?_
    refine v_getf C (oX9_shortOne.at 15 rfl) fX9_20 o0 rfl ?_
    refine v_iload_n C (oX9_shortOne.at 16 rfl) rfl ?_
    refine v_iald C (oX9_shortOne.at 17 rfl) hf (by decide) rfl (by omega) (hL x hx) ?_
    refine v_callV C (oX9_shortOne.at 18 rfl) cX9_219 o0 (k9_cycR hR (by omega) b1) rfl rfl rfl ⟨rfl, rfl⟩ rfl rfl (fun _ => rfl) (fun h' hp => ?_)
    rw [show h' = _ from hp]
    dsimp only [Option.toList, List.cons_append, List.nil_append]
    refine v_aload_n C (oX9_shortOne.at 19 rfl) rfl ?_
    refine v_getf C (oX9_shortOne.at 20 rfl) fX9_23 o0 rfl ?_
    refine v_iload_n C (oX9_shortOne.at 21 rfl) rfl ?_
    refine v_iald C (oX9_shortOne.at 22 rfl) he (by decide) rfl (by omega) (hI x hx) ?_
    refine v_icmp_eqN C (oX9_shortOne.at 23 rfl) (tgt := 44) (by decide) (by omega) (by omega) (fun hc => ?_) (fun hc => ?_)
    · rw [if_pos (decide_eq_true hc)] at ih hcm
      refine v_iload_n C (oX9_shortOne.at 25 rfl) rfl ?_
      refine v_if_neN C (oX9_shortOne.at 26 rfl) (tgt := 51) (by decide) (by omega) (fun hc => ?_) (fun hc => absurd hc (by omega))
      obtain ⟨q, hq⟩ : ∃ q, n - cnt (fun z => decide (cimg S.1 S.2.1 S.2.2.1 (S.2.2.2.1 x) z = S.2.2.2.2 x)) i = q + 1 := ⟨n - cnt (fun z => decide (cimg S.1 S.2.1 S.2.2.1 (S.2.2.2.1 x) z = S.2.2.2.2 x)) i - 1, by omega⟩
      rw [hq]
      rw [show n - (cnt (fun z => decide (cimg S.1 S.2.1 S.2.2.1 (S.2.2.2.1 x) z = S.2.2.2.2 x)) i + 1) = q by omega] at ih
      refine v_idecN C (oX9_shortOne.at 29 rfl) rfl ?_
      refine v_iincN C (oX9_shortOne.at 30 rfl) rfl ?_
      refine v_goto C (oX9_shortOne.at 31 rfl) (tgt := 5) (by decide) ?_
      dsimp only [sto1, sto2, killL]
      exact ih
    · rw [if_neg (by simp [hc])] at ih
      refine v_goto C (oX9_shortOne.at 24 rfl) (tgt := 54) (by decide) ?_
      refine v_iincN C (oX9_shortOne.at 30 rfl) rfl ?_
      refine v_goto C (oX9_shortOne.at 31 rfl) (tgt := 5) (by decide) ?_
      dsimp only [sto1, sto2, killL]
      exact ih
