/-! ===== the reference: ways ===== -/
theorem vs_lt {k wd v s : Nat} (hz : SZ k wd) (hv : v < k ^ (wd - 1)) (hs : s < k) : v * k + s < k ^ wd := by
  have h1 : (v + 1) * k ≤ k ^ (wd - 1) * k := Nat.mul_le_mul_right k hv
  rw [hz.nk, Nat.add_mul, Nat.one_mul] at h1
  omega
theorem goal_eq {k wd v s : Nat} (hz : SZ k wd) (hs : s < k) : v % k ^ (wd - 2) * k + s = (v * k + s) % k ^ (wd - 1) := by
  have hw := hz.w
  have hk := hz.k
  rw [show wd - 1 = (wd - 2) + 1 by omega, mod_mul_s]
  rw [show (v * k + s) / k = v by rw [Nat.mul_comm, Nat.mul_add_div (by omega), Nat.div_eq_of_lt hs, Nat.add_zero], show (v * k + s) % k = s by rw [Nat.mul_comm, Nat.mul_add_mod, Nat.mod_eq_of_lt hs]]
theorem k9_labelR {w : Wt} {G h : Hp} {th : Nat} {S Z : Sc} {sv : Bool} {F : Sf} {v s : Nat} (hR : RF G h th S sv Z F) (hv : v < S.1 ^ (S.2.1 - 1)) (hs : s < S.1) : ConN mX9_label 0 (0, 0) w [.ref 62, .int (nI v), .int (nI s)] h (.inl (some (.int (nI (S.2.2.1 (v * S.1 + s)))))) (fun h' => h' = h) := by
  obtain ⟨u, o0, o1, o2⟩ := hR.o
  obtain ⟨f, hf, hT⟩ := hR.tk
  have hm := hR.so.1.m
  have hl := vs_lt hR.so.1 hv hs
  exact k9_label (wd := 0) o0 o2.1 hf (hT _ hl).1 (by omega)
theorem k9_goalR {w : Wt} {G h : Hp} {th : Nat} {S Z : Sc} {sv : Bool} {F : Sf} {v s : Nat} (hR : RF G h th S sv Z F) (hv : v < S.1 ^ (S.2.1 - 1)) (hs : s < S.1) : ConN mX9_goal 1 (0, 0) w [.ref 62, .int (nI v), .int (nI s)] h (.inl (some (.int (nI ((v * S.1 + s) % S.1 ^ (S.2.1 - 1)))))) (fun h' => h' = h) := by
  obtain ⟨u, o0, o1, o2⟩ := hR.o
  have hn := hR.so.1.n
  have := k9_goal (w := w) (s := s) (v := v) o0 o2.1 o2.2.1 hR.so.1 (by omega)
  rw [goal_eq hR.so.1 hs] at this
  exact this
theorem k9_nodesR {w : Wt} {G h : Hp} {th : Nat} {S Z : Sc} {sv : Bool} {F : Sf} (hR : RF G h th S sv Z F) : ConN mX9_nodes 1 (0, 0) w [.ref 62] h (.inl (some (.int (nI (S.1 ^ (S.2.1 - 1)))))) (fun h' => h' = h) := by
  obtain ⟨u, o0, o1, o2⟩ := hR.o
  have hw := hR.so.1.w
  exact k9_nodes o0 o2.1 o2.2.1 (by omega) (by omega)
theorem k9_powerR {w : Wt} {G h : Hp} {th : Nat} {S Z : Sc} {sv : Bool} {F : Sf} {n : Nat} (hR : RF G h th S sv Z F) (hn : n < 2 ^ 31) : ConN mX9_power 0 (0, 0) w [.ref 62, .int (nI n)] h (.inl (some (.int (nI (S.1 ^ n))))) (fun h' => h' = h) := by
  obtain ⟨u, o0, o1, o2⟩ := hR.o
  exact k9_power o0 o2.1 hn
theorem k9_allR {w : Wt} {G h : Hp} {th : Nat} {S Z : Sc} {sv : Bool} {F : Sf} (hR : RF G h th S sv Z F) : ConN mX9_all 1 (0, 0) w [.ref 62] h (.inl (some (.int (nI (S.1 ^ S.2.1))))) (fun h' => h' = h) := by
  obtain ⟨u, o0, o1, o2⟩ := hR.o
  have hw := hR.so.1.w
  exact k9_all o0 o2.1 o2.2.1 (by omega)
theorem k9_cycR {w : Wt} {G h : Hp} {th : Nat} {S Z : Sc} {sv : Bool} {F : Sf} {L x : Nat} (hR : RF G h th S sv Z F) (hx : x < 2 ^ 31) (hL : L ≤ 14) : ConN mX9_cyclicImage 1 (0, 0) w [.ref 62, .int (nI x), .int (nI L)] h (.inl (some (.int (nI (cimg S.1 S.2.1 S.2.2.1 L x))))) (fun h' => h' = h) := by
  obtain ⟨u, o0, o1, o2⟩ := hR.o
  obtain ⟨f, hf, hT⟩ := hR.tk
  exact k9_cyclicImage o0 o2.1 o2.2.1 hR.so.1 hx hL hf (fun i hi => (hT i hi).1)
theorem k9_imgR {w : Wt} {G h : Hp} {th : Nat} {S Z : Sc} {sv : Bool} {F : Sf} {L x : Nat} (hR : RF G h th S sv Z F) (hx : x < 2 ^ 31) (hL : L ≤ 17) (hwL : S.2.1 ≤ L) : ConN mX9_imageOf 1 (0, 0) w [.ref 62, .int (nI x), .int (nI L), .ref 63, .int (nI S.2.1)] h (.inl (some (.int (nI (limg S.1 S.2.1 S.2.2.1 L x))))) (fun h' => h' = h) := by
  obtain ⟨u, o0, o1, o2⟩ := hR.o
  obtain ⟨f, hf, hT⟩ := hR.tk
  exact k9_imageOf o0 o2.1 hR.so.1 hx hL hwL hf (fun i hi => (hT i hi).1)
/-- the last row of ways that last asks for -/
def LB (last : Int32) (B : Nat → Nat) : Prop := (last = -1 ∧ B = baA) ∨ ∃ l, l < 9 ∧ last = nI l ∧ B = baT l
theorem k9_findsWays {w : Wt} {G h : Hp} {th : Nat} {S Z : Sc} {sv : Bool} {F : Sf} {x : Nat} {last : Int32} {B : Nat → Nat} (hR : RF G h th S sv Z F) (hx : x < 4) (hB : LB last B) : ConN mX9_findsWays 2 (0, 0) w [.ref 62, .int (nI x), .int last] h (.inl none) (fun h' => ∃ g, h' = hu h 76 (io 144 g) ∧ ∀ i v, i ≤ S.2.2.2.1 x → v < S.1 ^ (S.2.1 - 1) → g (9 * i + v) = nI (wB S.1 (S.1 ^ (S.2.1 - 1)) S.2.2.1 (rlb S x) (S.2.2.2.1 x) B (S.2.2.2.1 x - i) v)) := by
  obtain ⟨u, o0, o1, o2⟩ := hR.o
  obtain ⟨f, hf, hL⟩ := hR.rl
  obtain ⟨b1, b2⟩ := hR.so.2 x hx
  have hk := hR.so.1.k
  have hn9 := hR.so.1.n
  have hn0 := hR.so.1.n0
  obtain ⟨g0, hg0⟩ := hR.sc (i := 76) (Or.inl ⟨by decide, by decide⟩)
  have hg0 : h 76 = io 144 g0 := hg0
  have c0 : ∀ y, hu h 76 y 62 = MO u := fun y => (hu_n _ _ (by decide)).trans o0
  have c4 : ∀ y, hu h 76 y 64 = io 4 f := fun y => (hu_n _ _ (by decide)).trans hf
  have cR : ∀ g', RF G (hu h 76 (io 144 g')) th S sv Z F := fun g' => hR.set_r (i := 76) (Or.inl ⟨by decide, by decide⟩)
  generalize hln : S.2.2.2.1 x = len at *
  generalize hnn : S.1 ^ (S.2.1 - 1) = n at *
  refine conI (by decide +kernel) ⟨fun _ => rfl, rfl, by simp⟩ (fun X C => ?_)
  change V X (0, 0) w h 0 [some (.ref 62), some (.int (nI x)), some (.int last), none, none, none, none, none] []
  refine v_aload_n C (oX9_findsWays.at 0 rfl) rfl ?_
  refine v_callV C (oX9_findsWays.at 1 rfl) cX9_118 o0 (hnn ▸ k9_nodesR hR) rfl rfl rfl ⟨rfl, rfl⟩ rfl rfl (fun _ => rfl) (fun h' hp => ?_)
  rw [show h' = _ from hp]
  dsimp only [Option.toList, List.cons_append, List.nil_append]
  refine v_istore_n C (oX9_findsWays.at 2 rfl) rfl ?_
  refine v_iconst C (oX9_findsWays.at 3 rfl) (v := nI 0) rfl ?_
  refine v_istore C (oX9_findsWays.at 4 rfl) rfl ?_
  dsimp only [sto1, sto2, killL]
  have L2 : ∀ a g y5 y6 y7, a ≤ len → (∀ i v, a ≤ i → i ≤ len → v < n → g (9 * i + v) = nI (wB S.1 n S.2.2.1 (rlb S x) len B (len - i) v)) → V X (0, 0) w (hu h 76 (io 144 g)) 62 [some (.ref 62), some (.int (nI x)), some (.int last), some (.int (nI n)), some (.int (pI a)), y5, y6, y7] [] := by
    intro a
    induction a with
    | zero =>
      intro g y5 y6 y7 ha hI
      refine v_iload C (oX9_findsWays.at 36 rfl) rfl ?_
      refine v_if_ltP C (oX9_findsWays.at 37 rfl) (tgt := 172) (by decide) (by omega) (fun hc => ?_) (fun b hc => ?_)
      · exact v_vret C (oX9_findsWays.at 93 rfl) rfl rfl ⟨Nat.le_refl _, Nat.le_refl _⟩ ⟨rfl, g, rfl, fun i v hi hv => hI i v (Nat.zero_le _) hi hv⟩
      · cases hc
    | succ a ih =>
      intro g y5 y6 y7 ha hI
      refine v_iload C (oX9_findsWays.at 36 rfl) rfl ?_
      refine v_if_ltP C (oX9_findsWays.at 37 rfl) (tgt := 172) (by decide) (by omega) (fun hc => ?_) (fun b hc => ?_)
      · cases hc
      · cases hc
        rw [pI_succ]
        have hce : cel S.1 (S.2.2.2.1 x) (S.2.2.2.2 x) a = rlb S x a := rfl
        have L3 : ∀ e v g y6 y7, v + e = n → (∀ i v, a + 1 ≤ i → i ≤ len → v < n → g (9 * i + v) = nI (wB S.1 n S.2.2.1 (rlb S x) len B (len - i) v)) → (∀ v', v' < v → g (9 * a + v') = nI (wB S.1 n S.2.2.1 (rlb S x) len B (len - a) v')) → V X (0, 0) w (hu h 76 (io 144 g)) 70 [some (.ref 62), some (.int (nI x)), some (.int last), some (.int (nI n)), some (.int (nI a)), some (.int (nI v)), y6, y7] [] := by
          intro e
          induction e with
          | zero =>
            intro v g y6 y7 hv hI1 hI2
            obtain rfl : v = n := by omega
            refine v_iload C (oX9_findsWays.at 40 rfl) rfl ?_
            refine v_iload_n C (oX9_findsWays.at 41 rfl) rfl ?_
            refine v_icmp_geN C (oX9_findsWays.at 42 rfl) (tgt := 166) (by decide) (by omega) (by omega) (fun hc => ?_) (fun hc => absurd hc (by omega))
            refine v_idecP C (oX9_findsWays.at 91 rfl) rfl ?_
            refine v_goto C (oX9_findsWays.at 92 rfl) (tgt := 62) (by decide) ?_
            dsimp only [sto1, sto2, killL]
            refine ih g _ _ _ (by omega) (fun i v' h1 h2 h3 => ?_)
            by_cases e : i = a
            · subst e; exact hI2 v' h3
            · exact hI1 i v' (by omega) h2 h3
          | succ e ihe =>
            intro v g y6 y7 hv hI1 hI2
            have ej : len - a = (len - (a + 1)) + 1 := by omega
            have el : len - 1 - (len - (a + 1)) = a := by omega
            refine v_iload C (oX9_findsWays.at 40 rfl) rfl ?_
            refine v_iload_n C (oX9_findsWays.at 41 rfl) rfl ?_
            refine v_icmp_geN C (oX9_findsWays.at 42 rfl) (tgt := 166) (by decide) (by omega) (by omega) (fun hc => absurd hc (by omega)) (fun hc => ?_)
            refine v_iconst C (oX9_findsWays.at 43 rfl) (v := nI 0) rfl ?_
            refine v_istore C (oX9_findsWays.at 44 rfl) rfl ?_
            refine v_iconst C (oX9_findsWays.at 45 rfl) (v := nI 0) rfl ?_
            refine v_istore C (oX9_findsWays.at 46 rfl) rfl ?_
            dsimp only [sto1, sto2, killL]
            suffices H4 : ∀ q s, s + q = S.1 → V X (0, 0) w (hu h 76 (io 144 g)) 82 [some (.ref 62), some (.int (nI x)), some (.int last), some (.int (nI n)), some (.int (nI a)), some (.int (nI v)), some (.int (nI (sumN (wf1 S.1 n S.2.2.1 (rlb S x) len B (len - (a + 1)) v) s))), some (.int (nI s))] [] from H4 S.1 0 (by omega)
            intro q
            induction q with
            | zero =>
              intro s hs
              obtain rfl : s = S.1 := by omega
              refine v_iload C (oX9_findsWays.at 47 rfl) rfl ?_
              refine v_aload_n C (oX9_findsWays.at 48 rfl) rfl ?_
              refine v_getf C (oX9_findsWays.at 49 rfl) fX9_7 (c0 _) (congrArg (fun z => some (Value.int z)) (o2.1)) ?_
              refine v_icmp_geN C (oX9_findsWays.at 50 rfl) (tgt := 145) (by decide) (by omega) (by omega) (fun hc => ?_) (fun hc => absurd hc (by omega))
              refine v_aload_n C (oX9_findsWays.at 80 rfl) rfl ?_
              refine v_getf C (oX9_findsWays.at 81 rfl) fX9_59 (c0 _) rfl ?_
              refine v_bipush C (oX9_findsWays.at 82 rfl) (v := nI 9) rfl ?_
              refine v_iload C (oX9_findsWays.at 83 rfl) rfl ?_
              refine v_imulN C (oX9_findsWays.at 84 rfl) ?_
              refine v_iload C (oX9_findsWays.at 85 rfl) rfl ?_
              refine v_iaddN C (oX9_findsWays.at 86 rfl) ?_
              refine v_iload C (oX9_findsWays.at 87 rfl) rfl ?_
              refine v_iast C (oX9_findsWays.at 88 rfl) (hu_s _ _ _) (by decide) rfl (by omega) ?_
              rw [hu_hu]
              refine v_iincN C (oX9_findsWays.at 89 rfl) rfl ?_
              refine v_goto C (oX9_findsWays.at 90 rfl) (tgt := 70) (by decide) ?_
              dsimp only [sto1, sto2, killL]
              refine ihe (v + 1) _ _ _ (by omega) (fun i v' h1 h2 h3 => ?_) (fun v' hv' => ?_)
              · rw [pk_un (by omega)]; exact hI1 i v' h1 h2 h3
              · by_cases e : v' = v
                · rw [e, pk_us, ej, wB]; rfl
                · rw [pk_un (by omega)]; exact hI2 v' (by omega)
            | succ q ihq =>
              intro s hs
              have ihq := ihq (s + 1) (by omega)
              rw [sumN] at ihq
              have hgl : (v * S.1 + s) % n < n := Nat.mod_lt _ hn0
              have hT1 : S.2.2.1 (v * S.1 + s) < 2 ^ 31 := by
                obtain ⟨f9, -, hT9⟩ := hR.tk
                have := (hT9 _ (vs_lt hR.so.1 (show v < S.1 ^ (S.2.1 - 1) by omega) (show s < S.1 by omega))).2
                omega
              have hT2 : cel S.1 (S.2.2.2.1 x) (S.2.2.2.2 x) a < S.1 := cel_lt (by omega)
              have ev : wf1 S.1 n S.2.2.1 (rlb S x) len B (len - (a + 1)) v s = if S.2.2.1 (v * S.1 + s) = rlb S x a then wB S.1 n S.2.2.1 (rlb S x) len B (len - (a + 1)) ((v * S.1 + s) % n) else 0 := by unfold wf1; rw [el]
              have kl := k9_labelR (w := w) (v := v) (s := s) (cR g) (by omega) (by omega)
              have kg := k9_goalR (w := w) (v := v) (s := s) (cR g) (by omega) (by omega)
              rw [hnn] at kg
              have kc := k9_cellOf (w := w) (x := x) (c := a) (cR g) hx (by omega)
              refine v_iload C (oX9_findsWays.at 47 rfl) rfl ?_
              refine v_aload_n C (oX9_findsWays.at 48 rfl) rfl ?_
              refine v_getf C (oX9_findsWays.at 49 rfl) fX9_7 (c0 _) (congrArg (fun z => some (Value.int z)) (o2.1)) ?_
              refine v_icmp_geN C (oX9_findsWays.at 50 rfl) (tgt := 145) (by decide) (by omega) (by omega) (fun hc => ?_) (fun hc => ?_)
              · exact absurd hc (by omega)
              · refine v_iload C (oX9_findsWays.at 51 rfl) rfl ?_
                refine v_aload_n C (oX9_findsWays.at 52 rfl) rfl ?_
                refine v_iload C (oX9_findsWays.at 53 rfl) rfl ?_
                refine v_iload C (oX9_findsWays.at 54 rfl) rfl ?_
                refine v_callV C (oX9_findsWays.at 55 rfl) cX9_222 (c0 _) (kl) rfl rfl rfl ⟨rfl, rfl⟩ rfl rfl (fun _ => rfl) (fun h' hp => ?_)
                rw [show h' = _ from hp]
                dsimp only [Option.toList, List.cons_append, List.nil_append]
                refine v_aload_n C (oX9_findsWays.at 56 rfl) rfl ?_
                refine v_iload_n C (oX9_findsWays.at 57 rfl) rfl ?_
                refine v_iload C (oX9_findsWays.at 58 rfl) rfl ?_
                refine v_callV C (oX9_findsWays.at 59 rfl) cX9_216 (c0 _) (kc) rfl rfl rfl ⟨rfl, rfl⟩ rfl rfl (fun _ => rfl) (fun h' hp => ?_)
                rw [show h' = _ from hp]
                dsimp only [Option.toList, List.cons_append, List.nil_append]
                refine v_icmp_neN C (oX9_findsWays.at 60 rfl) (tgt := 135) (by decide) (by omega) (by omega) (fun hc => ?_) (fun hc => ?_)
                · rw [ev, if_neg (by rw [← hce]; exact hc)] at ihq
                  refine v_iconst C (oX9_findsWays.at 75 rfl) (v := nI 0) rfl ?_
                  refine v_iaddN C (oX9_findsWays.at 76 rfl) ?_
                  refine v_istore C (oX9_findsWays.at 77 rfl) rfl ?_
                  refine v_iincN C (oX9_findsWays.at 78 rfl) rfl ?_
                  refine v_goto C (oX9_findsWays.at 79 rfl) (tgt := 82) (by decide) ?_
                  dsimp only [sto1, sto2, killL]
                  exact ihq
                · rw [ev, if_pos (by rw [← hce]; exact hc)] at ihq
                  refine v_aload_n C (oX9_findsWays.at 61 rfl) rfl ?_
                  refine v_getf C (oX9_findsWays.at 62 rfl) fX9_59 (c0 _) rfl ?_
                  refine v_bipush C (oX9_findsWays.at 63 rfl) (v := nI 9) rfl ?_
                  refine v_iload C (oX9_findsWays.at 64 rfl) rfl ?_
                  refine v_iconst C (oX9_findsWays.at 65 rfl) (v := nI 1) rfl ?_
                  refine v_iaddN C (oX9_findsWays.at 66 rfl) ?_
                  refine v_imulN C (oX9_findsWays.at 67 rfl) ?_
                  refine v_aload_n C (oX9_findsWays.at 68 rfl) rfl ?_
                  refine v_iload C (oX9_findsWays.at 69 rfl) rfl ?_
                  refine v_iload C (oX9_findsWays.at 70 rfl) rfl ?_
                  refine v_callV C (oX9_findsWays.at 71 rfl) cX9_225 (c0 _) (kg) rfl rfl rfl ⟨rfl, rfl⟩ rfl rfl (fun _ => rfl) (fun h' hp => ?_)
                  rw [show h' = _ from hp]
                  dsimp only [Option.toList, List.cons_append, List.nil_append]
                  refine v_iaddN C (oX9_findsWays.at 72 rfl) ?_
                  refine v_iald C (oX9_findsWays.at 73 rfl) (hu_s _ _ _) (by decide) rfl (by omega) (hI1 _ _ (Nat.le_refl _) (by omega) hgl) ?_
                  refine v_goto C (oX9_findsWays.at 74 rfl) (tgt := 136) (by decide) ?_
                  refine v_iaddN C (oX9_findsWays.at 76 rfl) ?_
                  refine v_istore C (oX9_findsWays.at 77 rfl) rfl ?_
                  refine v_iincN C (oX9_findsWays.at 78 rfl) rfl ?_
                  refine v_goto C (oX9_findsWays.at 79 rfl) (tgt := 82) (by decide) ?_
                  dsimp only [sto1, sto2, killL]
                  exact ihq
        refine v_iconst C (oX9_findsWays.at 38 rfl) (v := nI 0) rfl ?_
        refine v_istore C (oX9_findsWays.at 39 rfl) rfl ?_
        dsimp only [sto1, sto2, killL]
        exact L3 n 0 g _ _ (by omega) (fun i v h1 h2 h3 => hI i v h1 h2 h3) (fun v' hv' => absurd hv' (by omega))
  suffices L1 : ∀ d v g, v + d = n → (∀ v', v' < v → g (9 * len + v') = nI (B v')) → V X (0, 0) w (hu h 76 (io 144 g)) 8 [some (.ref 62), some (.int (nI x)), some (.int last), some (.int (nI n)), some (.int (nI v)), none, none, none] [] by
    have := L1 n 0 g0 (by omega) (fun v' h => absurd h (by omega))
    rw [hu_id h hg0] at this
    exact this
  intro d
  induction d with
  | zero =>
    intro v g hv hI
    obtain rfl : v = n := by omega
    refine v_iload C (oX9_findsWays.at 5 rfl) rfl ?_
    refine v_iload_n C (oX9_findsWays.at 6 rfl) rfl ?_
    refine v_icmp_geN C (oX9_findsWays.at 7 rfl) (tgt := 52) (by decide) (by omega) (by omega) (fun hc => ?_) (fun hc => absurd hc (by omega))
    refine v_aload_n C (oX9_findsWays.at 29 rfl) rfl ?_
    refine v_getf C (oX9_findsWays.at 30 rfl) fX9_20 (c0 _) rfl ?_
    refine v_iload_n C (oX9_findsWays.at 31 rfl) rfl ?_
    refine v_iald C (oX9_findsWays.at 32 rfl) (c4 _) (by decide) rfl (by omega) (hL x hx) ?_
    refine v_iconst C (oX9_findsWays.at 33 rfl) (v := nI 1) rfl ?_
    refine v_isubP C (oX9_findsWays.at 34 rfl) ?_
    refine v_istore C (oX9_findsWays.at 35 rfl) rfl ?_
    dsimp only [sto1, sto2, killL]
    rw [hln]
    refine L2 len g _ _ _ (Nat.le_refl _) (fun i v' h1 h2 h3 => ?_)
    obtain rfl : i = len := by omega
    rw [Nat.sub_self, wB]
    exact hI v' h3
  | succ d ih =>
    intro v g hv hI
    have fin : ∀ c, c = B v → V X (0, 0) w (hu h 76 (io 144 g)) 45 [some (.ref 62), some (.int (nI x)), some (.int last), some (.int (nI n)), some (.int (nI v)), none, none, none] [.int (nI c), .int (nI (9 * S.2.2.2.1 x + v)), .ref 76] := by
      intro c hc
      refine v_iast C (oX9_findsWays.at 26 rfl) (hu_s _ _ _) (by decide) rfl (by omega) ?_
      rw [hu_hu]
      refine v_iincN C (oX9_findsWays.at 27 rfl) rfl ?_
      refine v_goto C (oX9_findsWays.at 28 rfl) (tgt := 8) (by decide) ?_
      dsimp only [sto1, sto2, killL]
      refine ih (v + 1) _ (by omega) (fun v' hv' => ?_)
      rw [hln]
      by_cases e : v' = v
      · rw [e, pk_us, hc]
      · rw [pk_un (by omega)]; exact hI v' (by omega)
    rcases hB with ⟨rfl, rfl⟩ | ⟨l, hl, rfl, rfl⟩
    · refine v_iload C (oX9_findsWays.at 5 rfl) rfl ?_
      refine v_iload_n C (oX9_findsWays.at 6 rfl) rfl ?_
      refine v_icmp_geN C (oX9_findsWays.at 7 rfl) (tgt := 52) (by decide) (by omega) (by omega) (fun hc => absurd hc (by omega)) (fun hc => ?_)
      refine v_aload_n C (oX9_findsWays.at 8 rfl) rfl ?_
      refine v_getf C (oX9_findsWays.at 9 rfl) fX9_59 (c0 _) rfl ?_
      refine v_bipush C (oX9_findsWays.at 10 rfl) (v := nI 9) rfl ?_
      refine v_aload_n C (oX9_findsWays.at 11 rfl) rfl ?_
      refine v_getf C (oX9_findsWays.at 12 rfl) fX9_20 (c0 _) rfl ?_
      refine v_iload_n C (oX9_findsWays.at 13 rfl) rfl ?_
      refine v_iald C (oX9_findsWays.at 14 rfl) (c4 _) (by decide) rfl (by omega) (hL x hx) ?_
      refine v_imulN C (oX9_findsWays.at 15 rfl) ?_
      refine v_iload C (oX9_findsWays.at 16 rfl) rfl ?_
      refine v_iaddN C (oX9_findsWays.at 17 rfl) ?_
      refine v_iload_n C (oX9_findsWays.at 18 rfl) rfl ?_
      refine v_if_lt C (oX9_findsWays.at 19 rfl) (tgt := 40) (by decide) (fun hc => ?_) (fun hc => absurd (by decide) hc)
      refine v_iconst C (oX9_findsWays.at 23 rfl) (v := nI 1) rfl ?_
      refine v_goto C (oX9_findsWays.at 24 rfl) (tgt := 45) (by decide) ?_
      exact fin 1 rfl
    · refine v_iload C (oX9_findsWays.at 5 rfl) rfl ?_
      refine v_iload_n C (oX9_findsWays.at 6 rfl) rfl ?_
      refine v_icmp_geN C (oX9_findsWays.at 7 rfl) (tgt := 52) (by decide) (by omega) (by omega) (fun hc => absurd hc (by omega)) (fun hc => ?_)
      refine v_aload_n C (oX9_findsWays.at 8 rfl) rfl ?_
      refine v_getf C (oX9_findsWays.at 9 rfl) fX9_59 (c0 _) rfl ?_
      refine v_bipush C (oX9_findsWays.at 10 rfl) (v := nI 9) rfl ?_
      refine v_aload_n C (oX9_findsWays.at 11 rfl) rfl ?_
      refine v_getf C (oX9_findsWays.at 12 rfl) fX9_20 (c0 _) rfl ?_
      refine v_iload_n C (oX9_findsWays.at 13 rfl) rfl ?_
      refine v_iald C (oX9_findsWays.at 14 rfl) (c4 _) (by decide) rfl (by omega) (hL x hx) ?_
      refine v_imulN C (oX9_findsWays.at 15 rfl) ?_
      refine v_iload C (oX9_findsWays.at 16 rfl) rfl ?_
      refine v_iaddN C (oX9_findsWays.at 17 rfl) ?_
      refine v_iload_n C (oX9_findsWays.at 18 rfl) rfl ?_
      refine v_if_ltN C (oX9_findsWays.at 19 rfl) (tgt := 40) (by decide) (by omega) ?_
      refine v_iload_n C (oX9_findsWays.at 20 rfl) rfl ?_
      refine v_iload C (oX9_findsWays.at 21 rfl) rfl ?_
      refine v_icmp_neN C (oX9_findsWays.at 22 rfl) (tgt := 44) (by decide) (by omega) (by omega) (fun hc => ?_) (fun hc => ?_)
      · refine v_iconst C (oX9_findsWays.at 25 rfl) (v := nI 0) rfl ?_
        exact fin 0 (by unfold baT; rw [if_neg (by omega)])
      · refine v_iconst C (oX9_findsWays.at 23 rfl) (v := nI 1) rfl ?_
        refine v_goto C (oX9_findsWays.at 24 rfl) (tgt := 45) (by decide) ?_
        exact fin 1 (by unfold baT; rw [if_pos (by omega)])
theorem k9_between {w : Wt} {G h : Hp} {th : Nat} {S Z : Sc} {sv : Bool} {F : Sf} {x y v : Nat} (hR : RF G h th S sv Z F) (hx : x < 4) (hy : y < S.1 ^ (S.2.1 - 1)) (hv : v < S.1 ^ (S.2.1 - 1)) : ConN mX9_preimagesBetween 3 (0, 0) w [.ref 62, .int (nI x), .int (nI y), .int (nI v)] h (.inl (some (.int (nI (wB S.1 (S.1 ^ (S.2.1 - 1)) S.2.2.1 (rlb S x) (S.2.2.2.1 x) (baT v) (S.2.2.2.1 x) y))))) (fun h' => RF G h' 0 S sv Z F) := by
  have hn9 := hR.so.1.n
  have hn0 := hR.so.1.n0
  refine conI (by decide +kernel) ⟨fun _ => rfl, rfl, by simp⟩ (fun X C => ?_)
  change V X (0, 0) w h 0 [some (.ref 62), some (.int (nI x)), some (.int (nI y)), some (.int (nI v))] []
  refine v_aload_n C (oX9_preimagesBetween.at 0 rfl) rfl ?_
  refine v_iconst C (oX9_preimagesBetween.at 1 rfl) (v := nI 0) rfl ?_
  refine v_thr C (oX9_preimagesBetween.at 2 rfl) fX9_96 hR (fun h1 u1 hR1 q0 qt qm => ?_)
  refine v_iload_n C (oX9_preimagesBetween.at 3 rfl) rfl ?_
  refine v_callS C (oX9_preimagesBetween.at 4 rfl) cX9_210 (k_regT (InB.of hx (by decide))) rfl rfl rfl ⟨rfl, rfl⟩ rfl rfl (fun _ => rfl) (fun h' hp => ?_)
  rw [show h' = _ from hp]
  dsimp only [Option.toList, List.cons_append, List.nil_append]
  refine v_if_eqB C (oX9_preimagesBetween.at 5 rfl) (tgt := 40) (by decide) (fun z => absurd z (by decide)) (fun _ => ?_)
  refine v_iload_n C (oX9_preimagesBetween.at 6 rfl) rfl ?_
  refine v_iconst C (oX9_preimagesBetween.at 7 rfl) (v := nI 0) rfl ?_
  refine v_aload_n C (oX9_preimagesBetween.at 8 rfl) rfl ?_
  refine v_callV C (oX9_preimagesBetween.at 9 rfl) cX9_118 q0 (k9_nodesR hR1) rfl rfl rfl ⟨rfl, rfl⟩ rfl rfl (fun _ => rfl) (fun h' hp => ?_)
  rw [show h' = _ from hp]
  dsimp only [Option.toList, List.cons_append, List.nil_append]
  refine v_iconst C (oX9_preimagesBetween.at 10 rfl) (v := nI 1) rfl ?_
  refine v_isubN C (oX9_preimagesBetween.at 11 rfl) (by omega) ?_
  refine v_callS C (oX9_preimagesBetween.at 12 rfl) cX9_103 (k_inT (S.1 ^ (S.2.1 - 1)) hn0 (by omega) rfl (InB.of hy (by omega))) rfl rfl rfl ⟨rfl, rfl⟩ rfl rfl (fun _ => rfl) (fun h' hp => ?_)
  rw [show h' = _ from hp]
  dsimp only [Option.toList, List.cons_append, List.nil_append]
  refine v_if_eqB C (oX9_preimagesBetween.at 13 rfl) (tgt := 40) (by decide) (fun z => absurd z (by decide)) (fun _ => ?_)
  refine v_iload_n C (oX9_preimagesBetween.at 14 rfl) rfl ?_
  refine v_iconst C (oX9_preimagesBetween.at 15 rfl) (v := nI 0) rfl ?_
  refine v_aload_n C (oX9_preimagesBetween.at 16 rfl) rfl ?_
  refine v_callV C (oX9_preimagesBetween.at 17 rfl) cX9_118 q0 (k9_nodesR hR1) rfl rfl rfl ⟨rfl, rfl⟩ rfl rfl (fun _ => rfl) (fun h' hp => ?_)
  rw [show h' = _ from hp]
  dsimp only [Option.toList, List.cons_append, List.nil_append]
  refine v_iconst C (oX9_preimagesBetween.at 18 rfl) (v := nI 1) rfl ?_
  refine v_isubN C (oX9_preimagesBetween.at 19 rfl) (by omega) ?_
  refine v_callS C (oX9_preimagesBetween.at 20 rfl) cX9_103 (k_inT (S.1 ^ (S.2.1 - 1)) hn0 (by omega) rfl (InB.of hv (by omega))) rfl rfl rfl ⟨rfl, rfl⟩ rfl rfl (fun _ => rfl) (fun h' hp => ?_)
  rw [show h' = _ from hp]
  dsimp only [Option.toList, List.cons_append, List.nil_append]
  refine v_if_neB C (oX9_preimagesBetween.at 21 rfl) (tgt := 46) (by decide) (fun _ => ?_) (fun z => absurd z (by decide))
  refine v_aload_n C (oX9_preimagesBetween.at 26 rfl) rfl ?_
  refine v_iload_n C (oX9_preimagesBetween.at 27 rfl) rfl ?_
  refine v_iload_n C (oX9_preimagesBetween.at 28 rfl) rfl ?_
  refine v_callV C (oX9_preimagesBetween.at 29 rfl) cX9_228 q0 (k9_findsWays hR1 hx (Or.inr ⟨v, by omega, rfl, rfl⟩)) rfl rfl rfl ⟨rfl, rfl⟩ rfl rfl (fun _ => rfl) (fun h' hp => ?_)
  dsimp only [Option.toList, List.cons_append, List.nil_append]
  obtain ⟨g, e, hg⟩ := hp
  rw [e]
  have e0 := hg 0 y (Nat.zero_le _) hy
  rw [Nat.mul_zero, Nat.zero_add, Nat.sub_zero] at e0
  refine v_aload_n C (oX9_preimagesBetween.at 30 rfl) rfl ?_
  refine v_getf C (oX9_preimagesBetween.at 31 rfl) fX9_59 ((hu_n _ _ (by decide)).trans q0) rfl ?_
  refine v_iload_n C (oX9_preimagesBetween.at 32 rfl) rfl ?_
  refine v_iald C (oX9_preimagesBetween.at 33 rfl) (hu_s _ _ _) (by decide) rfl (by omega) e0 ?_
  exact v_iret C (oX9_preimagesBetween.at 34 rfl) rfl rfl ⟨Nat.le_refl _, Nat.le_refl _⟩ ⟨rfl, hR1.set_r (i := 76) (Or.inl ⟨by decide, by decide⟩)⟩
theorem k9_betweenR {w : Wt} {G h : Hp} {th : Nat} {S Z : Sc} {sv : Bool} {F : Sf} {x y v : Int32} (hR : RF G h th S sv Z F) (hx : ¬ InB x 4) : ConN mX9_preimagesBetween 3 (0, 0) w [.ref 62, .int x, .int y, .int v] h (.inl (some (.int (nI 0)))) (fun h' => RF G h' 1 S sv Z F) := by
  refine conI (by decide +kernel) ⟨fun _ => rfl, rfl, by simp⟩ (fun X C => ?_)
  change V X (0, 0) w h 0 [some (.ref 62), some (.int x), some (.int y), some (.int v)] []
  refine v_aload_n C (oX9_preimagesBetween.at 0 rfl) rfl ?_
  refine v_iconst C (oX9_preimagesBetween.at 1 rfl) (v := nI 0) rfl ?_
  refine v_thr C (oX9_preimagesBetween.at 2 rfl) fX9_96 hR (fun h1 u1 hR1 q0 qt qm => ?_)
  refine v_iload_n C (oX9_preimagesBetween.at 3 rfl) rfl ?_
  refine v_callS C (oX9_preimagesBetween.at 4 rfl) cX9_210 (k_regF hx) rfl rfl rfl ⟨rfl, rfl⟩ rfl rfl (fun _ => rfl) (fun h' hp => ?_)
  rw [show h' = _ from hp]
  dsimp only [Option.toList, List.cons_append, List.nil_append]
  refine v_if_eqB C (oX9_preimagesBetween.at 5 rfl) (tgt := 40) (by decide) (fun _ => ?_) (fun z => absurd z (by decide))
  refine v_aload_n C (oX9_preimagesBetween.at 22 rfl) rfl ?_
  refine v_iconst C (oX9_preimagesBetween.at 23 rfl) (v := nI 1) rfl ?_
  refine v_callV C (oX9_preimagesBetween.at 24 rfl) cX9_111 q0 (k9_noR hR1) rfl rfl rfl ⟨rfl, rfl⟩ rfl rfl (fun _ => rfl) (fun h' hp => ?_)
  dsimp only [Option.toList, List.cons_append, List.nil_append]
  exact v_iret C (oX9_preimagesBetween.at 25 rfl) rfl rfl ⟨Nat.le_refl _, Nat.le_refl _⟩ ⟨rfl, hp⟩
theorem k9_betweenF {w : Wt} {G h : Hp} {th : Nat} {S Z : Sc} {sv : Bool} {F : Sf} {x : Nat} {y v : Int32} (hR : RF G h th S sv Z F) (hx : x < 4) (hy : ¬ InB y (S.1 ^ (S.2.1 - 1))) : ConN mX9_preimagesBetween 3 (0, 0) w [.ref 62, .int (nI x), .int y, .int v] h (.inl (some (.int (nI 0)))) (fun h' => RF G h' 1 S sv Z F) := by
  have hn9 := hR.so.1.n
  have hn0 := hR.so.1.n0
  refine conI (by decide +kernel) ⟨fun _ => rfl, rfl, by simp⟩ (fun X C => ?_)
  change V X (0, 0) w h 0 [some (.ref 62), some (.int (nI x)), some (.int y), some (.int v)] []
  refine v_aload_n C (oX9_preimagesBetween.at 0 rfl) rfl ?_
  refine v_iconst C (oX9_preimagesBetween.at 1 rfl) (v := nI 0) rfl ?_
  refine v_thr C (oX9_preimagesBetween.at 2 rfl) fX9_96 hR (fun h1 u1 hR1 q0 qt qm => ?_)
  refine v_iload_n C (oX9_preimagesBetween.at 3 rfl) rfl ?_
  refine v_callS C (oX9_preimagesBetween.at 4 rfl) cX9_210 (k_regT (InB.of hx (by decide))) rfl rfl rfl ⟨rfl, rfl⟩ rfl rfl (fun _ => rfl) (fun h' hp => ?_)
  rw [show h' = _ from hp]
  dsimp only [Option.toList, List.cons_append, List.nil_append]
  refine v_if_eqB C (oX9_preimagesBetween.at 5 rfl) (tgt := 40) (by decide) (fun z => absurd z (by decide)) (fun _ => ?_)
  refine v_iload_n C (oX9_preimagesBetween.at 6 rfl) rfl ?_
  refine v_iconst C (oX9_preimagesBetween.at 7 rfl) (v := nI 0) rfl ?_
  refine v_aload_n C (oX9_preimagesBetween.at 8 rfl) rfl ?_
  refine v_callV C (oX9_preimagesBetween.at 9 rfl) cX9_118 q0 (k9_nodesR hR1) rfl rfl rfl ⟨rfl, rfl⟩ rfl rfl (fun _ => rfl) (fun h' hp => ?_)
  rw [show h' = _ from hp]
  dsimp only [Option.toList, List.cons_append, List.nil_append]
  refine v_iconst C (oX9_preimagesBetween.at 10 rfl) (v := nI 1) rfl ?_
  refine v_isubN C (oX9_preimagesBetween.at 11 rfl) (by omega) ?_
  refine v_callS C (oX9_preimagesBetween.at 12 rfl) cX9_103 (k_inF (S.1 ^ (S.2.1 - 1)) hn0 (by omega) rfl hy) rfl rfl rfl ⟨rfl, rfl⟩ rfl rfl (fun _ => rfl) (fun h' hp => ?_)
  rw [show h' = _ from hp]
  dsimp only [Option.toList, List.cons_append, List.nil_append]
  refine v_if_eqB C (oX9_preimagesBetween.at 13 rfl) (tgt := 40) (by decide) (fun _ => ?_) (fun z => absurd z (by decide))
  refine v_aload_n C (oX9_preimagesBetween.at 22 rfl) rfl ?_
  refine v_iconst C (oX9_preimagesBetween.at 23 rfl) (v := nI 1) rfl ?_
  refine v_callV C (oX9_preimagesBetween.at 24 rfl) cX9_111 q0 (k9_noR hR1) rfl rfl rfl ⟨rfl, rfl⟩ rfl rfl (fun _ => rfl) (fun h' hp => ?_)
  dsimp only [Option.toList, List.cons_append, List.nil_append]
  exact v_iret C (oX9_preimagesBetween.at 25 rfl) rfl rfl ⟨Nat.le_refl _, Nat.le_refl _⟩ ⟨rfl, hp⟩
theorem k9_betweenL {w : Wt} {G h : Hp} {th : Nat} {S Z : Sc} {sv : Bool} {F : Sf} {x y : Nat} {v : Int32} (hR : RF G h th S sv Z F) (hx : x < 4) (hy : y < S.1 ^ (S.2.1 - 1)) (hv : ¬ InB v (S.1 ^ (S.2.1 - 1))) : ConN mX9_preimagesBetween 3 (0, 0) w [.ref 62, .int (nI x), .int (nI y), .int v] h (.inl (some (.int (nI 0)))) (fun h' => RF G h' 1 S sv Z F) := by
  have hn9 := hR.so.1.n
  have hn0 := hR.so.1.n0
  refine conI (by decide +kernel) ⟨fun _ => rfl, rfl, by simp⟩ (fun X C => ?_)
  change V X (0, 0) w h 0 [some (.ref 62), some (.int (nI x)), some (.int (nI y)), some (.int v)] []
  refine v_aload_n C (oX9_preimagesBetween.at 0 rfl) rfl ?_
  refine v_iconst C (oX9_preimagesBetween.at 1 rfl) (v := nI 0) rfl ?_
  refine v_thr C (oX9_preimagesBetween.at 2 rfl) fX9_96 hR (fun h1 u1 hR1 q0 qt qm => ?_)
  refine v_iload_n C (oX9_preimagesBetween.at 3 rfl) rfl ?_
  refine v_callS C (oX9_preimagesBetween.at 4 rfl) cX9_210 (k_regT (InB.of hx (by decide))) rfl rfl rfl ⟨rfl, rfl⟩ rfl rfl (fun _ => rfl) (fun h' hp => ?_)
  rw [show h' = _ from hp]
  dsimp only [Option.toList, List.cons_append, List.nil_append]
  refine v_if_eqB C (oX9_preimagesBetween.at 5 rfl) (tgt := 40) (by decide) (fun z => absurd z (by decide)) (fun _ => ?_)
  refine v_iload_n C (oX9_preimagesBetween.at 6 rfl) rfl ?_
  refine v_iconst C (oX9_preimagesBetween.at 7 rfl) (v := nI 0) rfl ?_
  refine v_aload_n C (oX9_preimagesBetween.at 8 rfl) rfl ?_
  refine v_callV C (oX9_preimagesBetween.at 9 rfl) cX9_118 q0 (k9_nodesR hR1) rfl rfl rfl ⟨rfl, rfl⟩ rfl rfl (fun _ => rfl) (fun h' hp => ?_)
  rw [show h' = _ from hp]
  dsimp only [Option.toList, List.cons_append, List.nil_append]
  refine v_iconst C (oX9_preimagesBetween.at 10 rfl) (v := nI 1) rfl ?_
  refine v_isubN C (oX9_preimagesBetween.at 11 rfl) (by omega) ?_
  refine v_callS C (oX9_preimagesBetween.at 12 rfl) cX9_103 (k_inT (S.1 ^ (S.2.1 - 1)) hn0 (by omega) rfl (InB.of hy (by omega))) rfl rfl rfl ⟨rfl, rfl⟩ rfl rfl (fun _ => rfl) (fun h' hp => ?_)
  rw [show h' = _ from hp]
  dsimp only [Option.toList, List.cons_append, List.nil_append]
  refine v_if_eqB C (oX9_preimagesBetween.at 13 rfl) (tgt := 40) (by decide) (fun z => absurd z (by decide)) (fun _ => ?_)
  refine v_iload_n C (oX9_preimagesBetween.at 14 rfl) rfl ?_
  refine v_iconst C (oX9_preimagesBetween.at 15 rfl) (v := nI 0) rfl ?_
  refine v_aload_n C (oX9_preimagesBetween.at 16 rfl) rfl ?_
  refine v_callV C (oX9_preimagesBetween.at 17 rfl) cX9_118 q0 (k9_nodesR hR1) rfl rfl rfl ⟨rfl, rfl⟩ rfl rfl (fun _ => rfl) (fun h' hp => ?_)
  rw [show h' = _ from hp]
  dsimp only [Option.toList, List.cons_append, List.nil_append]
  refine v_iconst C (oX9_preimagesBetween.at 18 rfl) (v := nI 1) rfl ?_
  refine v_isubN C (oX9_preimagesBetween.at 19 rfl) (by omega) ?_
  refine v_callS C (oX9_preimagesBetween.at 20 rfl) cX9_103 (k_inF (S.1 ^ (S.2.1 - 1)) hn0 (by omega) rfl hv) rfl rfl rfl ⟨rfl, rfl⟩ rfl rfl (fun _ => rfl) (fun h' hp => ?_)
  rw [show h' = _ from hp]
  dsimp only [Option.toList, List.cons_append, List.nil_append]
  refine v_if_neB C (oX9_preimagesBetween.at 21 rfl) (tgt := 46) (by decide) (fun z => absurd z (by decide)) (fun _ => ?_)
  refine v_aload_n C (oX9_preimagesBetween.at 22 rfl) rfl ?_
  refine v_iconst C (oX9_preimagesBetween.at 23 rfl) (v := nI 1) rfl ?_
  refine v_callV C (oX9_preimagesBetween.at 24 rfl) cX9_111 q0 (k9_noR hR1) rfl rfl rfl ⟨rfl, rfl⟩ rfl rfl (fun _ => rfl) (fun h' hp => ?_)
  dsimp only [Option.toList, List.cons_append, List.nil_append]
  exact v_iret C (oX9_preimagesBetween.at 25 rfl) rfl rfl ⟨Nat.le_refl _, Nat.le_refl _⟩ ⟨rfl, hp⟩
theorem k9_edgeN {w : Wt} {G h : Hp} {th : Nat} {S Z : Sc} {sv : Bool} {F : Sf} {x y v : Int32} (hR : RF G h th S sv Z F) (hx : ¬ InB x (S.1 ^ (S.2.1 - 1))) : ConN mX9_edge 2 (0, 0) w [.ref 62, .int x, .int y, .int v] h (.inl (some (.int (nI 0)))) (fun h' => RF G h' 1 S sv Z F) := by
  have hn9 := hR.so.1.n
  have hn0 := hR.so.1.n0
  refine conI (by decide +kernel) ⟨fun _ => rfl, rfl, by simp⟩ (fun X C => ?_)
  change V X (0, 0) w h 0 [some (.ref 62), some (.int x), some (.int y), some (.int v)] []
  refine v_aload_n C (oX9_edge.at 0 rfl) rfl ?_
  refine v_iconst C (oX9_edge.at 1 rfl) (v := nI 0) rfl ?_
  refine v_thr C (oX9_edge.at 2 rfl) fX9_96 hR (fun h1 u1 hR1 q0 qt qm => ?_)
  refine v_iload_n C (oX9_edge.at 3 rfl) rfl ?_
  refine v_iconst C (oX9_edge.at 4 rfl) (v := nI 0) rfl ?_
  refine v_aload_n C (oX9_edge.at 5 rfl) rfl ?_
  refine v_callV C (oX9_edge.at 6 rfl) cX9_118 q0 (k9_nodesR hR1) rfl rfl rfl ⟨rfl, rfl⟩ rfl rfl (fun _ => rfl) (fun h' hp => ?_)
  rw [show h' = _ from hp]
  dsimp only [Option.toList, List.cons_append, List.nil_append]
  refine v_iconst C (oX9_edge.at 7 rfl) (v := nI 1) rfl ?_
  refine v_isubN C (oX9_edge.at 8 rfl) (by omega) ?_
  refine v_callS C (oX9_edge.at 9 rfl) cX9_103 (k_inF (S.1 ^ (S.2.1 - 1)) hn0 (by omega) rfl hx) rfl rfl rfl ⟨rfl, rfl⟩ rfl rfl (fun _ => rfl) (fun h' hp => ?_)
  rw [show h' = _ from hp]
  dsimp only [Option.toList, List.cons_append, List.nil_append]
  refine v_if_eqB C (oX9_edge.at 10 rfl) (tgt := 42) (by decide) (fun _ => ?_) (fun z => absurd z (by decide))
  refine v_aload_n C (oX9_edge.at 24 rfl) rfl ?_
  refine v_iconst C (oX9_edge.at 25 rfl) (v := nI 1) rfl ?_
  refine v_callV C (oX9_edge.at 26 rfl) cX9_111 q0 (k9_noR hR1) rfl rfl rfl ⟨rfl, rfl⟩ rfl rfl (fun _ => rfl) (fun h' hp => ?_)
  dsimp only [Option.toList, List.cons_append, List.nil_append]
  exact v_iret C (oX9_edge.at 27 rfl) rfl rfl ⟨Nat.le_refl _, Nat.le_refl _⟩ ⟨rfl, hp⟩
theorem k9_edgeS {w : Wt} {G h : Hp} {th : Nat} {S Z : Sc} {sv : Bool} {F : Sf} {x : Nat} {y v : Int32} (hR : RF G h th S sv Z F) (hx : x < S.1 ^ (S.2.1 - 1)) (hy : ¬ InB y S.1) : ConN mX9_edge 2 (0, 0) w [.ref 62, .int (nI x), .int y, .int v] h (.inl (some (.int (nI 0)))) (fun h' => RF G h' 1 S sv Z F) := by
  have hn9 := hR.so.1.n
  have hn0 := hR.so.1.n0
  have hk := hR.so.1.k
  refine conI (by decide +kernel) ⟨fun _ => rfl, rfl, by simp⟩ (fun X C => ?_)
  change V X (0, 0) w h 0 [some (.ref 62), some (.int (nI x)), some (.int y), some (.int v)] []
  refine v_aload_n C (oX9_edge.at 0 rfl) rfl ?_
  refine v_iconst C (oX9_edge.at 1 rfl) (v := nI 0) rfl ?_
  refine v_thr C (oX9_edge.at 2 rfl) fX9_96 hR (fun h1 u1 hR1 q0 qt qm => ?_)
  refine v_iload_n C (oX9_edge.at 3 rfl) rfl ?_
  refine v_iconst C (oX9_edge.at 4 rfl) (v := nI 0) rfl ?_
  refine v_aload_n C (oX9_edge.at 5 rfl) rfl ?_
  refine v_callV C (oX9_edge.at 6 rfl) cX9_118 q0 (k9_nodesR hR1) rfl rfl rfl ⟨rfl, rfl⟩ rfl rfl (fun _ => rfl) (fun h' hp => ?_)
  rw [show h' = _ from hp]
  dsimp only [Option.toList, List.cons_append, List.nil_append]
  refine v_iconst C (oX9_edge.at 7 rfl) (v := nI 1) rfl ?_
  refine v_isubN C (oX9_edge.at 8 rfl) (by omega) ?_
  refine v_callS C (oX9_edge.at 9 rfl) cX9_103 (k_inT (S.1 ^ (S.2.1 - 1)) hn0 (by omega) rfl (InB.of hx (by omega))) rfl rfl rfl ⟨rfl, rfl⟩ rfl rfl (fun _ => rfl) (fun h' hp => ?_)
  rw [show h' = _ from hp]
  dsimp only [Option.toList, List.cons_append, List.nil_append]
  refine v_if_eqB C (oX9_edge.at 10 rfl) (tgt := 42) (by decide) (fun z => absurd z (by decide)) (fun _ => ?_)
  refine v_iload_n C (oX9_edge.at 11 rfl) rfl ?_
  refine v_iconst C (oX9_edge.at 12 rfl) (v := nI 0) rfl ?_
  refine v_aload_n C (oX9_edge.at 13 rfl) rfl ?_
  refine v_getf C (oX9_edge.at 14 rfl) fX9_7 q0 (congrArg (fun z => some (Value.int z)) (qm.1)) ?_
  refine v_iconst C (oX9_edge.at 15 rfl) (v := nI 1) rfl ?_
  refine v_isubN C (oX9_edge.at 16 rfl) (by omega) ?_
  refine v_callS C (oX9_edge.at 17 rfl) cX9_103 (k_inF S.1 (by omega) (by omega) rfl hy) rfl rfl rfl ⟨rfl, rfl⟩ rfl rfl (fun _ => rfl) (fun h' hp => ?_)
  rw [show h' = _ from hp]
  dsimp only [Option.toList, List.cons_append, List.nil_append]
  refine v_if_eqB C (oX9_edge.at 18 rfl) (tgt := 42) (by decide) (fun _ => ?_) (fun z => absurd z (by decide))
  refine v_aload_n C (oX9_edge.at 24 rfl) rfl ?_
  refine v_iconst C (oX9_edge.at 25 rfl) (v := nI 1) rfl ?_
  refine v_callV C (oX9_edge.at 26 rfl) cX9_111 q0 (k9_noR hR1) rfl rfl rfl ⟨rfl, rfl⟩ rfl rfl (fun _ => rfl) (fun h' hp => ?_)
  dsimp only [Option.toList, List.cons_append, List.nil_append]
  exact v_iret C (oX9_edge.at 27 rfl) rfl rfl ⟨Nat.le_refl _, Nat.le_refl _⟩ ⟨rfl, hp⟩
theorem k9_edgeB {w : Wt} {G h : Hp} {th : Nat} {S Z : Sc} {sv : Bool} {F : Sf} {x y : Nat} {v : Int32} (hR : RF G h th S sv Z F) (hx : x < S.1 ^ (S.2.1 - 1)) (hy : y < S.1) (hv : ¬ InB v 2) : ConN mX9_edge 2 (0, 0) w [.ref 62, .int (nI x), .int (nI y), .int v] h (.inl (some (.int (nI 0)))) (fun h' => RF G h' 1 S sv Z F) := by
  have hn9 := hR.so.1.n
  have hn0 := hR.so.1.n0
  have hk := hR.so.1.k
  refine conI (by decide +kernel) ⟨fun _ => rfl, rfl, by simp⟩ (fun X C => ?_)
  change V X (0, 0) w h 0 [some (.ref 62), some (.int (nI x)), some (.int (nI y)), some (.int v)] []
  refine v_aload_n C (oX9_edge.at 0 rfl) rfl ?_
  refine v_iconst C (oX9_edge.at 1 rfl) (v := nI 0) rfl ?_
  refine v_thr C (oX9_edge.at 2 rfl) fX9_96 hR (fun h1 u1 hR1 q0 qt qm => ?_)
  refine v_iload_n C (oX9_edge.at 3 rfl) rfl ?_
  refine v_iconst C (oX9_edge.at 4 rfl) (v := nI 0) rfl ?_
  refine v_aload_n C (oX9_edge.at 5 rfl) rfl ?_
  refine v_callV C (oX9_edge.at 6 rfl) cX9_118 q0 (k9_nodesR hR1) rfl rfl rfl ⟨rfl, rfl⟩ rfl rfl (fun _ => rfl) (fun h' hp => ?_)
  rw [show h' = _ from hp]
  dsimp only [Option.toList, List.cons_append, List.nil_append]
  refine v_iconst C (oX9_edge.at 7 rfl) (v := nI 1) rfl ?_
  refine v_isubN C (oX9_edge.at 8 rfl) (by omega) ?_
  refine v_callS C (oX9_edge.at 9 rfl) cX9_103 (k_inT (S.1 ^ (S.2.1 - 1)) hn0 (by omega) rfl (InB.of hx (by omega))) rfl rfl rfl ⟨rfl, rfl⟩ rfl rfl (fun _ => rfl) (fun h' hp => ?_)
  rw [show h' = _ from hp]
  dsimp only [Option.toList, List.cons_append, List.nil_append]
  refine v_if_eqB C (oX9_edge.at 10 rfl) (tgt := 42) (by decide) (fun z => absurd z (by decide)) (fun _ => ?_)
  refine v_iload_n C (oX9_edge.at 11 rfl) rfl ?_
  refine v_iconst C (oX9_edge.at 12 rfl) (v := nI 0) rfl ?_
  refine v_aload_n C (oX9_edge.at 13 rfl) rfl ?_
  refine v_getf C (oX9_edge.at 14 rfl) fX9_7 q0 (congrArg (fun z => some (Value.int z)) (qm.1)) ?_
  refine v_iconst C (oX9_edge.at 15 rfl) (v := nI 1) rfl ?_
  refine v_isubN C (oX9_edge.at 16 rfl) (by omega) ?_
  refine v_callS C (oX9_edge.at 17 rfl) cX9_103 (k_inT S.1 (by omega) (by omega) rfl (InB.of hy (by omega))) rfl rfl rfl ⟨rfl, rfl⟩ rfl rfl (fun _ => rfl) (fun h' hp => ?_)
  rw [show h' = _ from hp]
  dsimp only [Option.toList, List.cons_append, List.nil_append]
  refine v_if_eqB C (oX9_edge.at 18 rfl) (tgt := 42) (by decide) (fun z => absurd z (by decide)) (fun _ => ?_)
  refine v_iload_n C (oX9_edge.at 19 rfl) rfl ?_
  refine v_iconst C (oX9_edge.at 20 rfl) (v := nI 0) rfl ?_
  refine v_iconst C (oX9_edge.at 21 rfl) (v := nI 1) rfl ?_
  refine v_callS C (oX9_edge.at 22 rfl) cX9_103 (k_inF 2 (by decide) (by decide) rfl hv) rfl rfl rfl ⟨rfl, rfl⟩ rfl rfl (fun _ => rfl) (fun h' hp => ?_)
  rw [show h' = _ from hp]
  dsimp only [Option.toList, List.cons_append, List.nil_append]
  refine v_if_neB C (oX9_edge.at 23 rfl) (tgt := 48) (by decide) (fun z => absurd z (by decide)) (fun _ => ?_)
  refine v_aload_n C (oX9_edge.at 24 rfl) rfl ?_
  refine v_iconst C (oX9_edge.at 25 rfl) (v := nI 1) rfl ?_
  refine v_callV C (oX9_edge.at 26 rfl) cX9_111 q0 (k9_noR hR1) rfl rfl rfl ⟨rfl, rfl⟩ rfl rfl (fun _ => rfl) (fun h' hp => ?_)
  dsimp only [Option.toList, List.cons_append, List.nil_append]
  exact v_iret C (oX9_edge.at 27 rfl) rfl rfl ⟨Nat.le_refl _, Nat.le_refl _⟩ ⟨rfl, hp⟩
theorem k9_edge {w : Wt} {G h : Hp} {th : Nat} {S Z : Sc} {sv : Bool} {F : Sf} {x y v : Nat} (hR : RF G h th S sv Z F) (hx : x < S.1 ^ (S.2.1 - 1)) (hy : y < S.1) (hv : v < 2) : ConN mX9_edge 2 (0, 0) w [.ref 62, .int (nI x), .int (nI y), .int (nI v)] h (.inl (some (.int (nI (if v = 0 then (x * S.1 + y) % S.1 ^ (S.2.1 - 1) else S.2.2.1 (x * S.1 + y)))))) (fun h' => RF G h' 0 S sv Z F) := by
  have hn9 := hR.so.1.n
  have hn0 := hR.so.1.n0
  have hk := hR.so.1.k
  refine conI (by decide +kernel) ⟨fun _ => rfl, rfl, by simp⟩ (fun X C => ?_)
  change V X (0, 0) w h 0 [some (.ref 62), some (.int (nI x)), some (.int (nI y)), some (.int (nI v))] []
  refine v_aload_n C (oX9_edge.at 0 rfl) rfl ?_
  refine v_iconst C (oX9_edge.at 1 rfl) (v := nI 0) rfl ?_
  refine v_thr C (oX9_edge.at 2 rfl) fX9_96 hR (fun h1 u1 hR1 q0 qt qm => ?_)
  refine v_iload_n C (oX9_edge.at 3 rfl) rfl ?_
  refine v_iconst C (oX9_edge.at 4 rfl) (v := nI 0) rfl ?_
  refine v_aload_n C (oX9_edge.at 5 rfl) rfl ?_
  refine v_callV C (oX9_edge.at 6 rfl) cX9_118 q0 (k9_nodesR hR1) rfl rfl rfl ⟨rfl, rfl⟩ rfl rfl (fun _ => rfl) (fun h' hp => ?_)
  rw [show h' = _ from hp]
  dsimp only [Option.toList, List.cons_append, List.nil_append]
  refine v_iconst C (oX9_edge.at 7 rfl) (v := nI 1) rfl ?_
  refine v_isubN C (oX9_edge.at 8 rfl) (by omega) ?_
  refine v_callS C (oX9_edge.at 9 rfl) cX9_103 (k_inT (S.1 ^ (S.2.1 - 1)) hn0 (by omega) rfl (InB.of hx (by omega))) rfl rfl rfl ⟨rfl, rfl⟩ rfl rfl (fun _ => rfl) (fun h' hp => ?_)
  rw [show h' = _ from hp]
  dsimp only [Option.toList, List.cons_append, List.nil_append]
  refine v_if_eqB C (oX9_edge.at 10 rfl) (tgt := 42) (by decide) (fun z => absurd z (by decide)) (fun _ => ?_)
  refine v_iload_n C (oX9_edge.at 11 rfl) rfl ?_
  refine v_iconst C (oX9_edge.at 12 rfl) (v := nI 0) rfl ?_
  refine v_aload_n C (oX9_edge.at 13 rfl) rfl ?_
  refine v_getf C (oX9_edge.at 14 rfl) fX9_7 q0 (congrArg (fun z => some (Value.int z)) (qm.1)) ?_
  refine v_iconst C (oX9_edge.at 15 rfl) (v := nI 1) rfl ?_
  refine v_isubN C (oX9_edge.at 16 rfl) (by omega) ?_
  refine v_callS C (oX9_edge.at 17 rfl) cX9_103 (k_inT S.1 (by omega) (by omega) rfl (InB.of hy (by omega))) rfl rfl rfl ⟨rfl, rfl⟩ rfl rfl (fun _ => rfl) (fun h' hp => ?_)
  rw [show h' = _ from hp]
  dsimp only [Option.toList, List.cons_append, List.nil_append]
  refine v_if_eqB C (oX9_edge.at 18 rfl) (tgt := 42) (by decide) (fun z => absurd z (by decide)) (fun _ => ?_)
  refine v_iload_n C (oX9_edge.at 19 rfl) rfl ?_
  refine v_iconst C (oX9_edge.at 20 rfl) (v := nI 0) rfl ?_
  refine v_iconst C (oX9_edge.at 21 rfl) (v := nI 1) rfl ?_
  refine v_callS C (oX9_edge.at 22 rfl) cX9_103 (k_inT 2 (by decide) (by decide) rfl (InB.of hv (by decide))) rfl rfl rfl ⟨rfl, rfl⟩ rfl rfl (fun _ => rfl) (fun h' hp => ?_)
  rw [show h' = _ from hp]
  dsimp only [Option.toList, List.cons_append, List.nil_append]
  refine v_if_neB C (oX9_edge.at 23 rfl) (tgt := 48) (by decide) (fun _ => ?_) (fun z => absurd z (by decide))
  refine v_iload_n C (oX9_edge.at 28 rfl) rfl ?_
  refine v_if_neN C (oX9_edge.at 29 rfl) (tgt := 61) (by decide) (by omega) (fun hc => ?_) (fun hc => ?_)
  · rw [if_neg hc] at C
    refine v_aload_n C (oX9_edge.at 35 rfl) rfl ?_
    refine v_iload_n C (oX9_edge.at 36 rfl) rfl ?_
    refine v_iload_n C (oX9_edge.at 37 rfl) rfl ?_
    refine v_callV C (oX9_edge.at 38 rfl) cX9_222 q0 (k9_labelR hR1 hx hy) rfl rfl rfl ⟨rfl, rfl⟩ rfl rfl (fun _ => rfl) (fun h' hp => ?_)
    rw [show h' = _ from hp]
    dsimp only [Option.toList, List.cons_append, List.nil_append]
    exact v_iret C (oX9_edge.at 39 rfl) rfl rfl ⟨Nat.le_refl _, Nat.le_refl _⟩ ⟨rfl, hR1⟩
  · rw [if_pos hc] at C
    refine v_aload_n C (oX9_edge.at 30 rfl) rfl ?_
    refine v_iload_n C (oX9_edge.at 31 rfl) rfl ?_
    refine v_iload_n C (oX9_edge.at 32 rfl) rfl ?_
    refine v_callV C (oX9_edge.at 33 rfl) cX9_225 q0 (k9_goalR hR1 hx hy) rfl rfl rfl ⟨rfl, rfl⟩ rfl rfl (fun _ => rfl) (fun h' hp => ?_)
    rw [show h' = _ from hp]
    dsimp only [Option.toList, List.cons_append, List.nil_append]
    refine v_goto C (oX9_edge.at 34 rfl) (tgt := 67) (by decide) ?_
    exact v_iret C (oX9_edge.at 39 rfl) rfl rfl ⟨Nat.le_refl _, Nat.le_refl _⟩ ⟨rfl, hR1⟩
