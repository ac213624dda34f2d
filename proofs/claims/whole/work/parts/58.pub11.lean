/-! ===== the program's methods: one preimage ===== -/
theorem k8_preR {w : Wt} {h : Hp} {x c y v : Int32} (hx : ¬ InB x 4) : ConN mX8_preimage 1 (1, 6) w [.ref 0, .int x, .int c, .int y, .int v] h (.inr EIOO) (fun h' => h' = h) := by
  refine conI (by decide +kernel) ⟨fun _ => rfl, rfl, by simp⟩ (fun X C => ?_)
  change V X (0, 0) w h 0 [some (.ref 0), some (.int x), some (.int c), some (.int y), some (.int v), none, none] []
  refine v_iload_n C (oX8_preimage.at 0 rfl) rfl ?_
  exact v_callST C (oX8_preimage.at 1 rfl) cX8_210 (k_needRegX hx) rfl rfl rfl rfl rfl (fun h' hp => ⟨rfl, hp⟩)
theorem k8_preT {w : Wt} {h : Hp} {x : Nat} {c y v : Int32} (hx : x < 4) (hv : ¬ InB v 4) : ConN mX8_preimage 1 (1, 6) w [.ref 0, .int (nI x), .int c, .int y, .int v] h (.inr EIOO) (fun h' => h' = h) := by
  refine conI (by decide +kernel) ⟨fun _ => rfl, rfl, by simp⟩ (fun X C => ?_)
  change V X (0, 0) w h 0 [some (.ref 0), some (.int (nI x)), some (.int c), some (.int y), some (.int v), none, none] []
  refine v_iload_n C (oX8_preimage.at 0 rfl) rfl ?_
  refine v_callS C (oX8_preimage.at 1 rfl) cX8_210 (k_needReg (InB.of hx (by decide))) rfl rfl rfl ⟨rfl, rfl⟩ rfl rfl (fun _ => rfl) (fun h' hp => ?_)
  rw [show h' = _ from hp]
  dsimp only [Option.toList, List.cons_append, List.nil_append]
  refine v_iload C (oX8_preimage.at 2 rfl) rfl ?_
  exact v_callST C (oX8_preimage.at 3 rfl) cX8_210 (k_needRegX hv) rfl rfl rfl rfl rfl (fun h' hp => ⟨rfl, hp⟩)
/-- the length of a preimage -/
def pLn (S : Sc) (r : Nat) (c : Bool) : Nat := S.2.2.2.1 r + (if c then 0 else S.2.1 - 1)
theorem pre_start {w : Wt} {G h : Hp} {S Z : Sc} {sv : Bool} {F : Sf} {x v : Nat} {y : Int32} {c : Bool} {X : CT} {zR : Nat × Nat} {o : Oc} {P : Wt → Hp → Prop} {d : Nat} (C : Cx X mX8_preimage [] (d + 1) zR o P) (hP : PA G h S sv Z F) (hx : x < 4) (hv : v < 4) (K : V X (0, 0) w h 38 [some (.ref 0), some (.int (nI x)), some (.int (bI c)), some (.int y), some (.int (nI v)), some (.int (nI (pLn S x c))), none] []) : V X (0, 0) w h 0 [some (.ref 0), some (.int (nI x)), some (.int (bI c)), some (.int y), some (.int (nI v)), none, none] [] := by
  obtain ⟨f, e, g0, g1, g2, g3, g4⟩ := hP.rg
  have hwd := hP.sz.w
  have n1 : Nat.blt 0 (d + 1) = true := by simp [Nat.blt]
  refine v_iload_n C (oX8_preimage.at 0 rfl) rfl ?_
  refine v_callS C (oX8_preimage.at 1 rfl) cX8_210 (k_needReg (InB.of hx (by decide))) rfl n1 rfl ⟨rfl, rfl⟩ rfl rfl (fun _ => rfl) (fun h' hp => ?_)
  rw [show h' = _ from hp]
  dsimp only [Option.toList, List.cons_append, List.nil_append]
  refine v_iload C (oX8_preimage.at 2 rfl) rfl ?_
  refine v_callS C (oX8_preimage.at 3 rfl) cX8_210 (k_needReg (InB.of hv (by decide))) rfl n1 rfl ⟨rfl, rfl⟩ rfl rfl (fun _ => rfl) (fun h' hp => ?_)
  rw [show h' = _ from hp]
  dsimp only [Option.toList, List.cons_append, List.nil_append]
  refine v_aload_n C (oX8_preimage.at 4 rfl) rfl ?_
  refine v_getf C (oX8_preimage.at 5 rfl) fX8_22 hP.ob rfl ?_
  refine v_getf C (oX8_preimage.at 6 rfl) fX8_217 g0 rfl ?_
  refine v_iload_n C (oX8_preimage.at 7 rfl) rfl ?_
  refine v_iald C (oX8_preimage.at 8 rfl) g1 (by decide) rfl (by omega) (g2 x hx) ?_
  refine v_iload_n C (oX8_preimage.at 9 rfl) rfl ?_
  refine v_if_eqB C (oX8_preimage.at 10 rfl) (tgt := 26) (by decide) (fun hc => ?_) (fun hc => ?_)
  · have e1 : pLn S x c = S.2.2.2.1 x + (S.2.1 - 1) := by unfold pLn; rw [hc, if_neg (by decide)]
    rw [e1] at K
    refine v_aload_n C (oX8_preimage.at 13 rfl) rfl ?_
    refine v_getf C (oX8_preimage.at 14 rfl) fX8_10 hP.ob rfl ?_
    refine v_getf C (oX8_preimage.at 15 rfl) fX8_107 hP.ru.ro rfl ?_
    refine v_iconst C (oX8_preimage.at 16 rfl) (v := nI 1) rfl ?_
    refine v_isubN C (oX8_preimage.at 17 rfl) (by omega) ?_
    refine v_iaddN C (oX8_preimage.at 18 rfl) ?_
    refine v_istore C (oX8_preimage.at 19 rfl) rfl ?_
    dsimp only [sto1, sto2, killL]
    exact K
  · have e1 : pLn S x c = S.2.2.2.1 x + 0 := by unfold pLn; rw [hc, if_pos rfl]
    rw [e1] at K
    refine v_iconst C (oX8_preimage.at 11 rfl) (v := nI 0) rfl ?_
    refine v_goto C (oX8_preimage.at 12 rfl) (tgt := 35) (by decide) ?_
    refine v_iaddN C (oX8_preimage.at 18 rfl) ?_
    refine v_istore C (oX8_preimage.at 19 rfl) rfl ?_
    dsimp only [sto1, sto2, killL]
    exact K
theorem k8_preL {w : Wt} {G h : Hp} {S Z : Sc} {sv : Bool} {F : Sf} {x v : Nat} {y : Int32} {c : Bool} (hP : PA G h S sv Z F) (hx : x < 4) (hv : v < 4) (hl : 14 < pLn S x c) : ConN mX8_preimage 1 (1, 6) w [.ref 0, .int (nI x), .int (bI c), .int y, .int (nI v)] h (.inr EISE) (fun h' => h' = h) := by
  have hb := hP.so.2 x hx
  have hwd := hP.sz.w
  have hl2 : pLn S x c < 2 ^ 31 := by unfold pLn; split <;> omega
  refine conI (by decide +kernel) ⟨fun _ => rfl, rfl, by simp⟩ (fun X C => ?_)
  change V X (0, 0) w h 0 [some (.ref 0), some (.int (nI x)), some (.int (bI c)), some (.int y), some (.int (nI v)), none, none] []
  refine pre_start C hP hx hv ?_
  refine v_iload C (oX8_preimage.at 20 rfl) rfl ?_
  refine v_bipush C (oX8_preimage.at 21 rfl) (v := nI 14) rfl ?_
  refine v_icmp_leN C (oX8_preimage.at 22 rfl) (tgt := 56) (by decide) (by omega) (by omega) (fun hc => ?_) (fun hc => ?_)
  · exact absurd hc (by omega)
  · exact v_throwSW C rfl tISE sr260 (oX8_preimage.at 23 rfl) (oX8_preimage.at 24 rfl) (oX8_preimage.at 25 rfl) (oX8_preimage.at 26 rfl) (oX8_preimage.at 27 rfl) rfl rfl ⟨rfl, rfl⟩
/-- whether there is that preimage, and which -/
def preB (S : Sc) (r : Nat) (c : Bool) (y : Nat) : Bool := decide (y < if c then pClo S r else pAll S r)
def preI (S : Sc) (r : Nat) (c : Bool) (y : Nat) : Nat := if c then clN S.1 (S.1 ^ (S.2.1 - 1)) S.2.2.1 (rlb S r) (S.2.2.2.1 r) y else opN S.1 (S.1 ^ (S.2.1 - 1)) S.2.2.1 (rlb S r) (S.2.2.2.1 r) y
/-- what the search for the word answers: from the labels on -/
theorem pre_mid {w : Wt} {G h : Hp} {S Z : Sc} {sv : Bool} {F : Sf} {x : Nat} {y : Int32} {c : Bool} {a5 v4 : Int32} {X : CT} {zR : Nat × Nat} {o : Oc} {P : Wt → Hp → Prop} (C : Cx X mX8_preimage [] 5 zR o P) (hP : PA G h S sv Z F) (hx : x < 4) (K : ∀ h' i, PA G h' S sv Z F → ((y < 0 ∧ i = -1) ∨ ∃ n, n < 2 ^ 31 ∧ y = nI n ∧ i = if preB S x c n then nI (preI S x c n) else -1) → V X (0, 0) w h' 94 [some (.ref 0), some (.int (nI x)), some (.int (bI c)), some (.int y), some (.int v4), some (.int a5), some (.int i)] []) : V X (0, 0) w h 56 [some (.ref 0), some (.int (nI x)), some (.int (bI c)), some (.int y), some (.int v4), some (.int a5), none] [] := by
  have hb := hP.so.2 x hx
  refine v_aload_n C (oX8_preimage.at 28 rfl) rfl ?_
  refine v_iload_n C (oX8_preimage.at 29 rfl) rfl ?_
  refine v_callV C (oX8_preimage.at 30 rfl) cX8_250 hP.ob (k8_takeLabels hP hx) rfl rfl rfl ⟨rfl, rfl⟩ rfl rfl (fun _ => rfl) (fun h' hp => ?_)
  dsimp only [Option.toList, List.cons_append, List.nil_append]
  obtain ⟨hP1, a, b, lf, Wf, hp4, hlb⟩ := hp
  obtain ⟨h1, rfl⟩ : ∃ q, q = h' := ⟨h', rfl⟩
  cases c with
  | false =>
    refine v_iload_n C (oX8_preimage.at 31 rfl) rfl ?_
    refine v_if_eqB C (oX8_preimage.at 32 rfl) (tgt := 80) (by decide) (fun hc => ?_) (fun hc => ?_)
    · rcases i32c y with hy | ⟨n, hn, rfl⟩
      · refine v_aload_n C (oX8_preimage.at 40 rfl) rfl ?_
        refine v_getf C (oX8_preimage.at 41 rfl) fX8_50 hP1.ob rfl ?_
        refine v_aload_n C (oX8_preimage.at 42 rfl) rfl ?_
        refine v_getf C (oX8_preimage.at 43 rfl) fX8_10 hP1.ob rfl ?_
        refine v_iload_n C (oX8_preimage.at 44 rfl) rfl ?_
        refine v_callV C (oX8_preimage.at 45 rfl) cX8_266 hp4.1 (k_openWordNeg hy) rfl rfl rfl ⟨rfl, rfl⟩ rfl rfl (fun _ => rfl) (fun h' hp => ?_)
        rw [show h' = _ from hp]
        dsimp only [Option.toList, List.cons_append, List.nil_append]
        refine v_istore C (oX8_preimage.at 46 rfl) rfl ?_
        dsimp only [sto1, sto2, killL]
        exact K _ _ hP1 (Or.inl ⟨hy, rfl⟩)
      · have ko := k_openWord (w := w) (x := n) hP1.ru hP.sz hp4 (by decide) hb.1 hlb hn
        refine v_aload_n C (oX8_preimage.at 40 rfl) rfl ?_
        refine v_getf C (oX8_preimage.at 41 rfl) fX8_50 hP1.ob rfl ?_
        refine v_aload_n C (oX8_preimage.at 42 rfl) rfl ?_
        refine v_getf C (oX8_preimage.at 43 rfl) fX8_10 hP1.ob rfl ?_
        refine v_iload_n C (oX8_preimage.at 44 rfl) rfl ?_
        refine v_callV C (oX8_preimage.at 45 rfl) cX8_266 hp4.1 (ko) rfl rfl rfl ⟨rfl, rfl⟩ rfl rfl (fun _ => rfl) (fun h' hp => ?_)
        dsimp only [Option.toList, List.cons_append, List.nil_append]
        obtain ⟨⟨Wf', hq⟩, hfr⟩ := hp
        refine v_istore C (oX8_preimage.at 46 rfl) rfl ?_
        dsimp only [sto1, sto2, killL]
        refine K _ _ (hP1.set_pt (fun j hj => hfr j (by omega)) ⟨_, _, _, _, _, hq⟩) (Or.inr ⟨n, hn, rfl, ?_⟩)
        by_cases e : n < sumN (wB S.1 (S.1 ^ (S.2.1 - 1)) S.2.2.1 (rlb S x) (S.2.2.2.1 x) baA (S.2.2.2.1 x)) (S.1 ^ (S.2.1 - 1))
        · rw [if_pos e]; exact (if_pos (show preB S x false n = true from decide_eq_true e)).symm
        · rw [if_neg e]; exact (if_neg (fun z => e (of_decide_eq_true z))).symm
    · cases hc
  | true =>
    refine v_iload_n C (oX8_preimage.at 31 rfl) rfl ?_
    refine v_if_eqB C (oX8_preimage.at 32 rfl) (tgt := 80) (by decide) (fun hc => ?_) (fun hc => ?_)
    · cases hc
    · rcases i32c y with hy | ⟨n, hn, rfl⟩
      · refine v_aload_n C (oX8_preimage.at 33 rfl) rfl ?_
        refine v_getf C (oX8_preimage.at 34 rfl) fX8_50 hP1.ob rfl ?_
        refine v_aload_n C (oX8_preimage.at 35 rfl) rfl ?_
        refine v_getf C (oX8_preimage.at 36 rfl) fX8_10 hP1.ob rfl ?_
        refine v_iload_n C (oX8_preimage.at 37 rfl) rfl ?_
        refine v_callV C (oX8_preimage.at 38 rfl) cX8_262 hp4.1 (k_closedWordNo hp4 hb.1 (Or.inl hy)) rfl rfl rfl ⟨rfl, rfl⟩ rfl rfl (fun _ => rfl) (fun h' hp => ?_)
        rw [show h' = _ from hp]
        dsimp only [Option.toList, List.cons_append, List.nil_append]
        refine v_goto C (oX8_preimage.at 39 rfl) (tgt := 92) (by decide) ?_
        refine v_istore C (oX8_preimage.at 46 rfl) rfl ?_
        dsimp only [sto1, sto2, killL]
        exact K _ _ hP1 (Or.inl ⟨hy, rfl⟩)
      · by_cases h0 : S.2.2.2.1 x = 0
        · refine v_aload_n C (oX8_preimage.at 33 rfl) rfl ?_
          refine v_getf C (oX8_preimage.at 34 rfl) fX8_50 hP1.ob rfl ?_
          refine v_aload_n C (oX8_preimage.at 35 rfl) rfl ?_
          refine v_getf C (oX8_preimage.at 36 rfl) fX8_10 hP1.ob rfl ?_
          refine v_iload_n C (oX8_preimage.at 37 rfl) rfl ?_
          refine v_callV C (oX8_preimage.at 38 rfl) cX8_262 hp4.1 (k_closedWordNo hp4 hb.1 (Or.inr h0)) rfl rfl rfl ⟨rfl, rfl⟩ rfl rfl (fun _ => rfl) (fun h' hp => ?_)
          rw [show h' = _ from hp]
          dsimp only [Option.toList, List.cons_append, List.nil_append]
          refine v_goto C (oX8_preimage.at 39 rfl) (tgt := 92) (by decide) ?_
          refine v_istore C (oX8_preimage.at 46 rfl) rfl ?_
          dsimp only [sto1, sto2, killL]
          refine K _ _ hP1 (Or.inr ⟨n, hn, rfl, ?_⟩)
          unfold preB pClo
          rw [if_pos rfl, if_pos h0, if_neg (fun z => absurd (of_decide_eq_true z) (Nat.not_lt_zero _))]
        · have ko := k_closedWord (w := w) (x := n) hP1.ru hP.sz hp4 (by decide) hb.1 (by omega) hlb hn
          refine v_aload_n C (oX8_preimage.at 33 rfl) rfl ?_
          refine v_getf C (oX8_preimage.at 34 rfl) fX8_50 hP1.ob rfl ?_
          refine v_aload_n C (oX8_preimage.at 35 rfl) rfl ?_
          refine v_getf C (oX8_preimage.at 36 rfl) fX8_10 hP1.ob rfl ?_
          refine v_iload_n C (oX8_preimage.at 37 rfl) rfl ?_
          refine v_callV C (oX8_preimage.at 38 rfl) cX8_262 hp4.1 (ko) rfl rfl rfl ⟨rfl, rfl⟩ rfl rfl (fun _ => rfl) (fun h' hp => ?_)
          dsimp only [Option.toList, List.cons_append, List.nil_append]
          obtain ⟨⟨Wf', hq⟩, hfr⟩ := hp
          refine v_goto C (oX8_preimage.at 39 rfl) (tgt := 92) (by decide) ?_
          refine v_istore C (oX8_preimage.at 46 rfl) rfl ?_
          dsimp only [sto1, sto2, killL]
          refine K _ _ (hP1.set_pt (fun j hj => hfr j (by omega)) ⟨_, _, _, _, _, hq⟩) (Or.inr ⟨n, hn, rfl, ?_⟩)
          unfold preB preI pClo
          rw [if_pos rfl, if_pos rfl, if_neg h0]
          by_cases e : n < sumN (clW S.1 (S.1 ^ (S.2.1 - 1)) S.2.2.1 (rlb S x) (S.2.2.2.1 x)) (S.1 ^ (S.2.1 - 1))
          · rw [if_pos e]; exact (if_pos (decide_eq_true e)).symm
          · rw [if_neg e]; exact (if_neg (fun z => e (of_decide_eq_true z))).symm
theorem k8_preN {w : Wt} {G h : Hp} {S Z : Sc} {sv : Bool} {F : Sf} {x v : Nat} {y : Int32} {c : Bool} (hP : PA G h S sv Z F) (hx : x < 4) (hv : v < 4) (hl : pLn S x c ≤ 14) (hy : y < 0 ∨ ∃ n, n < 2 ^ 31 ∧ y = nI n ∧ preB S x c n = false) : ConN mX8_preimage 5 (1, 6) w [.ref 0, .int (nI x), .int (bI c), .int y, .int (nI v)] h (.inr ENSE) (fun h' => PA G h' S sv Z F) := by
  refine conI (by decide +kernel) ⟨fun _ => rfl, rfl, by simp⟩ (fun X C => ?_)
  change V X (0, 0) w h 0 [some (.ref 0), some (.int (nI x)), some (.int (bI c)), some (.int y), some (.int (nI v)), none, none] []
  refine pre_start C hP hx hv ?_
  refine v_iload C (oX8_preimage.at 20 rfl) rfl ?_
  refine v_bipush C (oX8_preimage.at 21 rfl) (v := nI 14) rfl ?_
  refine v_icmp_leN C (oX8_preimage.at 22 rfl) (tgt := 56) (by decide) (by omega) (by omega) (fun hc => ?_) (fun hc => ?_)
  · refine pre_mid C hP hx (fun h' i hP1 hi => ?_)
    have ei : i = -1 := by
      rcases hi with ⟨_, e⟩ | ⟨n, hn, rfl, e⟩
      · exact e
      · rcases hy with hy | ⟨n', hn', e2, e3⟩
        · exact absurd hy (by rw [Int32.lt_iff_toInt_lt, nI_toInt hn]; have : (0 : Int32).toInt = 0 := by decide
                              omega)
        · have := (nI_eq hn hn').mp e2
          subst this
          rw [e, e3]; rfl
    subst ei
    refine v_iload C (oX8_preimage.at 47 rfl) rfl ?_
    refine v_if_ge C (oX8_preimage.at 48 rfl) (tgt := 110) (by decide) (fun hc => absurd hc (by decide)) (fun hc => ?_)
    exact v_throwN C rfl sr271 (oX8_preimage.at 49 rfl) (oX8_preimage.at 50 rfl) (oX8_preimage.at 51 rfl) (oX8_preimage.at 52 rfl) (oX8_preimage.at 53 rfl) rfl rfl ⟨rfl, hP1⟩
  · exact absurd hc (by omega)
theorem k8_pre {w : Wt} {G h : Hp} {S Z : Sc} {sv : Bool} {F : Sf} {x v n : Nat} {c : Bool} (hP : PA G h S sv Z F) (hx : x < 4) (hv : v < 4) (hl : pLn S x c ≤ 14) (hn : n < 2 ^ 31) (hB : preB S x c n = true) (hI : preI S x c n < S.1 ^ pLn S x c) : ConN mX8_preimage 5 (0, 0) w [.ref 0, .int (nI x), .int (bI c), .int (nI n), .int (nI v)] h (.inl (some (.int (nI (preI S x c n))))) (fun h' => PA G h' (withR S v (pLn S x c) (preI S x c n)) sv Z F) := by
  have hk := hP.sz.k
  have hi31 : preI S x c n < 2 ^ 31 := by
    have h1 : S.1 ^ pLn S x c ≤ 3 ^ pLn S x c := Nat.pow_le_pow_left (by omega) _
    have h2 : 3 ^ pLn S x c ≤ 3 ^ 14 := Nat.pow_le_pow_right (by decide) hl
    have h3 : (3 : Nat) ^ 14 < 2 ^ 31 := by decide
    omega
  refine conI (by decide +kernel) ⟨fun _ => rfl, rfl, by simp⟩ (fun X C => ?_)
  change V X (0, 0) w h 0 [some (.ref 0), some (.int (nI x)), some (.int (bI c)), some (.int (nI n)), some (.int (nI v)), none, none] []
  refine pre_start C hP hx hv ?_
  refine v_iload C (oX8_preimage.at 20 rfl) rfl ?_
  refine v_bipush C (oX8_preimage.at 21 rfl) (v := nI 14) rfl ?_
  refine v_icmp_leN C (oX8_preimage.at 22 rfl) (tgt := 56) (by decide) (by omega) (by omega) (fun hc => ?_) (fun hc => ?_)
  · refine pre_mid C hP hx (fun h' i hP1 hi => ?_)
    have ei : i = nI (preI S x c n) := by
      rcases hi with ⟨e, _⟩ | ⟨n', hn', e2, e⟩
      · exact absurd e (by rw [Int32.lt_iff_toInt_lt, nI_toInt hn]; have : (0 : Int32).toInt = 0 := by decide
                           omega)
      · have := (nI_eq hn hn').mp e2
        subst this
        rw [e, hB]; rfl
    subst ei
    obtain ⟨h1, rfl⟩ : ∃ z, z = h' := ⟨h', rfl⟩
    obtain ⟨f', e', q0, -⟩ := id hP1.rg
    have kp := k_regPut (w := w) (l := pLn S x c) (x := preI S x c n) hP1.rg hv
    refine v_iload C (oX8_preimage.at 47 rfl) rfl ?_
    refine v_if_geN C (oX8_preimage.at 48 rfl) (tgt := 110) (by decide) (by omega) ?_
    refine v_aload_n C (oX8_preimage.at 54 rfl) rfl ?_
    refine v_getf C (oX8_preimage.at 55 rfl) fX8_22 hP1.ob rfl ?_
    refine v_iload C (oX8_preimage.at 56 rfl) rfl ?_
    refine v_iload C (oX8_preimage.at 57 rfl) rfl ?_
    refine v_iload C (oX8_preimage.at 58 rfl) rfl ?_
    refine v_callV C (oX8_preimage.at 59 rfl) cX8_220 q0 (kp) rfl rfl rfl ⟨rfl, rfl⟩ rfl rfl (fun _ => rfl) (fun h' hp => ?_)
    dsimp only [Option.toList, List.cons_append, List.nil_append]
    refine v_iload C (oX8_preimage.at 60 rfl) rfl ?_
    exact v_iret C (oX8_preimage.at 61 rfl) rfl rfl ⟨Nat.le_refl _, Nat.le_refl _⟩ ⟨rfl, hP1.set_rg (S' := withR S v (pLn S x c) (preI S x c n)) (hP.so.withR hl hI) ⟨rfl, rfl, rfl⟩ (fun j hj => hp.2 j (by omega)) hp.1⟩
  · exact absurd hc (by omega)
