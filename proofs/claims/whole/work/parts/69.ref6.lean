/-! ===== the reference's methods: becomes, registers read ===== -/
theorem k9_becomes {w : Wt} {G h : Hp} {th : Nat} {S Z : Sc} {sv : Bool} {F : Sf} {g : Nat → Int32} {T' : Nat → Nat} (hR : RF G h th S sv Z F) (hg : h 70 = io 27 g) (hT' : TOK S g T') : ConN mX9_becomes 2 (0, 0) w [.ref 62] h (.inl (some (.int (nI (chg S.2.2.1 T' (S.1 ^ S.2.1)))))) (fun h' => RF G h' th (withT S T') sv Z F) := by
  obtain ⟨u, o0, o1, o2⟩ := hR.o
  obtain ⟨f, hf, hT⟩ := hR.tk
  have hw := hR.so.1.w
  have hk := hR.so.1.k
  have hm := hR.so.1.m
  have b0 : ∀ f', hu h 63 (io 27 f') 62 = MO u := fun f' => (hu_n _ _ (by decide)).trans o0
  have bg : ∀ f', hu h 63 (io 27 f') 70 = io 27 g := fun f' => (hu_n _ _ (by decide)).trans hg
  unfold chg
  refine conI (by decide +kernel) ⟨fun _ => rfl, rfl, by simp⟩ (fun X C => ?_)
  change V X (0, 0) w h 0 [some (.ref 62), none, none] []
  refine v_iconst C (oX9_becomes.at 0 rfl) (v := nI 0) rfl ?_
  refine v_istore_n C (oX9_becomes.at 1 rfl) rfl ?_
  refine v_iconst C (oX9_becomes.at 2 rfl) (v := nI 0) rfl ?_
  refine v_istore_n C (oX9_becomes.at 3 rfl) rfl ?_
  dsimp only [sto1, sto2, killL]
  suffices H : ∀ d i, i + d = S.1 ^ S.2.1 → V X (0, 0) w (hu h 63 (io 27 (mix f g i))) 4 [some (.ref 62), some (.int (nI (cnt (fun i => decide (S.2.2.1 i ≠ T' i)) i))), some (.int (nI i))] [] by
    have := H (S.1 ^ S.2.1) 0 (by omega)
    rw [mix_0, hu_id h hf] at this
    exact this
  intro d
  induction d with
  | zero =>
    intro i hi
    obtain rfl : i = S.1 ^ S.2.1 := by omega
    refine v_iload_n C (oX9_becomes.at 4 rfl) rfl ?_
    refine v_aload_n C (oX9_becomes.at 5 rfl) rfl ?_
    refine v_callV C (oX9_becomes.at 6 rfl) cX9_114 (b0 _) (k9_all (b0 _) o2.1 o2.2.1 (by omega)) rfl rfl rfl ⟨rfl, rfl⟩ rfl rfl (fun _ => rfl) (fun h' hp => ?_)
    rw [show h' = _ from hp]
    dsimp only [Option.toList, List.cons_append, List.nil_append]
    refine v_icmp_geN C (oX9_becomes.at 7 rfl) (tgt := 53) (by decide) (by omega) (by omega) (fun hc => ?_) (fun hc => ?_)
    · refine v_iload_n C (oX9_becomes.at 33 rfl) rfl ?_
      exact v_iret C (oX9_becomes.at 34 rfl) rfl rfl ⟨Nat.le_refl _, Nat.le_refl _⟩ ⟨rfl, hR.set_t (fun i hi => by rw [mix_lt hi]; exact hT' i hi)⟩
    · exact absurd hc (by omega)
  | succ d ih =>
    intro i hi
    have h1 := hT i (by omega)
    have h2 := hT' i (by omega)
    have e1 : mix f g i i = nI (S.2.2.1 i) := by rw [mix_ge (Nat.le_refl _)]; exact h1.1
    have ih := ih (i + 1) (by omega)
    rw [cnt] at ih
    have fin : ∀ c, c = (if decide (S.2.2.1 i ≠ T' i) = true then 1 else 0) → V X (0, 0) w (hu h 63 (io 27 (mix f g i))) 33 [some (.ref 62), some (.int (nI (cnt (fun i => decide (S.2.2.1 i ≠ T' i)) i))), some (.int (nI i))] [.int (nI c), .int (nI (cnt (fun i => decide (S.2.2.1 i ≠ T' i)) i))] := by
      intro c hc
      rw [← hc] at ih
      refine v_iaddN C (oX9_becomes.at 21 rfl) ?_
      refine v_istore_n C (oX9_becomes.at 22 rfl) rfl ?_
      refine v_aload_n C (oX9_becomes.at 23 rfl) rfl ?_
      refine v_getf C (oX9_becomes.at 24 rfl) fX9_16 (b0 _) rfl ?_
      refine v_iload_n C (oX9_becomes.at 25 rfl) rfl ?_
      refine v_aload_n C (oX9_becomes.at 26 rfl) rfl ?_
      refine v_getf C (oX9_becomes.at 27 rfl) fX9_41 (b0 _) rfl ?_
      refine v_iload_n C (oX9_becomes.at 28 rfl) rfl ?_
      refine v_iald C (oX9_becomes.at 29 rfl) (bg _) (by decide) rfl (by omega) rfl ?_
      refine v_iast C (oX9_becomes.at 30 rfl) (hu_s _ _ _) (by decide) rfl (by omega) ?_
      dsimp only [sto1, sto2, killL]
      rw [hu_hu, mix_s _ _ _ _ rfl]
      refine v_iincN C (oX9_becomes.at 31 rfl) rfl ?_
      refine v_goto C (oX9_becomes.at 32 rfl) (tgt := 4) (by decide) ?_
      dsimp only [sto1, sto2, killL]
      exact ih
    refine v_iload_n C (oX9_becomes.at 4 rfl) rfl ?_
    refine v_aload_n C (oX9_becomes.at 5 rfl) rfl ?_
    refine v_callV C (oX9_becomes.at 6 rfl) cX9_114 (b0 _) (k9_all (b0 _) o2.1 o2.2.1 (by omega)) rfl rfl rfl ⟨rfl, rfl⟩ rfl rfl (fun _ => rfl) (fun h' hp => ?_)
    rw [show h' = _ from hp]
    dsimp only [Option.toList, List.cons_append, List.nil_append]
    refine v_icmp_geN C (oX9_becomes.at 7 rfl) (tgt := 53) (by decide) (by omega) (by omega) (fun hc => ?_) (fun hc => ?_)
    · exact absurd hc (by omega)
    · refine v_iload_n C (oX9_becomes.at 8 rfl) rfl ?_
      refine v_aload_n C (oX9_becomes.at 9 rfl) rfl ?_
      refine v_getf C (oX9_becomes.at 10 rfl) fX9_16 (b0 _) rfl ?_
      refine v_iload_n C (oX9_becomes.at 11 rfl) rfl ?_
      refine v_iald C (oX9_becomes.at 12 rfl) (hu_s _ _ _) (by decide) rfl (by omega) e1 ?_
      refine v_aload_n C (oX9_becomes.at 13 rfl) rfl ?_
      refine v_getf C (oX9_becomes.at 14 rfl) fX9_41 (b0 _) rfl ?_
      refine v_iload_n C (oX9_becomes.at 15 rfl) rfl ?_
      refine v_iald C (oX9_becomes.at 16 rfl) (bg _) (by decide) rfl (by omega) h2.1 ?_
      refine v_icmp_neN C (oX9_becomes.at 17 rfl) (tgt := 32) (by decide) (by omega) (by omega) (fun hc => ?_) (fun hc => ?_)
      · refine v_iconst C (oX9_becomes.at 20 rfl) (v := nI 1) rfl ?_
        exact fin 1 (by rw [if_pos (decide_eq_true hc)])
      · refine v_iconst C (oX9_becomes.at 18 rfl) (v := nI 0) rfl ?_
        refine v_goto C (oX9_becomes.at 19 rfl) (tgt := 33) (by decide) ?_
        exact fin 0 (by rw [if_neg (by simp [hc])])
