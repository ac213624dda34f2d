/-! ===== the reference: turned words, mirrors, complements ===== -/
theorem k9_turned {w : Wt} {h : Hp} {u : Nat → Int32} {k x n : Nat} (ho : h 62 = MO u) (hu1 : u 1 = nI k) (hk : k = 2 ∨ k = 3) (hx : x < 2 ^ 31) (hn : n < 2 ^ 31) : ConN mX9_turned 0 (0, 0) w [.ref 62, .int (nI x), .int (nI n)] h (.inl (some (.int (nI (rvw k x n))))) (fun h' => h' = h) := by
  refine conI (by decide +kernel) ⟨fun _ => rfl, rfl, by simp⟩ (fun X C => ?_)
  change V X (0, 0) w h 0 [some (.ref 62), some (.int (nI x)), some (.int (nI n)), none, none, none] []
  refine v_iconst C (oX9_turned.at 0 rfl) (v := nI 0) rfl ?_
  refine v_istore_n C (oX9_turned.at 1 rfl) rfl ?_
  refine v_iload_n C (oX9_turned.at 2 rfl) rfl ?_
  refine v_istore C (oX9_turned.at 3 rfl) rfl ?_
  refine v_iconst C (oX9_turned.at 4 rfl) (v := nI 0) rfl ?_
  refine v_istore C (oX9_turned.at 5 rfl) rfl ?_
  dsimp only [sto1, sto2, killL]
  suffices H : ∀ d i, i + d = n → V X (0, 0) w h 8 [some (.ref 62), some (.int (nI x)), some (.int (nI n)), some (.int (nI (rvw k x i))), some (.int (nI (x / k ^ i))), some (.int (nI i))] [] by
    have := H n 0 (by omega)
    rw [Nat.pow_zero, Nat.div_one] at this
    exact this
  intro d
  induction d with
  | zero =>
    intro i hi
    obtain rfl : i = n := by omega
    refine v_iload C (oX9_turned.at 6 rfl) rfl ?_
    refine v_iload_n C (oX9_turned.at 7 rfl) rfl ?_
    refine v_icmp_geN C (oX9_turned.at 8 rfl) (tgt := 44) (by decide) (by omega) (by omega) (fun hc => ?_) (fun hc => ?_)
    · refine v_iload_n C (oX9_turned.at 26 rfl) rfl ?_
      exact v_iret C (oX9_turned.at 27 rfl) rfl rfl ⟨Nat.le_refl _, Nat.le_refl _⟩ ⟨rfl, rfl⟩
    · exact absurd hc (by omega)
  | succ d ih =>
    intro i hi
    have hd : x / k ^ i ≤ x := Nat.div_le_self _ _
    have ih := ih (i + 1) (by omega)
    rw [rvw, Nat.mul_comm, show k ^ (i + 1) = k ^ i * k from Nat.pow_succ _ _, ← Nat.div_div_eq_div_mul] at ih
    refine v_iload C (oX9_turned.at 6 rfl) rfl ?_
    refine v_iload_n C (oX9_turned.at 7 rfl) rfl ?_
    refine v_icmp_geN C (oX9_turned.at 8 rfl) (tgt := 44) (by decide) (by omega) (by omega) (fun hc => ?_) (fun hc => ?_)
    · exact absurd hc (by omega)
    · refine v_aload_n C (oX9_turned.at 9 rfl) rfl ?_
      refine v_getf C (oX9_turned.at 10 rfl) fX9_7 ho rfl ?_
      rw [hu1]
      refine v_iload_n C (oX9_turned.at 11 rfl) rfl ?_
      refine v_imulN C (oX9_turned.at 12 rfl) ?_
      refine v_iload C (oX9_turned.at 13 rfl) rfl ?_
      refine v_aload_n C (oX9_turned.at 14 rfl) rfl ?_
      refine v_getf C (oX9_turned.at 15 rfl) fX9_7 ho rfl ?_
      rw [hu1]
      refine v_iremN C (oX9_turned.at 16 rfl) (by omega) (by omega) (by omega) ?_
      refine v_iaddN C (oX9_turned.at 17 rfl) ?_
      refine v_istore_n C (oX9_turned.at 18 rfl) rfl ?_
      refine v_iload C (oX9_turned.at 19 rfl) rfl ?_
      refine v_aload_n C (oX9_turned.at 20 rfl) rfl ?_
      refine v_getf C (oX9_turned.at 21 rfl) fX9_7 ho rfl ?_
      rw [hu1]
      refine v_idivN C (oX9_turned.at 22 rfl) (by omega) (by omega) (by omega) ?_
      refine v_istore C (oX9_turned.at 23 rfl) rfl ?_
      dsimp only [sto1, sto2, killL]
      refine v_iincN C (oX9_turned.at 24 rfl) rfl ?_
      refine v_goto C (oX9_turned.at 25 rfl) (tgt := 8) (by decide) ?_
      dsimp only [sto1, sto2, killL]
      exact ih
theorem k9_mirrors {w : Wt} {h : Hp} {u : Nat → Int32} {k wd q d : Nat} {f g : Nat → Int32} (ho : h 62 = MO u) (hu1 : u 1 = nI k) (hu2 : u 2 = nI wd) (hs : SZ k wd) (hq : h q = io 27 f) (hd : h d = io 27 g) (hqd : q ≠ d) (hd2 : d ≠ 62) : ConN mX9_mirrors 2 (0, 0) w [.ref 62, .ref q, .ref d] h (.inl none) (fun h' => h' = hu h d (io 27 (mix g (fun i => f (rvw k i wd)) (k ^ wd)))) := by
  have hk := hs.k
  have hw := hs.w
  have hm := hs.m
  have b0 : ∀ g', hu h d (io 27 g') 62 = MO u := fun g' => (hu_n _ _ (by omega)).trans ho
  have bq : ∀ g', hu h d (io 27 g') q = io 27 f := fun g' => (hu_n _ _ hqd).trans hq
  refine conI (by decide +kernel) ⟨fun _ => rfl, rfl, by simp⟩ (fun X C => ?_)
  change V X (0, 0) w h 0 [some (.ref 62), some (.ref q), some (.ref d), none] []
  refine v_iconst C (oX9_mirrors.at 0 rfl) (v := nI 0) rfl ?_
  refine v_istore_n C (oX9_mirrors.at 1 rfl) rfl ?_
  dsimp only [sto1, sto2, killL]
  suffices H : ∀ e i, i + e = k ^ wd → V X (0, 0) w (hu h d (io 27 (mix g (fun i => f (rvw k i wd)) i))) 2 [some (.ref 62), some (.ref q), some (.ref d), some (.int (nI i))] [] by
    have := H (k ^ wd) 0 (by omega)
    rw [mix_0, hu_id h hd] at this
    exact this
  intro e
  induction e with
  | zero =>
    intro i hi
    obtain rfl : i = k ^ wd := by omega
    refine v_iload_n C (oX9_mirrors.at 2 rfl) rfl ?_
    refine v_aload_n C (oX9_mirrors.at 3 rfl) rfl ?_
    refine v_callV C (oX9_mirrors.at 4 rfl) cX9_114 (b0 _) (k9_all (b0 _) hu1 hu2 (by omega)) rfl rfl rfl ⟨rfl, rfl⟩ rfl rfl (fun _ => rfl) (fun h' hp => ?_)
    rw [show h' = _ from hp]
    dsimp only [Option.toList, List.cons_append, List.nil_append]
    refine v_icmp_geN C (oX9_mirrors.at 5 rfl) (tgt := 30) (by decide) (by omega) (by omega) (fun hc => ?_) (fun hc => ?_)
    · exact v_vret C (oX9_mirrors.at 18 rfl) rfl rfl ⟨Nat.le_refl _, Nat.le_refl _⟩ ⟨rfl, rfl⟩
    · exact absurd hc (by omega)
  | succ e ih =>
    intro i hi
    have hr := rvw_lt (k := k) (by omega) i wd
    refine v_iload_n C (oX9_mirrors.at 2 rfl) rfl ?_
    refine v_aload_n C (oX9_mirrors.at 3 rfl) rfl ?_
    refine v_callV C (oX9_mirrors.at 4 rfl) cX9_114 (b0 _) (k9_all (b0 _) hu1 hu2 (by omega)) rfl rfl rfl ⟨rfl, rfl⟩ rfl rfl (fun _ => rfl) (fun h' hp => ?_)
    rw [show h' = _ from hp]
    dsimp only [Option.toList, List.cons_append, List.nil_append]
    refine v_icmp_geN C (oX9_mirrors.at 5 rfl) (tgt := 30) (by decide) (by omega) (by omega) (fun hc => ?_) (fun hc => ?_)
    · exact absurd hc (by omega)
    · refine v_aload_n C (oX9_mirrors.at 6 rfl) rfl ?_
      refine v_iload_n C (oX9_mirrors.at 7 rfl) rfl ?_
      refine v_aload_n C (oX9_mirrors.at 8 rfl) rfl ?_
      refine v_aload_n C (oX9_mirrors.at 9 rfl) rfl ?_
      refine v_iload_n C (oX9_mirrors.at 10 rfl) rfl ?_
      refine v_aload_n C (oX9_mirrors.at 11 rfl) rfl ?_
      refine v_getf C (oX9_mirrors.at 12 rfl) fX9_13 (b0 _) rfl ?_
      rw [hu2]
      refine v_callV C (oX9_mirrors.at 13 rfl) cX9_128 (b0 _) (k9_turned (b0 _) hu1 hk (by omega) (by omega)) rfl rfl rfl ⟨rfl, rfl⟩ rfl rfl (fun _ => rfl) (fun h' hp => ?_)
      rw [show h' = _ from hp]
      dsimp only [Option.toList, List.cons_append, List.nil_append]
      refine v_iald C (oX9_mirrors.at 14 rfl) (bq _) (by decide) rfl (by omega) rfl ?_
      refine v_iast C (oX9_mirrors.at 15 rfl) (hu_s _ _ _) (by decide) rfl (by omega) ?_
      rw [hu_hu, mix_s _ _ _ _ rfl]
      refine v_iincN C (oX9_mirrors.at 16 rfl) rfl ?_
      refine v_goto C (oX9_mirrors.at 17 rfl) (tgt := 2) (by decide) ?_
      dsimp only [sto1, sto2, killL]
      exact ih (i + 1) (by omega)
