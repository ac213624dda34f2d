/-! ===== the reference: values, compile ===== -/
theorem fmod9 {v : Int32} {k : Nat} (hk : k = 2 ∨ k = 3) : (0 ≤ v - v / nI k * nI k → v - v / nI k * nI k = nI (fmN v k)) ∧ (¬ 0 ≤ v - v / nI k * nI k → v - v / nI k * nI k + nI k = nI (fmN v k)) := by
  have hr := rem23 (x := v) hk
  have hf : fmN v k < k := fmN_lt (by omega)
  have hfi : (fmN v k : Int) = v.toInt % k := by
    unfold fmN
    have h1 := Int.emod_nonneg v.toInt (b := (k : Int)) (by omega)
    omega
  have h0i : (0 : Int32).toInt = 0 := by decide
  generalize v - v / nI k * nI k = r at *
  rw [Int32.le_iff_toInt_le, h0i]
  constructor
  · intro h0
    apply Int32.toInt_inj.mp
    rw [nI_toInt (by omega), hfi, hr]
    rw [hr] at h0
    split
    · rfl
    · next a2 =>
      rw [if_neg a2] at h0
      rcases hk with rfl | rfl <;> omega
  · intro h0
    apply Int32.toInt_inj.mp
    rw [nI_toInt (by omega), hfi, Int32.toInt_add, nI_toInt (by omega), hr]
    rw [hr] at h0
    split
    · next a2 =>
      rw [if_pos a2] at h0
      rcases hk with rfl | rfl <;> omega
    · next a2 =>
      rw [if_neg a2] at h0
      rw [Int.bmod_eq_of_le (by rcases hk with rfl | rfl <;> omega) (by rcases hk with rfl | rfl <;> omega)]
      rcases hk with rfl | rfl <;> omega
theorem k9_value {w : Wt} {h1 : Hp} {S : Sc} {u fc g0 : Nat → Int32} {c : List Nat} {x0 : Nat} (a0 : h1 62 = MO u) (a1 : u 1 = nI S.1) (a2 : u 2 = nI S.2.1) (hs : SZ S.1 S.2.1) (a19 : u 19 = nI c.length) (h72 : h1 72 = io 40 fc) (hLA : LA fc (c.map cm)) (h74 : h1 74 = io 40 g0) (hok : okc S.2.1 c) (hh1 : hgt S.2.1 c = 1) (hl40 : c.length ≤ 40) (hx0 : x0 < 2 ^ 31) : ConN mX9_value 1 (0, 0) w [.ref 62, .int (nI x0)] h1 (.inl (some (.int (if (evR (cel S.1 S.2.1 x0) c).1 = 0 then nI (fmN ((evR (cel S.1 S.2.1 x0) c).2.headD 0) S.1) else nI 0)))) (fun h' => ∃ u', h' 62 = MO u' ∧ u' 24 = nI (evR (cel S.1 S.2.1 x0) c).1 ∧ (∀ j, j ≠ 24 → u' j = u j) ∧ (∃ g, h' 74 = io 40 g) ∧ ∀ j, j ≠ 62 → j ≠ 74 → h' j = h1 j) := by
  have hk := hs.k
  have hwd := hs.w
  generalize hcl : cel S.1 S.2.1 x0 = cl at *
  refine conI (by decide +kernel) ⟨fun _ => rfl, rfl, by simp⟩ (fun X C => ?_)
  change V X (0, 0) w h1 0 [some (.ref 62), some (.int (nI x0)), none, none, none, none, none] []
  refine v_iconst C (oX9_value.at 0 rfl) (v := nI 0) rfl ?_
  refine v_istore_n C (oX9_value.at 1 rfl) rfl ?_
  refine v_aload_n C (oX9_value.at 2 rfl) rfl ?_
  refine v_iconst C (oX9_value.at 3 rfl) (v := nI 0) rfl ?_
  dsimp only [sto1, sto2, killL]
  refine v_put9 C (oX9_value.at 4 rfl) fX9_201 p9_24 a0 ⟨rfl, rfl, rfl⟩ ?_
  refine v_iconst C (oX9_value.at 5 rfl) (v := nI 0) rfl ?_
  refine v_istore_n C (oX9_value.at 6 rfl) rfl ?_
  dsimp only [sto1, sto2, killL]
  have d0 : hu h1 62 (MO (upd u 24 (nI 0))) 62 = MO (upd u 24 (nI 0)) := hu_s _ _ _
  have c24 : ∀ j, j ≠ 24 → upd u 24 (nI 0) j = u j := fun j hj => if_neg hj
  have u24 : upd u 24 (nI 0) 24 = nI 0 := if_pos rfl
  have c1 : upd u 24 (nI 0) 1 = nI S.1 := a1
  have c2 : upd u 24 (nI 0) 2 = nI S.2.1 := a2
  have c19 : upd u 24 (nI 0) 19 = nI c.length := a19
  have cf : ∀ j, j ≠ 62 → hu h1 62 (MO (upd u 24 (nI 0))) j = h1 j := fun j hj => hu_n _ _ hj
  generalize hu h1 62 (MO (upd u 24 (nI 0))) = h2 at *
  generalize upd u 24 (nI 0) = u2 at *
  have c0 : ∀ g, hu h2 74 (io 40 g) 62 = MO u2 := fun g => (hu_n _ _ (by decide)).trans d0
  have c72 : ∀ g, hu h2 74 (io 40 g) 72 = io 40 fc := fun g => (hu_n _ _ (by decide)).trans ((cf 72 (by decide)).trans h72)
  suffices H : ∀ d, d ≤ c.length → ∀ g l4 l5 l6, (evR cl (c.drop d)).1 = 0 → LV g (evR cl (c.drop d)).2 → V X (0, 0) w (hu h2 74 (io 40 g)) 9 [some (.ref 62), some (.int (nI x0)), some (.int (nI (hgt S.2.1 (c.drop d)))), some (.int (nI (c.length - d))), l4, l5, l6] [] by
    have := H c.length (Nat.le_refl _) g0 none none none (by rw [List.drop_length]; rfl) (by rw [List.drop_length]; exact LV.nil _)
    rw [hu_id h2 ((cf 74 (by decide)).trans h74), List.drop_length, Nat.sub_self] at this
    exact this
  intro d
  induction d with
  | zero =>
    intro _ g l4 l5 l6 he hV
    rw [List.drop_zero] at he hV ⊢
    have hlen := evR_len c hok he
    rw [if_pos he] at C
    have hg : g 0 = (evR cl c).2.headD 0 := by
      have q := hV 0 (by omega)
      rw [hlen, hh1] at q
      rw [q]
      cases (evR cl c).2 <;> rfl
    rw [he] at C
    have hfm := fmod9 (v := (evR cl c).2.headD 0) hk
    have hne : ¬ nI S.1 = 0 := by rcases hk with q | q <;> rw [q] <;> decide
    refine v_iload_n C (oX9_value.at 7 rfl) rfl ?_
    refine v_aload_n C (oX9_value.at 8 rfl) rfl ?_
    refine v_getf C (oX9_value.at 9 rfl) fX9_155 (c0 _) (congrArg (fun z => some (Value.int z)) (c19)) ?_
    refine v_icmp_geN C (oX9_value.at 10 rfl) (tgt := 342) (by decide) (by omega) (by omega) (fun hc => ?_) (fun hc => absurd hc (by omega))
    refine v_aload_n C (oX9_value.at 175 rfl) rfl ?_
    refine v_getf C (oX9_value.at 176 rfl) fX9_53 (c0 _) rfl ?_
    refine v_iconst C (oX9_value.at 177 rfl) (v := nI 0) rfl ?_
    refine v_iald C (oX9_value.at 178 rfl) (hu_s _ _ _) (by decide) rfl (by omega) hg ?_
    refine v_aload_n C (oX9_value.at 179 rfl) rfl ?_
    refine v_getf C (oX9_value.at 180 rfl) fX9_7 (c0 _) (congrArg (fun z => some (Value.int z)) (c1)) ?_
    refine v_irem C (oX9_value.at 181 rfl) hne ?_
    refine v_istore_n C (oX9_value.at 182 rfl) rfl ?_
    refine v_iload_n C (oX9_value.at 183 rfl) rfl ?_
    dsimp only [sto1, sto2, killL]
    refine v_if_ge C (oX9_value.at 184 rfl) (tgt := 367) (by decide) (fun hc => ?_) (fun hc => ?_)
    · rw [hfm.1 hc]
      refine v_iload_n C (oX9_value.at 190 rfl) rfl ?_
      exact v_iret C (oX9_value.at 191 rfl) rfl rfl ⟨Nat.le_refl _, Nat.le_refl _⟩ ⟨rfl, u2, c0 _, u24, c24, ⟨g, hu_s _ _ _⟩, fun j j1 j2 => (hu_n _ _ j2).trans (cf j j1)⟩
    · refine v_iload_n C (oX9_value.at 185 rfl) rfl ?_
      refine v_aload_n C (oX9_value.at 186 rfl) rfl ?_
      refine v_getf C (oX9_value.at 187 rfl) fX9_7 (c0 _) (congrArg (fun z => some (Value.int z)) (c1)) ?_
      refine v_iadd C (oX9_value.at 188 rfl) ?_
      rw [hfm.2 hc]
      refine v_goto C (oX9_value.at 189 rfl) (tgt := 368) (by decide) ?_
      exact v_iret C (oX9_value.at 191 rfl) rfl rfl ⟨Nat.le_refl _, Nat.le_refl _⟩ ⟨rfl, u2, c0 _, u24, c24, ⟨g, hu_s _ _ _⟩, fun j j1 j2 => (hu_n _ _ j2).trans (cf j j1)⟩
  | succ d ih =>
    intro hd g l4 l5 l6 he hV
    have hdc : c.drop d = c[d] :: c.drop (d + 1) := List.drop_eq_getElem_cons (by omega)
    have hfx : fc (c.length - (d + 1)) = nI (cm c[d]) := by
      rw [hLA _ (by rw [List.length_map]; omega), List.length_map, show c.length - 1 - (c.length - (d + 1)) = d by omega]
      congr 1
      rw [List.getD_eq_getElem?_getD, List.getElem?_map, List.getElem?_eq_getElem (by omega)]; rfl
    have hokd := okc_drop d c hok
    rw [hdc] at hokd
    have hS := evR_len (cl := cl) _ (okc_drop (d + 1) c hok) he
    have hh := hgt_le S.2.1 (c.drop (d + 1))
    rw [List.length_drop] at hh
    have ih := ih (by omega)
    have hev : evR cl (c.drop d) = vst cl c[d] (evR cl (c.drop (d + 1))).2 := by rw [hdc, evR, if_pos he]
    rw [hdc] at ih
    rw [← hdc, hev] at ih
    have herr := evR_err (cl := cl) d c
    rw [hev] at herr
    clear hev
    rw [show c.length - d = c.length - (d + 1) + 1 by omega] at ih
    have hil : c.length - (d + 1) < c.length := by omega
    generalize c.length - (d + 1) = i at *
    rw [hdc] at ih
    generalize hxe : c[d] = x at *
    generalize c.drop (d + 1) = l at *
    generalize (evR cl l).2 = W at *
    rcases hokd.2 with o | ⟨o, o1⟩ | ⟨o, o2⟩
    · rw [hgt_opd o, ← hS] at ih
      rw [← hS] at hh ⊢
      rw [opd_iff] at o
      by_cases e : 48 ≤ x ∧ x ≤ 57
      · rw [vst_dig e] at ih
        have hcx : cm x = x - 48 := by unfold cm; rw [if_pos e]
        rw [hcx] at hfx
        refine v_iload_n C (oX9_value.at 7 rfl) rfl ?_
        refine v_aload_n C (oX9_value.at 8 rfl) rfl ?_
        refine v_getf C (oX9_value.at 9 rfl) fX9_155 (c0 _) (congrArg (fun z => some (Value.int z)) (c19)) ?_
        refine v_icmp_geN C (oX9_value.at 10 rfl) (tgt := 342) (by decide) (by omega) (by omega) (fun hc => absurd hc (by omega)) (fun hc => ?_)
        refine v_aload_n C (oX9_value.at 11 rfl) rfl ?_
        refine v_getf C (oX9_value.at 12 rfl) fX9_47 (c0 _) rfl ?_
        refine v_iload_n C (oX9_value.at 13 rfl) rfl ?_
        refine v_iald C (oX9_value.at 14 rfl) (c72 _) (by decide) rfl (by omega) hfx ?_
        refine v_istore C (oX9_value.at 15 rfl) rfl ?_
        refine v_iload C (oX9_value.at 16 rfl) rfl ?_
        refine v_bipush C (oX9_value.at 17 rfl) (v := nI 14) rfl ?_
        dsimp only [sto1, sto2, killL]
        refine v_icmp_geN C (oX9_value.at 18 rfl) (tgt := 79) (by decide) (by omega) (by omega) (fun hc => absurd hc (by omega)) (fun hc => ?_)
        refine v_aload_n C (oX9_value.at 19 rfl) rfl ?_
        refine v_getf C (oX9_value.at 20 rfl) fX9_53 (c0 _) rfl ?_
        refine v_iload_n C (oX9_value.at 21 rfl) rfl ?_
        refine v_iload C (oX9_value.at 22 rfl) rfl ?_
        refine v_bipush C (oX9_value.at 23 rfl) (v := nI 10) rfl ?_
        refine v_icmp_geN C (oX9_value.at 24 rfl) (tgt := 49) (by decide) (by omega) (by omega) (fun hc => absurd hc (by omega)) (fun hc => ?_)
        refine v_iload C (oX9_value.at 25 rfl) rfl ?_
        refine v_goto C (oX9_value.at 26 rfl) (tgt := 72) (by decide) ?_
        refine v_iast C (oX9_value.at 42 rfl) (hu_s _ _ _) (by decide) rfl (by omega) ?_
        rw [hu_hu]
        refine v_iincN C (oX9_value.at 43 rfl) rfl ?_
        refine v_goto C (oX9_value.at 44 rfl) (tgt := 336) (by decide) ?_
        refine v_iincN C (oX9_value.at 173 rfl) rfl ?_
        refine v_goto C (oX9_value.at 174 rfl) (tgt := 9) (by decide) ?_
        dsimp only [sto1, sto2, killL]
        exact ih _ _ _ _ rfl (hV.push _)
      · rw [vst_cel (by omega)] at ih
        have hcx : cm x = x - 87 := by unfold cm; rw [if_neg e, if_pos (by omega)]
        rw [hcx] at hfx
        have hv : nI (x0 / S.1 ^ (S.2.1 - 1 - (x - 87 - 10)) % S.1) = nI (cl (x - 97)) := by
          rw [← hcl]
          unfold cel
          rw [show x - 87 - 10 = x - 97 by omega]
        have p0 : 0 < S.1 ^ (S.2.1 - 1 - (x - 87 - 10)) := Nat.pow_pos (by omega)
        have p1 := pw14 hk (n := S.2.1 - 1 - (x - 87 - 10)) (by omega)
        have p2 : x0 / S.1 ^ (S.2.1 - 1 - (x - 87 - 10)) ≤ x0 := Nat.div_le_self _ _
        refine v_iload_n C (oX9_value.at 7 rfl) rfl ?_
        refine v_aload_n C (oX9_value.at 8 rfl) rfl ?_
        refine v_getf C (oX9_value.at 9 rfl) fX9_155 (c0 _) (congrArg (fun z => some (Value.int z)) (c19)) ?_
        refine v_icmp_geN C (oX9_value.at 10 rfl) (tgt := 342) (by decide) (by omega) (by omega) (fun hc => absurd hc (by omega)) (fun hc => ?_)
        refine v_aload_n C (oX9_value.at 11 rfl) rfl ?_
        refine v_getf C (oX9_value.at 12 rfl) fX9_47 (c0 _) rfl ?_
        refine v_iload_n C (oX9_value.at 13 rfl) rfl ?_
        refine v_iald C (oX9_value.at 14 rfl) (c72 _) (by decide) rfl (by omega) hfx ?_
        refine v_istore C (oX9_value.at 15 rfl) rfl ?_
        refine v_iload C (oX9_value.at 16 rfl) rfl ?_
        refine v_bipush C (oX9_value.at 17 rfl) (v := nI 14) rfl ?_
        dsimp only [sto1, sto2, killL]
        refine v_icmp_geN C (oX9_value.at 18 rfl) (tgt := 79) (by decide) (by omega) (by omega) (fun hc => absurd hc (by omega)) (fun hc => ?_)
        refine v_aload_n C (oX9_value.at 19 rfl) rfl ?_
        refine v_getf C (oX9_value.at 20 rfl) fX9_53 (c0 _) rfl ?_
        refine v_iload_n C (oX9_value.at 21 rfl) rfl ?_
        refine v_iload C (oX9_value.at 22 rfl) rfl ?_
        refine v_bipush C (oX9_value.at 23 rfl) (v := nI 10) rfl ?_
        refine v_icmp_geN C (oX9_value.at 24 rfl) (tgt := 49) (by decide) (by omega) (by omega) (fun hc => ?_) (fun hc => absurd hc (by omega))
        refine v_iload_n C (oX9_value.at 27 rfl) rfl ?_
        refine v_aload_n C (oX9_value.at 28 rfl) rfl ?_
        refine v_aload_n C (oX9_value.at 29 rfl) rfl ?_
        refine v_getf C (oX9_value.at 30 rfl) fX9_13 (c0 _) (congrArg (fun z => some (Value.int z)) (c2)) ?_
        refine v_iconst C (oX9_value.at 31 rfl) (v := nI 1) rfl ?_
        refine v_isubN C (oX9_value.at 32 rfl) (by omega) ?_
        refine v_iload C (oX9_value.at 33 rfl) rfl ?_
        refine v_bipush C (oX9_value.at 34 rfl) (v := nI 10) rfl ?_
        refine v_isubN C (oX9_value.at 35 rfl) (by omega) ?_
        refine v_isubN C (oX9_value.at 36 rfl) (by omega) ?_
        refine v_callV C (oX9_value.at 37 rfl) cX9_99 (c0 _) (k9_power (c0 _) c1 (by omega)) rfl rfl rfl ⟨rfl, rfl⟩ rfl rfl (fun _ => rfl) (fun h' hp => ?_)
        rw [show h' = _ from hp]
        dsimp only [Option.toList, List.cons_append, List.nil_append]
        refine v_idivN C (oX9_value.at 38 rfl) (by omega) (by omega) (by omega) ?_
        refine v_aload_n C (oX9_value.at 39 rfl) rfl ?_
        refine v_getf C (oX9_value.at 40 rfl) fX9_7 (c0 _) (congrArg (fun z => some (Value.int z)) (c1)) ?_
        refine v_iremN C (oX9_value.at 41 rfl) (by omega) (by omega) (by omega) ?_
        rw [hv]
        refine v_iast C (oX9_value.at 42 rfl) (hu_s _ _ _) (by decide) rfl (by omega) ?_
        rw [hu_hu]
        refine v_iincN C (oX9_value.at 43 rfl) rfl ?_
        refine v_goto C (oX9_value.at 44 rfl) (tgt := 336) (by decide) ?_
        refine v_iincN C (oX9_value.at 173 rfl) rfl ?_
        refine v_goto C (oX9_value.at 174 rfl) (tgt := 9) (by decide) ?_
        dsimp only [sto1, sto2, killL]
        exact ih _ _ _ _ rfl (hV.push _)
    · subst o
      rw [hgt_not, vst_not, ← hS] at ih
      rw [← hS] at hh o1 ⊢
      cases W with
      | nil => exact absurd o1 (by decide)
      | cons v r =>
        rw [List.length_cons] at ih hh ⊢
        have hgv : g (r.length + 1 - 1) = v := hV.top
        have hcx : cm 33 = 33 := rfl
        rw [hcx] at hfx
        have key : ∀ y, (y = if v = 0 then 1 else 0) → V X (0, 0) w (hu h2 74 (io 40 g)) 109 [some (.ref 62), some (.int (nI x0)), some (.int (nI (r.length + 1))), some (.int (nI i)), some (.int (nI 33)), l5, l6] [.int y, .int (nI (r.length + 1 - 1)), .ref 74] := by
          intro y hy
          subst hy
          refine v_iast C (oX9_value.at 63 rfl) (hu_s _ _ _) (by decide) rfl (by omega) ?_
          rw [hu_hu]
          refine v_goto C (oX9_value.at 64 rfl) (tgt := 336) (by decide) ?_
          refine v_iincN C (oX9_value.at 173 rfl) rfl ?_
          refine v_goto C (oX9_value.at 174 rfl) (tgt := 9) (by decide) ?_
          dsimp only [sto1, sto2, killL]
          exact ih _ _ _ _ rfl (hV.pop.push _)
        refine v_iload_n C (oX9_value.at 7 rfl) rfl ?_
        refine v_aload_n C (oX9_value.at 8 rfl) rfl ?_
        refine v_getf C (oX9_value.at 9 rfl) fX9_155 (c0 _) (congrArg (fun z => some (Value.int z)) (c19)) ?_
        refine v_icmp_geN C (oX9_value.at 10 rfl) (tgt := 342) (by decide) (by omega) (by omega) (fun hc => absurd hc (by omega)) (fun hc => ?_)
        refine v_aload_n C (oX9_value.at 11 rfl) rfl ?_
        refine v_getf C (oX9_value.at 12 rfl) fX9_47 (c0 _) rfl ?_
        refine v_iload_n C (oX9_value.at 13 rfl) rfl ?_
        refine v_iald C (oX9_value.at 14 rfl) (c72 _) (by decide) rfl (by omega) hfx ?_
        refine v_istore C (oX9_value.at 15 rfl) rfl ?_
        refine v_iload C (oX9_value.at 16 rfl) rfl ?_
        refine v_bipush C (oX9_value.at 17 rfl) (v := nI 14) rfl ?_
        dsimp only [sto1, sto2, killL]
        refine v_icmp_geN C (oX9_value.at 18 rfl) (tgt := 79) (by decide) (by omega) (by omega) (fun hc => ?_) (fun hc => absurd hc (by omega))
        refine v_iload C (oX9_value.at 45 rfl) rfl ?_
        refine v_bipush C (oX9_value.at 46 rfl) (v := nI 33) rfl ?_
        refine v_icmp_neN C (oX9_value.at 47 rfl) (tgt := 113) (by decide) (by omega) (by omega) (fun hc => absurd hc (by omega)) (fun hc => ?_)
        refine v_aload_n C (oX9_value.at 48 rfl) rfl ?_
        refine v_getf C (oX9_value.at 49 rfl) fX9_53 (c0 _) rfl ?_
        refine v_iload_n C (oX9_value.at 50 rfl) rfl ?_
        refine v_iconst C (oX9_value.at 51 rfl) (v := nI 1) rfl ?_
        refine v_isubN C (oX9_value.at 52 rfl) (by omega) ?_
        refine v_aload_n C (oX9_value.at 53 rfl) rfl ?_
        refine v_getf C (oX9_value.at 54 rfl) fX9_53 (c0 _) rfl ?_
        refine v_iload_n C (oX9_value.at 55 rfl) rfl ?_
        refine v_iconst C (oX9_value.at 56 rfl) (v := nI 1) rfl ?_
        refine v_isubN C (oX9_value.at 57 rfl) (by omega) ?_
        refine v_iald C (oX9_value.at 58 rfl) (hu_s _ _ _) (by decide) rfl (by omega) hgv ?_
        refine v_if_ne C (oX9_value.at 59 rfl) (tgt := 108) (by decide) (fun hc => ?_) (fun hc => ?_)
        · refine v_iconst C (oX9_value.at 62 rfl) (v := nI 0) rfl ?_
          exact key _ (by rw [if_neg hc]; rfl)
        · refine v_iconst C (oX9_value.at 60 rfl) (v := nI 1) rfl ?_
          refine v_goto C (oX9_value.at 61 rfl) (tgt := 109) (by decide) ?_
          exact key _ (by rw [if_pos hc]; rfl)
    · rw [hgt_op o, vst_op o, ← hS] at ih
      rw [vst_op o] at herr
      rw [← hS] at hh o2 ⊢
      obtain ⟨b, a, r, rfl⟩ : ∃ b a r, W = b :: a :: r := by
        cases W with
        | nil => exact absurd o2 (by decide)
        | cons b W =>
          cases W with
          | nil => exact absurd o2 (by rw [List.length_cons]; decide)
          | cons a r => exact ⟨b, a, r, rfl⟩
      rw [List.length_cons, List.length_cons] at ih hh ⊢
      have hga : g (r.length + 1 - 1) = a := hV.pop.top
      have hgb : g (r.length + 1) = b := hV.top
      have hpp := hV.pop.pop
      have key : ∀ {m : Nat} (y : Int32), (∀ g l4 l5 l6, LV g (y :: r) → V X (0, 0) w (hu h2 74 (io 40 g)) 9 [some (.ref 62), some (.int (nI x0)), some (.int (nI (r.length + 1 + 1 - 1))), some (.int (nI (i + 1))), l4, l5, l6] []) → V X (0, 0) w (hu h2 74 (io 40 g)) 335 [some (.ref 62), some (.int (nI x0)), some (.int (nI (r.length + 1))), some (.int (nI i)), some (.int (nI m)), some (.int a), some (.int b)] [.int y, .int (nI (r.length + 1 - 1)), .ref 74] := by
        intro m y hy
        refine v_iast C (oX9_value.at 172 rfl) (hu_s _ _ _) (by decide) rfl (by omega) ?_
        rw [hu_hu]
        refine v_iincN C (oX9_value.at 173 rfl) rfl ?_
        refine v_goto C (oX9_value.at 174 rfl) (tgt := 9) (by decide) ?_
        dsimp only [sto1, sto2, killL]
        exact hy _ _ _ _ (hpp.push _)
      replace ih : ∀ g l4 l5 l6, (if cmbK x b = 0 then ((0, cmbV x a b :: r) : Nat × List Int32) else (cmbK x b, [])).1 = 0 → LV g (if cmbK x b = 0 then ((0, cmbV x a b :: r) : Nat × List Int32) else (cmbK x b, [])).2 → V X (0, 0) w (hu h2 74 (io 40 g)) 9 [some (.ref 62), some (.int (nI x0)), some (.int (nI (r.length + 1 + 1 - 1))), some (.int (nI (i + 1))), l4, l5, l6] [] := ih
      replace herr : (if cmbK x b = 0 then ((0, cmbV x a b :: r) : Nat × List Int32) else (cmbK x b, [])).1 ≠ 0 → evR cl c = if cmbK x b = 0 then ((0, cmbV x a b :: r) : Nat × List Int32) else (cmbK x b, []) := herr
      rcases o with rfl | rfl | rfl | rfl | rfl | rfl | rfl | rfl | rfl
      · have hcx : cm 43 = 43 := rfl
        rw [hcx] at hfx
        refine v_iload_n C (oX9_value.at 7 rfl) rfl ?_
        refine v_aload_n C (oX9_value.at 8 rfl) rfl ?_
        refine v_getf C (oX9_value.at 9 rfl) fX9_155 (c0 _) (congrArg (fun z => some (Value.int z)) (c19)) ?_
        refine v_icmp_geN C (oX9_value.at 10 rfl) (tgt := 342) (by decide) (by omega) (by omega) (fun hc => absurd hc (by omega)) (fun hc => ?_)
        refine v_aload_n C (oX9_value.at 11 rfl) rfl ?_
        refine v_getf C (oX9_value.at 12 rfl) fX9_47 (c0 _) rfl ?_
        refine v_iload_n C (oX9_value.at 13 rfl) rfl ?_
        refine v_iald C (oX9_value.at 14 rfl) (c72 _) (by decide) rfl (by omega) hfx ?_
        refine v_istore C (oX9_value.at 15 rfl) rfl ?_
        refine v_iload C (oX9_value.at 16 rfl) rfl ?_
        refine v_bipush C (oX9_value.at 17 rfl) (v := nI 14) rfl ?_
        dsimp only [sto1, sto2, killL]
        refine v_icmp_geN C (oX9_value.at 18 rfl) (tgt := 79) (by decide) (by omega) (by omega) (fun hc => ?_) (fun hc => absurd hc (by omega))
        refine v_iload C (oX9_value.at 45 rfl) rfl ?_
        refine v_bipush C (oX9_value.at 46 rfl) (v := nI 33) rfl ?_
        refine v_icmp_neN C (oX9_value.at 47 rfl) (tgt := 113) (by decide) (by omega) (by omega) (fun hc => ?_) (fun hc => absurd hc (by omega))
        refine v_idecN C (oX9_value.at 65 rfl) rfl ?_
        dsimp only [sto1, sto2, killL]
        refine v_aload_n C (oX9_value.at 66 rfl) rfl ?_
        refine v_getf C (oX9_value.at 67 rfl) fX9_53 (c0 _) rfl ?_
        refine v_iload_n C (oX9_value.at 68 rfl) rfl ?_
        refine v_iconst C (oX9_value.at 69 rfl) (v := nI 1) rfl ?_
        refine v_isubN C (oX9_value.at 70 rfl) (by omega) ?_
        refine v_iald C (oX9_value.at 71 rfl) (hu_s _ _ _) (by decide) rfl (by omega) hga ?_
        refine v_istore C (oX9_value.at 72 rfl) rfl ?_
        dsimp only [sto1, sto2, killL]
        refine v_aload_n C (oX9_value.at 73 rfl) rfl ?_
        refine v_getf C (oX9_value.at 74 rfl) fX9_53 (c0 _) rfl ?_
        refine v_iload_n C (oX9_value.at 75 rfl) rfl ?_
        refine v_iald C (oX9_value.at 76 rfl) (hu_s _ _ _) (by decide) rfl (by omega) hgb ?_
        refine v_istore C (oX9_value.at 77 rfl) rfl ?_
        refine v_iload C (oX9_value.at 78 rfl) rfl ?_
        dsimp only [sto1, sto2, killL]
        have hk0 : cmbK 43 b = 0 := by unfold cmbK; split <;> rfl
        rw [if_pos hk0] at ih
        have key := key (m := 43) (cmbV 43 a b) (fun g l4 l5 l6 hL => ih g l4 l5 l6 rfl hL)
        have M : V X (0, 0) w (hu h2 74 (io 40 g)) 171 [some (.ref 62), some (.int (nI x0)), some (.int (nI (r.length + 1))), some (.int (nI i)), some (.int (nI 43)), some (.int a), some (.int b)] [] := by
          refine v_aload_n C (oX9_value.at 96 rfl) rfl ?_
          refine v_getf C (oX9_value.at 97 rfl) fX9_53 (c0 _) rfl ?_
          refine v_iload_n C (oX9_value.at 98 rfl) rfl ?_
          refine v_iconst C (oX9_value.at 99 rfl) (v := nI 1) rfl ?_
          refine v_isubN C (oX9_value.at 100 rfl) (by omega) ?_
          refine v_iload C (oX9_value.at 101 rfl) rfl ?_
          refine v_bipush C (oX9_value.at 102 rfl) (v := nI 43) rfl ?_
          refine v_icmp_neN C (oX9_value.at 103 rfl) (tgt := 193) (by decide) (by omega) (by omega) (fun hc => absurd hc (by omega)) (fun hc => ?_)
          refine v_iload C (oX9_value.at 104 rfl) rfl ?_
          refine v_iload C (oX9_value.at 105 rfl) rfl ?_
          refine v_iadd C (oX9_value.at 106 rfl) ?_
          refine v_goto C (oX9_value.at 107 rfl) (tgt := 335) (by decide) ?_
          exact key
        refine v_if_ne C (oX9_value.at 79 rfl) (tgt := 171) (by decide) (fun hb0 => M) (fun hb0 => ?_)
        refine v_iload C (oX9_value.at 80 rfl) rfl ?_
        refine v_bipush C (oX9_value.at 81 rfl) (v := nI 47) rfl ?_
        refine v_icmp_eqN C (oX9_value.at 82 rfl) (tgt := 153) (by decide) (by omega) (by omega) (fun hc => absurd hc (by omega)) (fun hc => ?_)
        refine v_iload C (oX9_value.at 83 rfl) rfl ?_
        refine v_bipush C (oX9_value.at 84 rfl) (v := nI 37) rfl ?_
        refine v_icmp_neN C (oX9_value.at 85 rfl) (tgt := 171) (by decide) (by omega) (by omega) (fun hc => ?_) (fun hc => absurd hc (by omega))
        exact M
      · have hcx : cm 45 = 45 := rfl
        rw [hcx] at hfx
        refine v_iload_n C (oX9_value.at 7 rfl) rfl ?_
        refine v_aload_n C (oX9_value.at 8 rfl) rfl ?_
        refine v_getf C (oX9_value.at 9 rfl) fX9_155 (c0 _) (congrArg (fun z => some (Value.int z)) (c19)) ?_
        refine v_icmp_geN C (oX9_value.at 10 rfl) (tgt := 342) (by decide) (by omega) (by omega) (fun hc => absurd hc (by omega)) (fun hc => ?_)
        refine v_aload_n C (oX9_value.at 11 rfl) rfl ?_
        refine v_getf C (oX9_value.at 12 rfl) fX9_47 (c0 _) rfl ?_
        refine v_iload_n C (oX9_value.at 13 rfl) rfl ?_
        refine v_iald C (oX9_value.at 14 rfl) (c72 _) (by decide) rfl (by omega) hfx ?_
        refine v_istore C (oX9_value.at 15 rfl) rfl ?_
        refine v_iload C (oX9_value.at 16 rfl) rfl ?_
        refine v_bipush C (oX9_value.at 17 rfl) (v := nI 14) rfl ?_
        dsimp only [sto1, sto2, killL]
        refine v_icmp_geN C (oX9_value.at 18 rfl) (tgt := 79) (by decide) (by omega) (by omega) (fun hc => ?_) (fun hc => absurd hc (by omega))
        refine v_iload C (oX9_value.at 45 rfl) rfl ?_
        refine v_bipush C (oX9_value.at 46 rfl) (v := nI 33) rfl ?_
        refine v_icmp_neN C (oX9_value.at 47 rfl) (tgt := 113) (by decide) (by omega) (by omega) (fun hc => ?_) (fun hc => absurd hc (by omega))
        refine v_idecN C (oX9_value.at 65 rfl) rfl ?_
        dsimp only [sto1, sto2, killL]
        refine v_aload_n C (oX9_value.at 66 rfl) rfl ?_
        refine v_getf C (oX9_value.at 67 rfl) fX9_53 (c0 _) rfl ?_
        refine v_iload_n C (oX9_value.at 68 rfl) rfl ?_
        refine v_iconst C (oX9_value.at 69 rfl) (v := nI 1) rfl ?_
        refine v_isubN C (oX9_value.at 70 rfl) (by omega) ?_
        refine v_iald C (oX9_value.at 71 rfl) (hu_s _ _ _) (by decide) rfl (by omega) hga ?_
        refine v_istore C (oX9_value.at 72 rfl) rfl ?_
        dsimp only [sto1, sto2, killL]
        refine v_aload_n C (oX9_value.at 73 rfl) rfl ?_
        refine v_getf C (oX9_value.at 74 rfl) fX9_53 (c0 _) rfl ?_
        refine v_iload_n C (oX9_value.at 75 rfl) rfl ?_
        refine v_iald C (oX9_value.at 76 rfl) (hu_s _ _ _) (by decide) rfl (by omega) hgb ?_
        refine v_istore C (oX9_value.at 77 rfl) rfl ?_
        refine v_iload C (oX9_value.at 78 rfl) rfl ?_
        dsimp only [sto1, sto2, killL]
        have hk0 : cmbK 45 b = 0 := by unfold cmbK; split <;> rfl
        rw [if_pos hk0] at ih
        have key := key (m := 45) (cmbV 45 a b) (fun g l4 l5 l6 hL => ih g l4 l5 l6 rfl hL)
        have M : V X (0, 0) w (hu h2 74 (io 40 g)) 171 [some (.ref 62), some (.int (nI x0)), some (.int (nI (r.length + 1))), some (.int (nI i)), some (.int (nI 45)), some (.int a), some (.int b)] [] := by
          refine v_aload_n C (oX9_value.at 96 rfl) rfl ?_
          refine v_getf C (oX9_value.at 97 rfl) fX9_53 (c0 _) rfl ?_
          refine v_iload_n C (oX9_value.at 98 rfl) rfl ?_
          refine v_iconst C (oX9_value.at 99 rfl) (v := nI 1) rfl ?_
          refine v_isubN C (oX9_value.at 100 rfl) (by omega) ?_
          refine v_iload C (oX9_value.at 101 rfl) rfl ?_
          refine v_bipush C (oX9_value.at 102 rfl) (v := nI 43) rfl ?_
          refine v_icmp_neN C (oX9_value.at 103 rfl) (tgt := 193) (by decide) (by omega) (by omega) (fun hc => ?_) (fun hc => absurd hc (by omega))
          refine v_iload C (oX9_value.at 108 rfl) rfl ?_
          refine v_bipush C (oX9_value.at 109 rfl) (v := nI 45) rfl ?_
          refine v_icmp_neN C (oX9_value.at 110 rfl) (tgt := 208) (by decide) (by omega) (by omega) (fun hc => absurd hc (by omega)) (fun hc => ?_)
          refine v_iload C (oX9_value.at 111 rfl) rfl ?_
          refine v_iload C (oX9_value.at 112 rfl) rfl ?_
          refine v_isub C (oX9_value.at 113 rfl) ?_
          refine v_goto C (oX9_value.at 114 rfl) (tgt := 335) (by decide) ?_
          exact key
        refine v_if_ne C (oX9_value.at 79 rfl) (tgt := 171) (by decide) (fun hb0 => M) (fun hb0 => ?_)
        refine v_iload C (oX9_value.at 80 rfl) rfl ?_
        refine v_bipush C (oX9_value.at 81 rfl) (v := nI 47) rfl ?_
        refine v_icmp_eqN C (oX9_value.at 82 rfl) (tgt := 153) (by decide) (by omega) (by omega) (fun hc => absurd hc (by omega)) (fun hc => ?_)
        refine v_iload C (oX9_value.at 83 rfl) rfl ?_
        refine v_bipush C (oX9_value.at 84 rfl) (v := nI 37) rfl ?_
        refine v_icmp_neN C (oX9_value.at 85 rfl) (tgt := 171) (by decide) (by omega) (by omega) (fun hc => ?_) (fun hc => absurd hc (by omega))
        exact M
      · have hcx : cm 42 = 42 := rfl
        rw [hcx] at hfx
        refine v_iload_n C (oX9_value.at 7 rfl) rfl ?_
        refine v_aload_n C (oX9_value.at 8 rfl) rfl ?_
        refine v_getf C (oX9_value.at 9 rfl) fX9_155 (c0 _) (congrArg (fun z => some (Value.int z)) (c19)) ?_
        refine v_icmp_geN C (oX9_value.at 10 rfl) (tgt := 342) (by decide) (by omega) (by omega) (fun hc => absurd hc (by omega)) (fun hc => ?_)
        refine v_aload_n C (oX9_value.at 11 rfl) rfl ?_
        refine v_getf C (oX9_value.at 12 rfl) fX9_47 (c0 _) rfl ?_
        refine v_iload_n C (oX9_value.at 13 rfl) rfl ?_
        refine v_iald C (oX9_value.at 14 rfl) (c72 _) (by decide) rfl (by omega) hfx ?_
        refine v_istore C (oX9_value.at 15 rfl) rfl ?_
        refine v_iload C (oX9_value.at 16 rfl) rfl ?_
        refine v_bipush C (oX9_value.at 17 rfl) (v := nI 14) rfl ?_
        dsimp only [sto1, sto2, killL]
        refine v_icmp_geN C (oX9_value.at 18 rfl) (tgt := 79) (by decide) (by omega) (by omega) (fun hc => ?_) (fun hc => absurd hc (by omega))
        refine v_iload C (oX9_value.at 45 rfl) rfl ?_
        refine v_bipush C (oX9_value.at 46 rfl) (v := nI 33) rfl ?_
        refine v_icmp_neN C (oX9_value.at 47 rfl) (tgt := 113) (by decide) (by omega) (by omega) (fun hc => ?_) (fun hc => absurd hc (by omega))
        refine v_idecN C (oX9_value.at 65 rfl) rfl ?_
        dsimp only [sto1, sto2, killL]
        refine v_aload_n C (oX9_value.at 66 rfl) rfl ?_
        refine v_getf C (oX9_value.at 67 rfl) fX9_53 (c0 _) rfl ?_
        refine v_iload_n C (oX9_value.at 68 rfl) rfl ?_
        refine v_iconst C (oX9_value.at 69 rfl) (v := nI 1) rfl ?_
        refine v_isubN C (oX9_value.at 70 rfl) (by omega) ?_
        refine v_iald C (oX9_value.at 71 rfl) (hu_s _ _ _) (by decide) rfl (by omega) hga ?_
        refine v_istore C (oX9_value.at 72 rfl) rfl ?_
        dsimp only [sto1, sto2, killL]
        refine v_aload_n C (oX9_value.at 73 rfl) rfl ?_
        refine v_getf C (oX9_value.at 74 rfl) fX9_53 (c0 _) rfl ?_
        refine v_iload_n C (oX9_value.at 75 rfl) rfl ?_
        refine v_iald C (oX9_value.at 76 rfl) (hu_s _ _ _) (by decide) rfl (by omega) hgb ?_
        refine v_istore C (oX9_value.at 77 rfl) rfl ?_
        refine v_iload C (oX9_value.at 78 rfl) rfl ?_
        dsimp only [sto1, sto2, killL]
        have hk0 : cmbK 42 b = 0 := by unfold cmbK; split <;> rfl
        rw [if_pos hk0] at ih
        have key := key (m := 42) (cmbV 42 a b) (fun g l4 l5 l6 hL => ih g l4 l5 l6 rfl hL)
        have M : V X (0, 0) w (hu h2 74 (io 40 g)) 171 [some (.ref 62), some (.int (nI x0)), some (.int (nI (r.length + 1))), some (.int (nI i)), some (.int (nI 42)), some (.int a), some (.int b)] [] := by
          refine v_aload_n C (oX9_value.at 96 rfl) rfl ?_
          refine v_getf C (oX9_value.at 97 rfl) fX9_53 (c0 _) rfl ?_
          refine v_iload_n C (oX9_value.at 98 rfl) rfl ?_
          refine v_iconst C (oX9_value.at 99 rfl) (v := nI 1) rfl ?_
          refine v_isubN C (oX9_value.at 100 rfl) (by omega) ?_
          refine v_iload C (oX9_value.at 101 rfl) rfl ?_
          refine v_bipush C (oX9_value.at 102 rfl) (v := nI 43) rfl ?_
          refine v_icmp_neN C (oX9_value.at 103 rfl) (tgt := 193) (by decide) (by omega) (by omega) (fun hc => ?_) (fun hc => absurd hc (by omega))
          refine v_iload C (oX9_value.at 108 rfl) rfl ?_
          refine v_bipush C (oX9_value.at 109 rfl) (v := nI 45) rfl ?_
          refine v_icmp_neN C (oX9_value.at 110 rfl) (tgt := 208) (by decide) (by omega) (by omega) (fun hc => ?_) (fun hc => absurd hc (by omega))
          refine v_iload C (oX9_value.at 115 rfl) rfl ?_
          refine v_bipush C (oX9_value.at 116 rfl) (v := nI 42) rfl ?_
          refine v_icmp_neN C (oX9_value.at 117 rfl) (tgt := 223) (by decide) (by omega) (by omega) (fun hc => absurd hc (by omega)) (fun hc => ?_)
          refine v_iload C (oX9_value.at 118 rfl) rfl ?_
          refine v_iload C (oX9_value.at 119 rfl) rfl ?_
          refine v_imul C (oX9_value.at 120 rfl) ?_
          refine v_goto C (oX9_value.at 121 rfl) (tgt := 335) (by decide) ?_
          exact key
        refine v_if_ne C (oX9_value.at 79 rfl) (tgt := 171) (by decide) (fun hb0 => M) (fun hb0 => ?_)
        refine v_iload C (oX9_value.at 80 rfl) rfl ?_
        refine v_bipush C (oX9_value.at 81 rfl) (v := nI 47) rfl ?_
        refine v_icmp_eqN C (oX9_value.at 82 rfl) (tgt := 153) (by decide) (by omega) (by omega) (fun hc => absurd hc (by omega)) (fun hc => ?_)
        refine v_iload C (oX9_value.at 83 rfl) rfl ?_
        refine v_bipush C (oX9_value.at 84 rfl) (v := nI 37) rfl ?_
        refine v_icmp_neN C (oX9_value.at 85 rfl) (tgt := 171) (by decide) (by omega) (by omega) (fun hc => ?_) (fun hc => absurd hc (by omega))
        exact M
      · have hcx : cm 47 = 47 := rfl
        rw [hcx] at hfx
        refine v_iload_n C (oX9_value.at 7 rfl) rfl ?_
        refine v_aload_n C (oX9_value.at 8 rfl) rfl ?_
        refine v_getf C (oX9_value.at 9 rfl) fX9_155 (c0 _) (congrArg (fun z => some (Value.int z)) (c19)) ?_
        refine v_icmp_geN C (oX9_value.at 10 rfl) (tgt := 342) (by decide) (by omega) (by omega) (fun hc => absurd hc (by omega)) (fun hc => ?_)
        refine v_aload_n C (oX9_value.at 11 rfl) rfl ?_
        refine v_getf C (oX9_value.at 12 rfl) fX9_47 (c0 _) rfl ?_
        refine v_iload_n C (oX9_value.at 13 rfl) rfl ?_
        refine v_iald C (oX9_value.at 14 rfl) (c72 _) (by decide) rfl (by omega) hfx ?_
        refine v_istore C (oX9_value.at 15 rfl) rfl ?_
        refine v_iload C (oX9_value.at 16 rfl) rfl ?_
        refine v_bipush C (oX9_value.at 17 rfl) (v := nI 14) rfl ?_
        dsimp only [sto1, sto2, killL]
        refine v_icmp_geN C (oX9_value.at 18 rfl) (tgt := 79) (by decide) (by omega) (by omega) (fun hc => ?_) (fun hc => absurd hc (by omega))
        refine v_iload C (oX9_value.at 45 rfl) rfl ?_
        refine v_bipush C (oX9_value.at 46 rfl) (v := nI 33) rfl ?_
        refine v_icmp_neN C (oX9_value.at 47 rfl) (tgt := 113) (by decide) (by omega) (by omega) (fun hc => ?_) (fun hc => absurd hc (by omega))
        refine v_idecN C (oX9_value.at 65 rfl) rfl ?_
        dsimp only [sto1, sto2, killL]
        refine v_aload_n C (oX9_value.at 66 rfl) rfl ?_
        refine v_getf C (oX9_value.at 67 rfl) fX9_53 (c0 _) rfl ?_
        refine v_iload_n C (oX9_value.at 68 rfl) rfl ?_
        refine v_iconst C (oX9_value.at 69 rfl) (v := nI 1) rfl ?_
        refine v_isubN C (oX9_value.at 70 rfl) (by omega) ?_
        refine v_iald C (oX9_value.at 71 rfl) (hu_s _ _ _) (by decide) rfl (by omega) hga ?_
        refine v_istore C (oX9_value.at 72 rfl) rfl ?_
        dsimp only [sto1, sto2, killL]
        refine v_aload_n C (oX9_value.at 73 rfl) rfl ?_
        refine v_getf C (oX9_value.at 74 rfl) fX9_53 (c0 _) rfl ?_
        refine v_iload_n C (oX9_value.at 75 rfl) rfl ?_
        refine v_iald C (oX9_value.at 76 rfl) (hu_s _ _ _) (by decide) rfl (by omega) hgb ?_
        refine v_istore C (oX9_value.at 77 rfl) rfl ?_
        refine v_iload C (oX9_value.at 78 rfl) rfl ?_
        dsimp only [sto1, sto2, killL]
        refine v_if_ne C (oX9_value.at 79 rfl) (tgt := 171) (by decide) (fun hb0 => ?_) (fun hb0 => ?_)
        · have hk0 : cmbK 47 b = 0 := by unfold cmbK; rw [if_neg hb0]
          rw [if_pos hk0] at ih
          have key := key (m := 47) (cmbV 47 a b) (fun g l4 l5 l6 hL => ih g l4 l5 l6 rfl hL)
          refine v_aload_n C (oX9_value.at 96 rfl) rfl ?_
          refine v_getf C (oX9_value.at 97 rfl) fX9_53 (c0 _) rfl ?_
          refine v_iload_n C (oX9_value.at 98 rfl) rfl ?_
          refine v_iconst C (oX9_value.at 99 rfl) (v := nI 1) rfl ?_
          refine v_isubN C (oX9_value.at 100 rfl) (by omega) ?_
          refine v_iload C (oX9_value.at 101 rfl) rfl ?_
          refine v_bipush C (oX9_value.at 102 rfl) (v := nI 43) rfl ?_
          refine v_icmp_neN C (oX9_value.at 103 rfl) (tgt := 193) (by decide) (by omega) (by omega) (fun hc => ?_) (fun hc => absurd hc (by omega))
          refine v_iload C (oX9_value.at 108 rfl) rfl ?_
          refine v_bipush C (oX9_value.at 109 rfl) (v := nI 45) rfl ?_
          refine v_icmp_neN C (oX9_value.at 110 rfl) (tgt := 208) (by decide) (by omega) (by omega) (fun hc => ?_) (fun hc => absurd hc (by omega))
          refine v_iload C (oX9_value.at 115 rfl) rfl ?_
          refine v_bipush C (oX9_value.at 116 rfl) (v := nI 42) rfl ?_
          refine v_icmp_neN C (oX9_value.at 117 rfl) (tgt := 223) (by decide) (by omega) (by omega) (fun hc => ?_) (fun hc => absurd hc (by omega))
          refine v_iload C (oX9_value.at 122 rfl) rfl ?_
          refine v_bipush C (oX9_value.at 123 rfl) (v := nI 47) rfl ?_
          refine v_icmp_neN C (oX9_value.at 124 rfl) (tgt := 238) (by decide) (by omega) (by omega) (fun hc => absurd hc (by omega)) (fun hc => ?_)
          refine v_iload C (oX9_value.at 125 rfl) rfl ?_
          refine v_iload C (oX9_value.at 126 rfl) rfl ?_
          refine v_idiv C (oX9_value.at 127 rfl) hb0 ?_
          refine v_goto C (oX9_value.at 128 rfl) (tgt := 335) (by decide) ?_
          exact key
        · have hk0 : cmbK 47 b = 4 := by unfold cmbK; rw [if_pos hb0]; rfl
          rw [if_neg (by rw [hk0]; decide), hk0] at herr
          have herr := herr (by decide)
          rw [herr] at C
          rw [if_neg (by decide)] at C
          refine v_iload C (oX9_value.at 80 rfl) rfl ?_
          refine v_bipush C (oX9_value.at 81 rfl) (v := nI 47) rfl ?_
          refine v_icmp_eqN C (oX9_value.at 82 rfl) (tgt := 153) (by decide) (by omega) (by omega) (fun hc => ?_) (fun hc => absurd hc (by omega))
          refine v_aload_n C (oX9_value.at 86 rfl) rfl ?_
          refine v_iload C (oX9_value.at 87 rfl) rfl ?_
          refine v_bipush C (oX9_value.at 88 rfl) (v := nI 47) rfl ?_
          refine v_icmp_neN C (oX9_value.at 89 rfl) (tgt := 165) (by decide) (by omega) (by omega) (fun hc => absurd hc (by omega)) (fun hc => ?_)
          refine v_iconst C (oX9_value.at 90 rfl) (v := nI 4) rfl ?_
          refine v_goto C (oX9_value.at 91 rfl) (tgt := 166) (by decide) ?_
          refine v_put9 C (oX9_value.at 93 rfl) fX9_201 p9_24 (c0 _) ⟨rfl, rfl, rfl⟩ ?_
          refine v_iconst C (oX9_value.at 94 rfl) (v := nI 0) rfl ?_
          exact v_iret C (oX9_value.at 95 rfl) rfl rfl ⟨Nat.le_refl _, Nat.le_refl _⟩ ⟨rfl, _, hu_s _ _ _, rfl, fun j hj => (if_neg hj).trans (c24 j hj), ⟨_, (hu_n _ _ (by decide)).trans (hu_s _ _ _)⟩, fun j j1 j2 => (hu_n _ _ j1).trans ((hu_n _ _ j2).trans (cf j j1))⟩
      · have hcx : cm 37 = 37 := rfl
        rw [hcx] at hfx
        refine v_iload_n C (oX9_value.at 7 rfl) rfl ?_
        refine v_aload_n C (oX9_value.at 8 rfl) rfl ?_
        refine v_getf C (oX9_value.at 9 rfl) fX9_155 (c0 _) (congrArg (fun z => some (Value.int z)) (c19)) ?_
        refine v_icmp_geN C (oX9_value.at 10 rfl) (tgt := 342) (by decide) (by omega) (by omega) (fun hc => absurd hc (by omega)) (fun hc => ?_)
        refine v_aload_n C (oX9_value.at 11 rfl) rfl ?_
        refine v_getf C (oX9_value.at 12 rfl) fX9_47 (c0 _) rfl ?_
        refine v_iload_n C (oX9_value.at 13 rfl) rfl ?_
        refine v_iald C (oX9_value.at 14 rfl) (c72 _) (by decide) rfl (by omega) hfx ?_
        refine v_istore C (oX9_value.at 15 rfl) rfl ?_
        refine v_iload C (oX9_value.at 16 rfl) rfl ?_
        refine v_bipush C (oX9_value.at 17 rfl) (v := nI 14) rfl ?_
        dsimp only [sto1, sto2, killL]
        refine v_icmp_geN C (oX9_value.at 18 rfl) (tgt := 79) (by decide) (by omega) (by omega) (fun hc => ?_) (fun hc => absurd hc (by omega))
        refine v_iload C (oX9_value.at 45 rfl) rfl ?_
        refine v_bipush C (oX9_value.at 46 rfl) (v := nI 33) rfl ?_
        refine v_icmp_neN C (oX9_value.at 47 rfl) (tgt := 113) (by decide) (by omega) (by omega) (fun hc => ?_) (fun hc => absurd hc (by omega))
        refine v_idecN C (oX9_value.at 65 rfl) rfl ?_
        dsimp only [sto1, sto2, killL]
        refine v_aload_n C (oX9_value.at 66 rfl) rfl ?_
        refine v_getf C (oX9_value.at 67 rfl) fX9_53 (c0 _) rfl ?_
        refine v_iload_n C (oX9_value.at 68 rfl) rfl ?_
        refine v_iconst C (oX9_value.at 69 rfl) (v := nI 1) rfl ?_
        refine v_isubN C (oX9_value.at 70 rfl) (by omega) ?_
        refine v_iald C (oX9_value.at 71 rfl) (hu_s _ _ _) (by decide) rfl (by omega) hga ?_
        refine v_istore C (oX9_value.at 72 rfl) rfl ?_
        dsimp only [sto1, sto2, killL]
        refine v_aload_n C (oX9_value.at 73 rfl) rfl ?_
        refine v_getf C (oX9_value.at 74 rfl) fX9_53 (c0 _) rfl ?_
        refine v_iload_n C (oX9_value.at 75 rfl) rfl ?_
        refine v_iald C (oX9_value.at 76 rfl) (hu_s _ _ _) (by decide) rfl (by omega) hgb ?_
        refine v_istore C (oX9_value.at 77 rfl) rfl ?_
        refine v_iload C (oX9_value.at 78 rfl) rfl ?_
        dsimp only [sto1, sto2, killL]
        refine v_if_ne C (oX9_value.at 79 rfl) (tgt := 171) (by decide) (fun hb0 => ?_) (fun hb0 => ?_)
        · have hk0 : cmbK 37 b = 0 := by unfold cmbK; rw [if_neg hb0]
          rw [if_pos hk0] at ih
          have key := key (m := 37) (cmbV 37 a b) (fun g l4 l5 l6 hL => ih g l4 l5 l6 rfl hL)
          refine v_aload_n C (oX9_value.at 96 rfl) rfl ?_
          refine v_getf C (oX9_value.at 97 rfl) fX9_53 (c0 _) rfl ?_
          refine v_iload_n C (oX9_value.at 98 rfl) rfl ?_
          refine v_iconst C (oX9_value.at 99 rfl) (v := nI 1) rfl ?_
          refine v_isubN C (oX9_value.at 100 rfl) (by omega) ?_
          refine v_iload C (oX9_value.at 101 rfl) rfl ?_
          refine v_bipush C (oX9_value.at 102 rfl) (v := nI 43) rfl ?_
          refine v_icmp_neN C (oX9_value.at 103 rfl) (tgt := 193) (by decide) (by omega) (by omega) (fun hc => ?_) (fun hc => absurd hc (by omega))
          refine v_iload C (oX9_value.at 108 rfl) rfl ?_
          refine v_bipush C (oX9_value.at 109 rfl) (v := nI 45) rfl ?_
          refine v_icmp_neN C (oX9_value.at 110 rfl) (tgt := 208) (by decide) (by omega) (by omega) (fun hc => ?_) (fun hc => absurd hc (by omega))
          refine v_iload C (oX9_value.at 115 rfl) rfl ?_
          refine v_bipush C (oX9_value.at 116 rfl) (v := nI 42) rfl ?_
          refine v_icmp_neN C (oX9_value.at 117 rfl) (tgt := 223) (by decide) (by omega) (by omega) (fun hc => ?_) (fun hc => absurd hc (by omega))
          refine v_iload C (oX9_value.at 122 rfl) rfl ?_
          refine v_bipush C (oX9_value.at 123 rfl) (v := nI 47) rfl ?_
          refine v_icmp_neN C (oX9_value.at 124 rfl) (tgt := 238) (by decide) (by omega) (by omega) (fun hc => ?_) (fun hc => absurd hc (by omega))
          refine v_iload C (oX9_value.at 129 rfl) rfl ?_
          refine v_bipush C (oX9_value.at 130 rfl) (v := nI 37) rfl ?_
          refine v_icmp_neN C (oX9_value.at 131 rfl) (tgt := 253) (by decide) (by omega) (by omega) (fun hc => absurd hc (by omega)) (fun hc => ?_)
          refine v_iload C (oX9_value.at 132 rfl) rfl ?_
          refine v_iload C (oX9_value.at 133 rfl) rfl ?_
          refine v_irem C (oX9_value.at 134 rfl) hb0 ?_
          refine v_goto C (oX9_value.at 135 rfl) (tgt := 335) (by decide) ?_
          exact key
        · have hk0 : cmbK 37 b = 5 := by unfold cmbK; rw [if_pos hb0]; rfl
          rw [if_neg (by rw [hk0]; decide), hk0] at herr
          have herr := herr (by decide)
          rw [herr] at C
          rw [if_neg (by decide)] at C
          refine v_iload C (oX9_value.at 80 rfl) rfl ?_
          refine v_bipush C (oX9_value.at 81 rfl) (v := nI 47) rfl ?_
          refine v_icmp_eqN C (oX9_value.at 82 rfl) (tgt := 153) (by decide) (by omega) (by omega) (fun hc => absurd hc (by omega)) (fun hc => ?_)
          refine v_iload C (oX9_value.at 83 rfl) rfl ?_
          refine v_bipush C (oX9_value.at 84 rfl) (v := nI 37) rfl ?_
          refine v_icmp_neN C (oX9_value.at 85 rfl) (tgt := 171) (by decide) (by omega) (by omega) (fun hc => absurd hc (by omega)) (fun hc => ?_)
          refine v_aload_n C (oX9_value.at 86 rfl) rfl ?_
          refine v_iload C (oX9_value.at 87 rfl) rfl ?_
          refine v_bipush C (oX9_value.at 88 rfl) (v := nI 47) rfl ?_
          refine v_icmp_neN C (oX9_value.at 89 rfl) (tgt := 165) (by decide) (by omega) (by omega) (fun hc => ?_) (fun hc => absurd hc (by omega))
          refine v_iconst C (oX9_value.at 92 rfl) (v := nI 5) rfl ?_
          refine v_put9 C (oX9_value.at 93 rfl) fX9_201 p9_24 (c0 _) ⟨rfl, rfl, rfl⟩ ?_
          refine v_iconst C (oX9_value.at 94 rfl) (v := nI 0) rfl ?_
          exact v_iret C (oX9_value.at 95 rfl) rfl rfl ⟨Nat.le_refl _, Nat.le_refl _⟩ ⟨rfl, _, hu_s _ _ _, rfl, fun j hj => (if_neg hj).trans (c24 j hj), ⟨_, (hu_n _ _ (by decide)).trans (hu_s _ _ _)⟩, fun j j1 j2 => (hu_n _ _ j1).trans ((hu_n _ _ j2).trans (cf j j1))⟩
      · have hcx : cm 61 = 61 := rfl
        rw [hcx] at hfx
        refine v_iload_n C (oX9_value.at 7 rfl) rfl ?_
        refine v_aload_n C (oX9_value.at 8 rfl) rfl ?_
        refine v_getf C (oX9_value.at 9 rfl) fX9_155 (c0 _) (congrArg (fun z => some (Value.int z)) (c19)) ?_
        refine v_icmp_geN C (oX9_value.at 10 rfl) (tgt := 342) (by decide) (by omega) (by omega) (fun hc => absurd hc (by omega)) (fun hc => ?_)
        refine v_aload_n C (oX9_value.at 11 rfl) rfl ?_
        refine v_getf C (oX9_value.at 12 rfl) fX9_47 (c0 _) rfl ?_
        refine v_iload_n C (oX9_value.at 13 rfl) rfl ?_
        refine v_iald C (oX9_value.at 14 rfl) (c72 _) (by decide) rfl (by omega) hfx ?_
        refine v_istore C (oX9_value.at 15 rfl) rfl ?_
        refine v_iload C (oX9_value.at 16 rfl) rfl ?_
        refine v_bipush C (oX9_value.at 17 rfl) (v := nI 14) rfl ?_
        dsimp only [sto1, sto2, killL]
        refine v_icmp_geN C (oX9_value.at 18 rfl) (tgt := 79) (by decide) (by omega) (by omega) (fun hc => ?_) (fun hc => absurd hc (by omega))
        refine v_iload C (oX9_value.at 45 rfl) rfl ?_
        refine v_bipush C (oX9_value.at 46 rfl) (v := nI 33) rfl ?_
        refine v_icmp_neN C (oX9_value.at 47 rfl) (tgt := 113) (by decide) (by omega) (by omega) (fun hc => ?_) (fun hc => absurd hc (by omega))
        refine v_idecN C (oX9_value.at 65 rfl) rfl ?_
        dsimp only [sto1, sto2, killL]
        refine v_aload_n C (oX9_value.at 66 rfl) rfl ?_
        refine v_getf C (oX9_value.at 67 rfl) fX9_53 (c0 _) rfl ?_
        refine v_iload_n C (oX9_value.at 68 rfl) rfl ?_
        refine v_iconst C (oX9_value.at 69 rfl) (v := nI 1) rfl ?_
        refine v_isubN C (oX9_value.at 70 rfl) (by omega) ?_
        refine v_iald C (oX9_value.at 71 rfl) (hu_s _ _ _) (by decide) rfl (by omega) hga ?_
        refine v_istore C (oX9_value.at 72 rfl) rfl ?_
        dsimp only [sto1, sto2, killL]
        refine v_aload_n C (oX9_value.at 73 rfl) rfl ?_
        refine v_getf C (oX9_value.at 74 rfl) fX9_53 (c0 _) rfl ?_
        refine v_iload_n C (oX9_value.at 75 rfl) rfl ?_
        refine v_iald C (oX9_value.at 76 rfl) (hu_s _ _ _) (by decide) rfl (by omega) hgb ?_
        refine v_istore C (oX9_value.at 77 rfl) rfl ?_
        refine v_iload C (oX9_value.at 78 rfl) rfl ?_
        dsimp only [sto1, sto2, killL]
        have hk0 : cmbK 61 b = 0 := by unfold cmbK; split <;> rfl
        rw [if_pos hk0] at ih
        have key := key (m := 61) (cmbV 61 a b) (fun g l4 l5 l6 hL => ih g l4 l5 l6 rfl hL)
        have M : V X (0, 0) w (hu h2 74 (io 40 g)) 171 [some (.ref 62), some (.int (nI x0)), some (.int (nI (r.length + 1))), some (.int (nI i)), some (.int (nI 61)), some (.int a), some (.int b)] [] := by
          refine v_aload_n C (oX9_value.at 96 rfl) rfl ?_
          refine v_getf C (oX9_value.at 97 rfl) fX9_53 (c0 _) rfl ?_
          refine v_iload_n C (oX9_value.at 98 rfl) rfl ?_
          refine v_iconst C (oX9_value.at 99 rfl) (v := nI 1) rfl ?_
          refine v_isubN C (oX9_value.at 100 rfl) (by omega) ?_
          refine v_iload C (oX9_value.at 101 rfl) rfl ?_
          refine v_bipush C (oX9_value.at 102 rfl) (v := nI 43) rfl ?_
          refine v_icmp_neN C (oX9_value.at 103 rfl) (tgt := 193) (by decide) (by omega) (by omega) (fun hc => ?_) (fun hc => absurd hc (by omega))
          refine v_iload C (oX9_value.at 108 rfl) rfl ?_
          refine v_bipush C (oX9_value.at 109 rfl) (v := nI 45) rfl ?_
          refine v_icmp_neN C (oX9_value.at 110 rfl) (tgt := 208) (by decide) (by omega) (by omega) (fun hc => ?_) (fun hc => absurd hc (by omega))
          refine v_iload C (oX9_value.at 115 rfl) rfl ?_
          refine v_bipush C (oX9_value.at 116 rfl) (v := nI 42) rfl ?_
          refine v_icmp_neN C (oX9_value.at 117 rfl) (tgt := 223) (by decide) (by omega) (by omega) (fun hc => ?_) (fun hc => absurd hc (by omega))
          refine v_iload C (oX9_value.at 122 rfl) rfl ?_
          refine v_bipush C (oX9_value.at 123 rfl) (v := nI 47) rfl ?_
          refine v_icmp_neN C (oX9_value.at 124 rfl) (tgt := 238) (by decide) (by omega) (by omega) (fun hc => ?_) (fun hc => absurd hc (by omega))
          refine v_iload C (oX9_value.at 129 rfl) rfl ?_
          refine v_bipush C (oX9_value.at 130 rfl) (v := nI 37) rfl ?_
          refine v_icmp_neN C (oX9_value.at 131 rfl) (tgt := 253) (by decide) (by omega) (by omega) (fun hc => ?_) (fun hc => absurd hc (by omega))
          refine v_iload C (oX9_value.at 136 rfl) rfl ?_
          refine v_bipush C (oX9_value.at 137 rfl) (v := nI 61) rfl ?_
          refine v_icmp_neN C (oX9_value.at 138 rfl) (tgt := 275) (by decide) (by omega) (by omega) (fun hc => absurd hc (by omega)) (fun hc => ?_)
          refine v_iload C (oX9_value.at 139 rfl) rfl ?_
          refine v_iload C (oX9_value.at 140 rfl) rfl ?_
          unfold cmbV at key
          rw [if_neg (by decide), if_neg (by decide), if_neg (by decide), if_neg (by decide), if_neg (by decide), if_pos rfl] at key
          refine v_icmp_ne C (oX9_value.at 141 rfl) (tgt := 271) (by decide) (fun hc => ?_) (fun hc => ?_)
          · rw [if_neg hc] at key
            refine v_iconst C (oX9_value.at 144 rfl) (v := nI 0) rfl ?_
            refine v_goto C (oX9_value.at 145 rfl) (tgt := 335) (by decide) ?_
            exact key
          · rw [if_pos hc] at key
            refine v_iconst C (oX9_value.at 142 rfl) (v := nI 1) rfl ?_
            refine v_goto C (oX9_value.at 143 rfl) (tgt := 335) (by decide) ?_
            exact key
        refine v_if_ne C (oX9_value.at 79 rfl) (tgt := 171) (by decide) (fun hb0 => M) (fun hb0 => ?_)
        refine v_iload C (oX9_value.at 80 rfl) rfl ?_
        refine v_bipush C (oX9_value.at 81 rfl) (v := nI 47) rfl ?_
        refine v_icmp_eqN C (oX9_value.at 82 rfl) (tgt := 153) (by decide) (by omega) (by omega) (fun hc => absurd hc (by omega)) (fun hc => ?_)
        refine v_iload C (oX9_value.at 83 rfl) rfl ?_
        refine v_bipush C (oX9_value.at 84 rfl) (v := nI 37) rfl ?_
        refine v_icmp_neN C (oX9_value.at 85 rfl) (tgt := 171) (by decide) (by omega) (by omega) (fun hc => ?_) (fun hc => absurd hc (by omega))
        exact M
      · have hcx : cm 60 = 60 := rfl
        rw [hcx] at hfx
        refine v_iload_n C (oX9_value.at 7 rfl) rfl ?_
        refine v_aload_n C (oX9_value.at 8 rfl) rfl ?_
        refine v_getf C (oX9_value.at 9 rfl) fX9_155 (c0 _) (congrArg (fun z => some (Value.int z)) (c19)) ?_
        refine v_icmp_geN C (oX9_value.at 10 rfl) (tgt := 342) (by decide) (by omega) (by omega) (fun hc => absurd hc (by omega)) (fun hc => ?_)
        refine v_aload_n C (oX9_value.at 11 rfl) rfl ?_
        refine v_getf C (oX9_value.at 12 rfl) fX9_47 (c0 _) rfl ?_
        refine v_iload_n C (oX9_value.at 13 rfl) rfl ?_
        refine v_iald C (oX9_value.at 14 rfl) (c72 _) (by decide) rfl (by omega) hfx ?_
        refine v_istore C (oX9_value.at 15 rfl) rfl ?_
        refine v_iload C (oX9_value.at 16 rfl) rfl ?_
        refine v_bipush C (oX9_value.at 17 rfl) (v := nI 14) rfl ?_
        dsimp only [sto1, sto2, killL]
        refine v_icmp_geN C (oX9_value.at 18 rfl) (tgt := 79) (by decide) (by omega) (by omega) (fun hc => ?_) (fun hc => absurd hc (by omega))
        refine v_iload C (oX9_value.at 45 rfl) rfl ?_
        refine v_bipush C (oX9_value.at 46 rfl) (v := nI 33) rfl ?_
        refine v_icmp_neN C (oX9_value.at 47 rfl) (tgt := 113) (by decide) (by omega) (by omega) (fun hc => ?_) (fun hc => absurd hc (by omega))
        refine v_idecN C (oX9_value.at 65 rfl) rfl ?_
        dsimp only [sto1, sto2, killL]
        refine v_aload_n C (oX9_value.at 66 rfl) rfl ?_
        refine v_getf C (oX9_value.at 67 rfl) fX9_53 (c0 _) rfl ?_
        refine v_iload_n C (oX9_value.at 68 rfl) rfl ?_
        refine v_iconst C (oX9_value.at 69 rfl) (v := nI 1) rfl ?_
        refine v_isubN C (oX9_value.at 70 rfl) (by omega) ?_
        refine v_iald C (oX9_value.at 71 rfl) (hu_s _ _ _) (by decide) rfl (by omega) hga ?_
        refine v_istore C (oX9_value.at 72 rfl) rfl ?_
        dsimp only [sto1, sto2, killL]
        refine v_aload_n C (oX9_value.at 73 rfl) rfl ?_
        refine v_getf C (oX9_value.at 74 rfl) fX9_53 (c0 _) rfl ?_
        refine v_iload_n C (oX9_value.at 75 rfl) rfl ?_
        refine v_iald C (oX9_value.at 76 rfl) (hu_s _ _ _) (by decide) rfl (by omega) hgb ?_
        refine v_istore C (oX9_value.at 77 rfl) rfl ?_
        refine v_iload C (oX9_value.at 78 rfl) rfl ?_
        dsimp only [sto1, sto2, killL]
        have hk0 : cmbK 60 b = 0 := by unfold cmbK; split <;> rfl
        rw [if_pos hk0] at ih
        have key := key (m := 60) (cmbV 60 a b) (fun g l4 l5 l6 hL => ih g l4 l5 l6 rfl hL)
        have M : V X (0, 0) w (hu h2 74 (io 40 g)) 171 [some (.ref 62), some (.int (nI x0)), some (.int (nI (r.length + 1))), some (.int (nI i)), some (.int (nI 60)), some (.int a), some (.int b)] [] := by
          refine v_aload_n C (oX9_value.at 96 rfl) rfl ?_
          refine v_getf C (oX9_value.at 97 rfl) fX9_53 (c0 _) rfl ?_
          refine v_iload_n C (oX9_value.at 98 rfl) rfl ?_
          refine v_iconst C (oX9_value.at 99 rfl) (v := nI 1) rfl ?_
          refine v_isubN C (oX9_value.at 100 rfl) (by omega) ?_
          refine v_iload C (oX9_value.at 101 rfl) rfl ?_
          refine v_bipush C (oX9_value.at 102 rfl) (v := nI 43) rfl ?_
          refine v_icmp_neN C (oX9_value.at 103 rfl) (tgt := 193) (by decide) (by omega) (by omega) (fun hc => ?_) (fun hc => absurd hc (by omega))
          refine v_iload C (oX9_value.at 108 rfl) rfl ?_
          refine v_bipush C (oX9_value.at 109 rfl) (v := nI 45) rfl ?_
          refine v_icmp_neN C (oX9_value.at 110 rfl) (tgt := 208) (by decide) (by omega) (by omega) (fun hc => ?_) (fun hc => absurd hc (by omega))
          refine v_iload C (oX9_value.at 115 rfl) rfl ?_
          refine v_bipush C (oX9_value.at 116 rfl) (v := nI 42) rfl ?_
          refine v_icmp_neN C (oX9_value.at 117 rfl) (tgt := 223) (by decide) (by omega) (by omega) (fun hc => ?_) (fun hc => absurd hc (by omega))
          refine v_iload C (oX9_value.at 122 rfl) rfl ?_
          refine v_bipush C (oX9_value.at 123 rfl) (v := nI 47) rfl ?_
          refine v_icmp_neN C (oX9_value.at 124 rfl) (tgt := 238) (by decide) (by omega) (by omega) (fun hc => ?_) (fun hc => absurd hc (by omega))
          refine v_iload C (oX9_value.at 129 rfl) rfl ?_
          refine v_bipush C (oX9_value.at 130 rfl) (v := nI 37) rfl ?_
          refine v_icmp_neN C (oX9_value.at 131 rfl) (tgt := 253) (by decide) (by omega) (by omega) (fun hc => ?_) (fun hc => absurd hc (by omega))
          refine v_iload C (oX9_value.at 136 rfl) rfl ?_
          refine v_bipush C (oX9_value.at 137 rfl) (v := nI 61) rfl ?_
          refine v_icmp_neN C (oX9_value.at 138 rfl) (tgt := 275) (by decide) (by omega) (by omega) (fun hc => ?_) (fun hc => absurd hc (by omega))
          refine v_iload C (oX9_value.at 146 rfl) rfl ?_
          refine v_bipush C (oX9_value.at 147 rfl) (v := nI 60) rfl ?_
          refine v_icmp_neN C (oX9_value.at 148 rfl) (tgt := 297) (by decide) (by omega) (by omega) (fun hc => absurd hc (by omega)) (fun hc => ?_)
          refine v_iload C (oX9_value.at 149 rfl) rfl ?_
          refine v_iload C (oX9_value.at 150 rfl) rfl ?_
          unfold cmbV at key
          rw [if_neg (by decide), if_neg (by decide), if_neg (by decide), if_neg (by decide), if_neg (by decide), if_neg (by decide), if_pos rfl] at key
          refine v_icmp_ge C (oX9_value.at 151 rfl) (tgt := 293) (by decide) (fun hc => ?_) (fun hc => ?_)
          · rw [if_neg (Int32.not_lt.mpr hc)] at key
            refine v_iconst C (oX9_value.at 154 rfl) (v := nI 0) rfl ?_
            refine v_goto C (oX9_value.at 155 rfl) (tgt := 335) (by decide) ?_
            exact key
          · rw [if_pos (Int32.not_le.mp hc)] at key
            refine v_iconst C (oX9_value.at 152 rfl) (v := nI 1) rfl ?_
            refine v_goto C (oX9_value.at 153 rfl) (tgt := 335) (by decide) ?_
            exact key
        refine v_if_ne C (oX9_value.at 79 rfl) (tgt := 171) (by decide) (fun hb0 => M) (fun hb0 => ?_)
        refine v_iload C (oX9_value.at 80 rfl) rfl ?_
        refine v_bipush C (oX9_value.at 81 rfl) (v := nI 47) rfl ?_
        refine v_icmp_eqN C (oX9_value.at 82 rfl) (tgt := 153) (by decide) (by omega) (by omega) (fun hc => absurd hc (by omega)) (fun hc => ?_)
        refine v_iload C (oX9_value.at 83 rfl) rfl ?_
        refine v_bipush C (oX9_value.at 84 rfl) (v := nI 37) rfl ?_
        refine v_icmp_neN C (oX9_value.at 85 rfl) (tgt := 171) (by decide) (by omega) (by omega) (fun hc => ?_) (fun hc => absurd hc (by omega))
        exact M
      · have hcx : cm 110 = 73 := rfl
        rw [hcx] at hfx
        refine v_iload_n C (oX9_value.at 7 rfl) rfl ?_
        refine v_aload_n C (oX9_value.at 8 rfl) rfl ?_
        refine v_getf C (oX9_value.at 9 rfl) fX9_155 (c0 _) (congrArg (fun z => some (Value.int z)) (c19)) ?_
        refine v_icmp_geN C (oX9_value.at 10 rfl) (tgt := 342) (by decide) (by omega) (by omega) (fun hc => absurd hc (by omega)) (fun hc => ?_)
        refine v_aload_n C (oX9_value.at 11 rfl) rfl ?_
        refine v_getf C (oX9_value.at 12 rfl) fX9_47 (c0 _) rfl ?_
        refine v_iload_n C (oX9_value.at 13 rfl) rfl ?_
        refine v_iald C (oX9_value.at 14 rfl) (c72 _) (by decide) rfl (by omega) hfx ?_
        refine v_istore C (oX9_value.at 15 rfl) rfl ?_
        refine v_iload C (oX9_value.at 16 rfl) rfl ?_
        refine v_bipush C (oX9_value.at 17 rfl) (v := nI 14) rfl ?_
        dsimp only [sto1, sto2, killL]
        refine v_icmp_geN C (oX9_value.at 18 rfl) (tgt := 79) (by decide) (by omega) (by omega) (fun hc => ?_) (fun hc => absurd hc (by omega))
        refine v_iload C (oX9_value.at 45 rfl) rfl ?_
        refine v_bipush C (oX9_value.at 46 rfl) (v := nI 33) rfl ?_
        refine v_icmp_neN C (oX9_value.at 47 rfl) (tgt := 113) (by decide) (by omega) (by omega) (fun hc => ?_) (fun hc => absurd hc (by omega))
        refine v_idecN C (oX9_value.at 65 rfl) rfl ?_
        dsimp only [sto1, sto2, killL]
        refine v_aload_n C (oX9_value.at 66 rfl) rfl ?_
        refine v_getf C (oX9_value.at 67 rfl) fX9_53 (c0 _) rfl ?_
        refine v_iload_n C (oX9_value.at 68 rfl) rfl ?_
        refine v_iconst C (oX9_value.at 69 rfl) (v := nI 1) rfl ?_
        refine v_isubN C (oX9_value.at 70 rfl) (by omega) ?_
        refine v_iald C (oX9_value.at 71 rfl) (hu_s _ _ _) (by decide) rfl (by omega) hga ?_
        refine v_istore C (oX9_value.at 72 rfl) rfl ?_
        dsimp only [sto1, sto2, killL]
        refine v_aload_n C (oX9_value.at 73 rfl) rfl ?_
        refine v_getf C (oX9_value.at 74 rfl) fX9_53 (c0 _) rfl ?_
        refine v_iload_n C (oX9_value.at 75 rfl) rfl ?_
        refine v_iald C (oX9_value.at 76 rfl) (hu_s _ _ _) (by decide) rfl (by omega) hgb ?_
        refine v_istore C (oX9_value.at 77 rfl) rfl ?_
        refine v_iload C (oX9_value.at 78 rfl) rfl ?_
        dsimp only [sto1, sto2, killL]
        have hk0 : cmbK 110 b = 0 := by unfold cmbK; split <;> rfl
        rw [if_pos hk0] at ih
        have key := key (m := 73) (cmbV 110 a b) (fun g l4 l5 l6 hL => ih g l4 l5 l6 rfl hL)
        have M : V X (0, 0) w (hu h2 74 (io 40 g)) 171 [some (.ref 62), some (.int (nI x0)), some (.int (nI (r.length + 1))), some (.int (nI i)), some (.int (nI 73)), some (.int a), some (.int b)] [] := by
          refine v_aload_n C (oX9_value.at 96 rfl) rfl ?_
          refine v_getf C (oX9_value.at 97 rfl) fX9_53 (c0 _) rfl ?_
          refine v_iload_n C (oX9_value.at 98 rfl) rfl ?_
          refine v_iconst C (oX9_value.at 99 rfl) (v := nI 1) rfl ?_
          refine v_isubN C (oX9_value.at 100 rfl) (by omega) ?_
          refine v_iload C (oX9_value.at 101 rfl) rfl ?_
          refine v_bipush C (oX9_value.at 102 rfl) (v := nI 43) rfl ?_
          refine v_icmp_neN C (oX9_value.at 103 rfl) (tgt := 193) (by decide) (by omega) (by omega) (fun hc => ?_) (fun hc => absurd hc (by omega))
          refine v_iload C (oX9_value.at 108 rfl) rfl ?_
          refine v_bipush C (oX9_value.at 109 rfl) (v := nI 45) rfl ?_
          refine v_icmp_neN C (oX9_value.at 110 rfl) (tgt := 208) (by decide) (by omega) (by omega) (fun hc => ?_) (fun hc => absurd hc (by omega))
          refine v_iload C (oX9_value.at 115 rfl) rfl ?_
          refine v_bipush C (oX9_value.at 116 rfl) (v := nI 42) rfl ?_
          refine v_icmp_neN C (oX9_value.at 117 rfl) (tgt := 223) (by decide) (by omega) (by omega) (fun hc => ?_) (fun hc => absurd hc (by omega))
          refine v_iload C (oX9_value.at 122 rfl) rfl ?_
          refine v_bipush C (oX9_value.at 123 rfl) (v := nI 47) rfl ?_
          refine v_icmp_neN C (oX9_value.at 124 rfl) (tgt := 238) (by decide) (by omega) (by omega) (fun hc => ?_) (fun hc => absurd hc (by omega))
          refine v_iload C (oX9_value.at 129 rfl) rfl ?_
          refine v_bipush C (oX9_value.at 130 rfl) (v := nI 37) rfl ?_
          refine v_icmp_neN C (oX9_value.at 131 rfl) (tgt := 253) (by decide) (by omega) (by omega) (fun hc => ?_) (fun hc => absurd hc (by omega))
          refine v_iload C (oX9_value.at 136 rfl) rfl ?_
          refine v_bipush C (oX9_value.at 137 rfl) (v := nI 61) rfl ?_
          refine v_icmp_neN C (oX9_value.at 138 rfl) (tgt := 275) (by decide) (by omega) (by omega) (fun hc => ?_) (fun hc => absurd hc (by omega))
          refine v_iload C (oX9_value.at 146 rfl) rfl ?_
          refine v_bipush C (oX9_value.at 147 rfl) (v := nI 60) rfl ?_
          refine v_icmp_neN C (oX9_value.at 148 rfl) (tgt := 297) (by decide) (by omega) (by omega) (fun hc => ?_) (fun hc => absurd hc (by omega))
          refine v_iload C (oX9_value.at 156 rfl) rfl ?_
          refine v_bipush C (oX9_value.at 157 rfl) (v := nI 73) rfl ?_
          refine v_icmp_neN C (oX9_value.at 158 rfl) (tgt := 321) (by decide) (by omega) (by omega) (fun hc => absurd hc (by omega)) (fun hc => ?_)
          refine v_iload C (oX9_value.at 159 rfl) rfl ?_
          refine v_iload C (oX9_value.at 160 rfl) rfl ?_
          unfold cmbV at key
          rw [if_neg (by decide), if_neg (by decide), if_neg (by decide), if_neg (by decide), if_neg (by decide), if_neg (by decide), if_neg (by decide), if_pos rfl] at key
          refine v_icmp_ge C (oX9_value.at 161 rfl) (tgt := 316) (by decide) (fun hc => ?_) (fun hc => ?_)
          · have q : (if b < a then b else a) = b := by
              split
              · rfl
              · next z => exact Int32.le_antisymm (Int32.not_lt.mp z) hc
            rw [q] at key
            refine v_iload C (oX9_value.at 164 rfl) rfl ?_
            refine v_goto C (oX9_value.at 165 rfl) (tgt := 335) (by decide) ?_
            exact key
          · rw [if_neg (fun z => hc (Int32.le_of_lt z))] at key
            refine v_iload C (oX9_value.at 162 rfl) rfl ?_
            refine v_goto C (oX9_value.at 163 rfl) (tgt := 335) (by decide) ?_
            exact key
        refine v_if_ne C (oX9_value.at 79 rfl) (tgt := 171) (by decide) (fun hb0 => M) (fun hb0 => ?_)
        refine v_iload C (oX9_value.at 80 rfl) rfl ?_
        refine v_bipush C (oX9_value.at 81 rfl) (v := nI 47) rfl ?_
        refine v_icmp_eqN C (oX9_value.at 82 rfl) (tgt := 153) (by decide) (by omega) (by omega) (fun hc => absurd hc (by omega)) (fun hc => ?_)
        refine v_iload C (oX9_value.at 83 rfl) rfl ?_
        refine v_bipush C (oX9_value.at 84 rfl) (v := nI 37) rfl ?_
        refine v_icmp_neN C (oX9_value.at 85 rfl) (tgt := 171) (by decide) (by omega) (by omega) (fun hc => ?_) (fun hc => absurd hc (by omega))
        exact M
      · have hcx : cm 120 = 65 := rfl
        rw [hcx] at hfx
        refine v_iload_n C (oX9_value.at 7 rfl) rfl ?_
        refine v_aload_n C (oX9_value.at 8 rfl) rfl ?_
        refine v_getf C (oX9_value.at 9 rfl) fX9_155 (c0 _) (congrArg (fun z => some (Value.int z)) (c19)) ?_
        refine v_icmp_geN C (oX9_value.at 10 rfl) (tgt := 342) (by decide) (by omega) (by omega) (fun hc => absurd hc (by omega)) (fun hc => ?_)
        refine v_aload_n C (oX9_value.at 11 rfl) rfl ?_
        refine v_getf C (oX9_value.at 12 rfl) fX9_47 (c0 _) rfl ?_
        refine v_iload_n C (oX9_value.at 13 rfl) rfl ?_
        refine v_iald C (oX9_value.at 14 rfl) (c72 _) (by decide) rfl (by omega) hfx ?_
        refine v_istore C (oX9_value.at 15 rfl) rfl ?_
        refine v_iload C (oX9_value.at 16 rfl) rfl ?_
        refine v_bipush C (oX9_value.at 17 rfl) (v := nI 14) rfl ?_
        dsimp only [sto1, sto2, killL]
        refine v_icmp_geN C (oX9_value.at 18 rfl) (tgt := 79) (by decide) (by omega) (by omega) (fun hc => ?_) (fun hc => absurd hc (by omega))
        refine v_iload C (oX9_value.at 45 rfl) rfl ?_
        refine v_bipush C (oX9_value.at 46 rfl) (v := nI 33) rfl ?_
        refine v_icmp_neN C (oX9_value.at 47 rfl) (tgt := 113) (by decide) (by omega) (by omega) (fun hc => ?_) (fun hc => absurd hc (by omega))
        refine v_idecN C (oX9_value.at 65 rfl) rfl ?_
        dsimp only [sto1, sto2, killL]
        refine v_aload_n C (oX9_value.at 66 rfl) rfl ?_
        refine v_getf C (oX9_value.at 67 rfl) fX9_53 (c0 _) rfl ?_
        refine v_iload_n C (oX9_value.at 68 rfl) rfl ?_
        refine v_iconst C (oX9_value.at 69 rfl) (v := nI 1) rfl ?_
        refine v_isubN C (oX9_value.at 70 rfl) (by omega) ?_
        refine v_iald C (oX9_value.at 71 rfl) (hu_s _ _ _) (by decide) rfl (by omega) hga ?_
        refine v_istore C (oX9_value.at 72 rfl) rfl ?_
        dsimp only [sto1, sto2, killL]
        refine v_aload_n C (oX9_value.at 73 rfl) rfl ?_
        refine v_getf C (oX9_value.at 74 rfl) fX9_53 (c0 _) rfl ?_
        refine v_iload_n C (oX9_value.at 75 rfl) rfl ?_
        refine v_iald C (oX9_value.at 76 rfl) (hu_s _ _ _) (by decide) rfl (by omega) hgb ?_
        refine v_istore C (oX9_value.at 77 rfl) rfl ?_
        refine v_iload C (oX9_value.at 78 rfl) rfl ?_
        dsimp only [sto1, sto2, killL]
        have hk0 : cmbK 120 b = 0 := by unfold cmbK; split <;> rfl
        rw [if_pos hk0] at ih
        have key := key (m := 65) (cmbV 120 a b) (fun g l4 l5 l6 hL => ih g l4 l5 l6 rfl hL)
        have M : V X (0, 0) w (hu h2 74 (io 40 g)) 171 [some (.ref 62), some (.int (nI x0)), some (.int (nI (r.length + 1))), some (.int (nI i)), some (.int (nI 65)), some (.int a), some (.int b)] [] := by
          refine v_aload_n C (oX9_value.at 96 rfl) rfl ?_
          refine v_getf C (oX9_value.at 97 rfl) fX9_53 (c0 _) rfl ?_
          refine v_iload_n C (oX9_value.at 98 rfl) rfl ?_
          refine v_iconst C (oX9_value.at 99 rfl) (v := nI 1) rfl ?_
          refine v_isubN C (oX9_value.at 100 rfl) (by omega) ?_
          refine v_iload C (oX9_value.at 101 rfl) rfl ?_
          refine v_bipush C (oX9_value.at 102 rfl) (v := nI 43) rfl ?_
          refine v_icmp_neN C (oX9_value.at 103 rfl) (tgt := 193) (by decide) (by omega) (by omega) (fun hc => ?_) (fun hc => absurd hc (by omega))
          refine v_iload C (oX9_value.at 108 rfl) rfl ?_
          refine v_bipush C (oX9_value.at 109 rfl) (v := nI 45) rfl ?_
          refine v_icmp_neN C (oX9_value.at 110 rfl) (tgt := 208) (by decide) (by omega) (by omega) (fun hc => ?_) (fun hc => absurd hc (by omega))
          refine v_iload C (oX9_value.at 115 rfl) rfl ?_
          refine v_bipush C (oX9_value.at 116 rfl) (v := nI 42) rfl ?_
          refine v_icmp_neN C (oX9_value.at 117 rfl) (tgt := 223) (by decide) (by omega) (by omega) (fun hc => ?_) (fun hc => absurd hc (by omega))
          refine v_iload C (oX9_value.at 122 rfl) rfl ?_
          refine v_bipush C (oX9_value.at 123 rfl) (v := nI 47) rfl ?_
          refine v_icmp_neN C (oX9_value.at 124 rfl) (tgt := 238) (by decide) (by omega) (by omega) (fun hc => ?_) (fun hc => absurd hc (by omega))
          refine v_iload C (oX9_value.at 129 rfl) rfl ?_
          refine v_bipush C (oX9_value.at 130 rfl) (v := nI 37) rfl ?_
          refine v_icmp_neN C (oX9_value.at 131 rfl) (tgt := 253) (by decide) (by omega) (by omega) (fun hc => ?_) (fun hc => absurd hc (by omega))
          refine v_iload C (oX9_value.at 136 rfl) rfl ?_
          refine v_bipush C (oX9_value.at 137 rfl) (v := nI 61) rfl ?_
          refine v_icmp_neN C (oX9_value.at 138 rfl) (tgt := 275) (by decide) (by omega) (by omega) (fun hc => ?_) (fun hc => absurd hc (by omega))
          refine v_iload C (oX9_value.at 146 rfl) rfl ?_
          refine v_bipush C (oX9_value.at 147 rfl) (v := nI 60) rfl ?_
          refine v_icmp_neN C (oX9_value.at 148 rfl) (tgt := 297) (by decide) (by omega) (by omega) (fun hc => ?_) (fun hc => absurd hc (by omega))
          refine v_iload C (oX9_value.at 156 rfl) rfl ?_
          refine v_bipush C (oX9_value.at 157 rfl) (v := nI 73) rfl ?_
          refine v_icmp_neN C (oX9_value.at 158 rfl) (tgt := 321) (by decide) (by omega) (by omega) (fun hc => ?_) (fun hc => absurd hc (by omega))
          refine v_iload C (oX9_value.at 166 rfl) rfl ?_
          refine v_iload C (oX9_value.at 167 rfl) rfl ?_
          unfold cmbV at key
          rw [if_neg (by decide), if_neg (by decide), if_neg (by decide), if_neg (by decide), if_neg (by decide), if_neg (by decide), if_neg (by decide), if_neg (by decide)] at key
          refine v_icmp_le C (oX9_value.at 168 rfl) (tgt := 333) (by decide) (fun hc => ?_) (fun hc => ?_)
          · have q : (if a < b then b else a) = b := by
              split
              · rfl
              · next z => exact Int32.le_antisymm hc (Int32.not_lt.mp z)
            rw [q] at key
            refine v_iload C (oX9_value.at 171 rfl) rfl ?_
            exact key
          · rw [if_neg (fun z => hc (Int32.le_of_lt z))] at key
            refine v_iload C (oX9_value.at 169 rfl) rfl ?_
            refine v_goto C (oX9_value.at 170 rfl) (tgt := 335) (by decide) ?_
            exact key
        refine v_if_ne C (oX9_value.at 79 rfl) (tgt := 171) (by decide) (fun hb0 => M) (fun hb0 => ?_)
        refine v_iload C (oX9_value.at 80 rfl) rfl ?_
        refine v_bipush C (oX9_value.at 81 rfl) (v := nI 47) rfl ?_
        refine v_icmp_eqN C (oX9_value.at 82 rfl) (tgt := 153) (by decide) (by omega) (by omega) (fun hc => absurd hc (by omega)) (fun hc => ?_)
        refine v_iload C (oX9_value.at 83 rfl) rfl ?_
        refine v_bipush C (oX9_value.at 84 rfl) (v := nI 37) rfl ?_
        refine v_icmp_neN C (oX9_value.at 85 rfl) (tgt := 171) (by decide) (by omega) (by omega) (fun hc => ?_) (fun hc => absurd hc (by omega))
        exact M
