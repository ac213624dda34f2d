/-! ===== compile ===== -/
theorem FmOK.len0 {h : Hp} {p len ek : Nat} {ep : Int32} {c t : List Nat} {tx : Nat → Nat} (H : FmOK h p len ek ep c t tx) : FmOK (hu h p (FO p 0 ek ep c.length t.length)) p 0 ek ep c t tx := by
  obtain ⟨f1, f2, f3, f4, f5, a0, a1, a2, a3, a4, a5, a6, a7, a8, a9, a10⟩ := H
  exact ⟨f1, f2, f3, f4, f5, hu_s _ _ _, (hu_n _ _ (by omega)).trans a1, fun i hi => absurd hi (Nat.not_lt_zero i), (hu_n _ _ (by omega)).trans a3, a4, a5, (hu_n _ _ (by omega)).trans a6, a7, a8, (hu_n _ _ (by omega)).trans a9, (hu_n _ _ (by omega)).trans a10⟩
theorem evR_45 {cl : Nat → Nat} : ∀ l, (evR cl l).1 = 0 ∨ (evR cl l).1 = 4 ∨ (evR cl l).1 = 5
  | [] => Or.inl rfl
  | x :: l => by
    have ih := evR_45 (cl := cl) l
    rw [evR]
    split
    · unfold vst cmbK
      repeat' split
      all_goals (dsimp only; (try omega))
    · exact ih
/-- the formula in the buffer, as it is read -/
def rdS (S : Sc) (F : Sf) : Rr := rdG F.2.2.2 S.2.1 F.1 F.1 0 0 [] []
def evS (S : Sc) (F : Sf) (i : Nat) : Nat × List Int32 := evR (cel S.1 S.2.1 i) (rdS S F).2.2.1
def cpT (S : Sc) (F : Sf) : Nat → Nat := fun i => fmN ((evS S F i).2.headD 0) S.1
theorem cp_read {w : Wt} {G h : Hp} {S Z : Sc} {sv : Bool} {F : Sf} {X : CT} {zR : Nat × Nat} {o : Oc} {P : Wt → Hp → Prop} (C : Cx X mX8_compile [] 5 zR o P) (hP : PA G h S sv Z F) (K : ∀ h', FmOK h' 19 F.1 (rdS S F).1 (rdS S F).2.1 (rdS S F).2.2.1 (rdS S F).2.2.2 F.2.2.2 → PA G h' S sv Z (F.1, (rdS S F).1, (rdS S F).2.1, F.2.2.2) → V X (0, 0) w h' 14 [some (.ref 0)] []) : V X (0, 0) w h 0 [some (.ref 0)] [] := by
  obtain ⟨c, t, hF⟩ := hP.fm
  have hfo := hP.fo
  have hwd := hP.sz.w
  have kr := k_read (w := w) (wd := S.2.1) hF hfo.1 (fun i hi => by have := (hfo.2.1 i hi).2; omega) (by omega)
  refine v_aload_n C (oX8_compile.at 0 rfl) rfl ?_
  refine v_getf C (oX8_compile.at 1 rfl) fX8_36 hP.ob rfl ?_
  refine v_aload_n C (oX8_compile.at 2 rfl) rfl ?_
  refine v_getf C (oX8_compile.at 3 rfl) fX8_10 hP.ob rfl ?_
  refine v_getf C (oX8_compile.at 4 rfl) fX8_107 hP.ru.ro rfl ?_
  refine v_callV C (oX8_compile.at 5 rfl) cX8_162 hF.o (kr) rfl rfl rfl ⟨rfl, rfl⟩ rfl rfl (fun _ => rfl) (fun h' hp => ?_)
  dsimp only [Option.toList, List.cons_append, List.nil_append]
  have he := rdG_err (tx := F.2.2.2) (wd := S.2.1) (len := F.1) F.1 0 0 [] []
  exact K h' hp.1 (hP.set_fm (F' := (F.1, (rdS S F).1, (rdS S F).2.1, F.2.2.2)) ⟨hfo.1, hfo.2.1, Nat.le_trans he (by decide)⟩ (fun j hj => hp.2 j (by omega)) ⟨_, _, hp.1⟩)
theorem k8_compileP {w : Wt} {G h : Hp} {S Z : Sc} {sv : Bool} {F : Sf} (hP : PA G h S sv Z F) (hR : (rdS S F).1 ≠ 0) : ConN mX8_compile 5 (1, 6) w [.ref 0] h (.inr EIAE) (fun h' => PA G h' S sv Z (0, (rdS S F).1, (rdS S F).2.1, F.2.2.2)) := by
  have he : (rdS S F).1 ≤ 3 := rdG_err F.1 0 0 [] []
  refine conI (by decide +kernel) ⟨fun _ => rfl, rfl, by simp⟩ (fun X C => ?_)
  change V X (0, 0) w h 0 [some (.ref 0)] []
  refine cp_read C hP (fun h1 hF1 hP1 => ?_)
  refine v_aload_n C (oX8_compile.at 6 rfl) rfl ?_
  refine v_getf C (oX8_compile.at 7 rfl) fX8_36 hP1.ob rfl ?_
  refine v_getf C (oX8_compile.at 8 rfl) fX8_165 hF1.o rfl ?_
  refine v_if_neN C (oX8_compile.at 9 rfl) (tgt := 39) (by decide) (by omega) (fun hc => ?_) (fun hc => ?_)
  · refine v_aload_n C (oX8_compile.at 17 rfl) rfl ?_
    refine v_getf C (oX8_compile.at 18 rfl) fX8_36 hP1.ob rfl ?_
    refine v_iconst C (oX8_compile.at 19 rfl) (v := nI 0) rfl ?_
    refine v_putI C (oX8_compile.at 20 rfl) fX8_151 p0_0 hF1.o rfl ?_
    change V X (0, 0) w (hu h1 19 (FO 19 0 (rdS S F).1 (rdS S F).2.1 (rdS S F).2.2.1.length (rdS S F).2.2.2.length)) 47 [some (.ref 0)] []
    have hF2 := hF1.len0
    have hP2 : PA G (hu h1 19 (FO 19 0 (rdS S F).1 (rdS S F).2.1 (rdS S F).2.2.1.length (rdS S F).2.2.2.length)) S sv Z (0, (rdS S F).1, (rdS S F).2.1, F.2.2.2) := hP1.set_fm (F' := (0, (rdS S F).1, (rdS S F).2.1, F.2.2.2)) ⟨Nat.zero_le _, fun i hi => absurd hi (Nat.not_lt_zero i), Nat.le_trans he (by decide)⟩ (fun j hj => hu_n _ _ (by omega)) ⟨_, _, hF2⟩
    generalize hu h1 19 (FO 19 0 (rdS S F).1 (rdS S F).2.1 (rdS S F).2.2.1.length (rdS S F).2.2.2.length) = h2 at *
    refine v_aload_n C (oX8_compile.at 21 rfl) rfl ?_
    refine v_getf C (oX8_compile.at 22 rfl) fX8_36 hP2.ob rfl ?_
    refine v_getf C (oX8_compile.at 23 rfl) fX8_165 hF2.o rfl ?_
    refine v_if_neN C (oX8_compile.at 24 rfl) (tgt := 69) (by decide) (by omega) (fun hc => ?_) (fun hc => ?_)
    · refine v_aload_n C (oX8_compile.at 31 rfl) rfl ?_
      refine v_getf C (oX8_compile.at 32 rfl) fX8_36 hP2.ob rfl ?_
      refine v_getf C (oX8_compile.at 33 rfl) fX8_165 hF2.o rfl ?_
      refine v_iconst C (oX8_compile.at 34 rfl) (v := nI 4) rfl ?_
      refine v_icmp_eqN C (oX8_compile.at 35 rfl) (tgt := 91) (by decide) (by omega) (by omega) (fun hc => ?_) (fun hc => ?_)
      · exact absurd hc (by omega)
      · refine v_aload_n C (oX8_compile.at 36 rfl) rfl ?_
        refine v_getf C (oX8_compile.at 37 rfl) fX8_36 hP2.ob rfl ?_
        refine v_getf C (oX8_compile.at 38 rfl) fX8_165 hF2.o rfl ?_
        refine v_iconst C (oX8_compile.at 39 rfl) (v := nI 5) rfl ?_
        refine v_icmp_neN C (oX8_compile.at 40 rfl) (tgt := 101) (by decide) (by omega) (by omega) (fun hc => ?_) (fun hc => ?_)
        · exact v_throwS C rfl tIAE sr177 (oX8_compile.at 46 rfl) (oX8_compile.at 47 rfl) (oX8_compile.at 48 rfl) (oX8_compile.at 49 rfl) (oX8_compile.at 50 rfl) rfl rfl ⟨rfl, hP2⟩
        · exact absurd hc (by omega)
    · exact absurd hc hR
  · exact absurd hc hR
/-- reading was right: the values come into the draft, as far as they come -/
theorem cp_eval {w : Wt} {G h : Hp} {S Z : Sc} {sv : Bool} {F : Sf} {e : Nat} {X : CT} {zR : Nat × Nat} {o : Oc} {P : Wt → Hp → Prop} (C : Cx X mX8_compile [] 5 zR o P) (hP : PA G h S sv Z F) (hR : (rdS S F).1 = 0) (he : e ≤ S.1 ^ S.2.1) (hE : ∀ i, i < e → (evS S F i).1 = 0) (hE2 : e < S.1 ^ S.2.1 → (evS S F e).1 ≠ 0) (K : ∀ h' f, h' 60 = io 27 f → (∀ i, i < e → f i = nI (cpT S F i)) → FmOK h' 19 0 (if e < S.1 ^ S.2.1 then (evS S F e).1 else 0) (if e < S.1 ^ S.2.1 then nI e else (rdS S F).2.1) (rdS S F).2.2.1 (rdS S F).2.2.2 F.2.2.2 → PA G h' S sv Z (0, (if e < S.1 ^ S.2.1 then (evS S F e).1 else 0), (if e < S.1 ^ S.2.1 then nI e else (rdS S F).2.1), F.2.2.2) → V X (0, 0) w h' 47 [some (.ref 0)] []) : V X (0, 0) w h 0 [some (.ref 0)] [] := by
  refine cp_read C hP (fun h1 hF1 hP1 => ?_)
  have hfo := hP.fo
  rw [hR] at hF1 hP1
  obtain ⟨g, hd⟩ := hP1.dr
  have hW : WI S.2.1 0 [] [] := ⟨trivial, rfl⟩
  have hok := rdG_ok (tx := F.2.2.2) (wd := S.2.1) (len := F.1) F.1 0 0 [] [] hW hR
  have hln : (rdS S F).2.2.1.length + (rdS S F).2.2.2.length ≤ 0 + 0 + F.1 := rdG_len (tx := F.2.2.2) (wd := S.2.1) (len := F.1) F.1 0 0 [] []
  have hfl : F.1 ≤ 40 := hfo.1
  have kv := k_evaluate (w := w) (q := 60) (e := e) hF1 hP1.ru.ro hP.sz hd (by decide) (by decide) hok.1 hok.2 (show (rdS S F).2.2.1.length ≤ 40 by omega) he hE hE2
  refine v_aload_n C (oX8_compile.at 6 rfl) rfl ?_
  refine v_getf C (oX8_compile.at 7 rfl) fX8_36 hP1.ob rfl ?_
  refine v_getf C (oX8_compile.at 8 rfl) fX8_165 hF1.o rfl ?_
  refine v_if_neN C (oX8_compile.at 9 rfl) (tgt := 39) (by decide) (by omega) (fun hc => ?_) (fun hc => ?_)
  · exact absurd rfl hc
  · refine v_aload_n C (oX8_compile.at 10 rfl) rfl ?_
    refine v_getf C (oX8_compile.at 11 rfl) fX8_36 hP1.ob rfl ?_
    refine v_aload_n C (oX8_compile.at 12 rfl) rfl ?_
    refine v_getf C (oX8_compile.at 13 rfl) fX8_10 hP1.ob rfl ?_
    refine v_aload_n C (oX8_compile.at 14 rfl) rfl ?_
    refine v_getf C (oX8_compile.at 15 rfl) fX8_75 hP1.ob rfl ?_
    refine v_callV C (oX8_compile.at 16 rfl) cX8_168 hF1.o (kv) rfl rfl rfl ⟨rfl, rfl⟩ rfl rfl (fun _ => rfl) (fun h' hp => ?_)
    dsimp only [Option.toList, List.cons_append, List.nil_append]
    obtain ⟨f, q1, q2, q3, q4⟩ := hp
    have hek : (if e < S.1 ^ S.2.1 then (evS S F e).1 else 0) ≤ 5 := by
      split
      · exact evR_k _
      · omega
    have hP2 : PA G h' S sv Z (F.1, (if e < S.1 ^ S.2.1 then (evS S F e).1 else 0), (if e < S.1 ^ S.2.1 then nI e else (rdS S F).2.1), F.2.2.2) := by
      have hQ : PA G (hu h1 60 (io 27 f)) S sv Z (F.1, 0, (rdS S F).2.1, F.2.2.2) := hP1.set_d (Or.inl rfl)
      refine hQ.set_fm (F' := (F.1, (if e < S.1 ^ S.2.1 then (evS S F e).1 else 0), (if e < S.1 ^ S.2.1 then nI e else (rdS S F).2.1), F.2.2.2)) ⟨hfo.1, hfo.2.1, hek⟩ (fun j hj => ?_) ⟨_, _, q3⟩
      by_cases e9 : j = 60
      · rw [e9, hu_s, q1]
      · rw [hu_n _ _ e9, q4 j (by omega) e9]
    obtain ⟨h2, rfl⟩ : ∃ z, z = h' := ⟨h', rfl⟩
    have q3' : FmOK h2 19 F.1 (if e < S.1 ^ S.2.1 then (evS S F e).1 else 0) (if e < S.1 ^ S.2.1 then nI e else (rdS S F).2.1) (rdS S F).2.2.1 (rdS S F).2.2.2 F.2.2.2 := q3
    clear q3 kv q4
    generalize (if e < S.1 ^ S.2.1 then (evS S F e).1 else 0) = ek at *
    generalize (if e < S.1 ^ S.2.1 then nI e else (rdS S F).2.1) = ep at *
    refine v_aload_n C (oX8_compile.at 17 rfl) rfl ?_
    refine v_getf C (oX8_compile.at 18 rfl) fX8_36 hP2.ob rfl ?_
    refine v_iconst C (oX8_compile.at 19 rfl) (v := nI 0) rfl ?_
    refine v_putI C (oX8_compile.at 20 rfl) fX8_151 p0_0 q3'.o rfl ?_
    change V X (0, 0) w (hu h2 19 (FO 19 0 ek ep (rdS S F).2.2.1.length (rdS S F).2.2.2.length)) 47 [some (.ref 0)] []
    exact K _ f ((hu_n _ _ (by decide)).trans q1) q2 q3'.len0 (hP2.set_fm (F' := (0, ek, ep, F.2.2.2)) ⟨Nat.zero_le _, fun i hi => absurd hi (Nat.not_lt_zero i), hek⟩ (fun j hj => hu_n _ _ (by omega)) ⟨_, _, q3'.len0⟩)
theorem k8_compileE {w : Wt} {G h : Hp} {S Z : Sc} {sv : Bool} {F : Sf} {e : Nat} (hP : PA G h S sv Z F) (hR : (rdS S F).1 = 0) (he : e < S.1 ^ S.2.1) (hE : ∀ i, i < e → (evS S F i).1 = 0) (hE2 : (evS S F e).1 ≠ 0) : ConN mX8_compile 5 (1, 6) w [.ref 0] h (.inr EARI) (fun h' => PA G h' S sv Z (0, (evS S F e).1, nI e, F.2.2.2)) := by
  have h45 := evR_45 (cl := cel S.1 S.2.1 e) (rdS S F).2.2.1
  rw [show evR (cel S.1 S.2.1 e) (rdS S F).2.2.1 = evS S F e from rfl] at h45
  refine conI (by decide +kernel) ⟨fun _ => rfl, rfl, by simp⟩ (fun X C => ?_)
  change V X (0, 0) w h 0 [some (.ref 0)] []
  refine cp_eval C hP hR (Nat.le_of_lt he) hE (fun _ => hE2) (fun h2 f q1 q2 hF2 hP2 => ?_)
  rw [if_pos he, if_pos he] at hF2 hP2
  have thr : V X (0, 0) w h2 91 [some (.ref 0)] [] := v_throwS C rfl tARI sr174 (oX8_compile.at 41 rfl) (oX8_compile.at 42 rfl) (oX8_compile.at 43 rfl) (oX8_compile.at 44 rfl) (oX8_compile.at 45 rfl) rfl rfl ⟨rfl, hP2⟩
  refine v_aload_n C (oX8_compile.at 21 rfl) rfl ?_
  refine v_getf C (oX8_compile.at 22 rfl) fX8_36 hP2.ob rfl ?_
  refine v_getf C (oX8_compile.at 23 rfl) fX8_165 hF2.o rfl ?_
  refine v_if_neN C (oX8_compile.at 24 rfl) (tgt := 69) (by decide) (by omega) (fun hc => ?_) (fun hc => ?_)
  · refine v_aload_n C (oX8_compile.at 31 rfl) rfl ?_
    refine v_getf C (oX8_compile.at 32 rfl) fX8_36 hP2.ob rfl ?_
    refine v_getf C (oX8_compile.at 33 rfl) fX8_165 hF2.o rfl ?_
    refine v_iconst C (oX8_compile.at 34 rfl) (v := nI 4) rfl ?_
    refine v_icmp_eqN C (oX8_compile.at 35 rfl) (tgt := 91) (by decide) (by omega) (by omega) (fun hc => ?_) (fun hc => ?_)
    · exact thr
    · refine v_aload_n C (oX8_compile.at 36 rfl) rfl ?_
      refine v_getf C (oX8_compile.at 37 rfl) fX8_36 hP2.ob rfl ?_
      refine v_getf C (oX8_compile.at 38 rfl) fX8_165 hF2.o rfl ?_
      refine v_iconst C (oX8_compile.at 39 rfl) (v := nI 5) rfl ?_
      refine v_icmp_neN C (oX8_compile.at 40 rfl) (tgt := 101) (by decide) (by omega) (by omega) (fun hc => ?_) (fun hc => ?_)
      · exact absurd hc (by omega)
      · exact thr
  · exact absurd hc hE2
theorem rdG_ep {tx : Nat → Nat} {wd len : Nat} : ∀ d i due c t, (rdG tx wd len d i due c t).1 = 0 → (rdG tx wd len d i due c t).2.1 = -1
  | 0, i, due, c, t, h0 => by
    rw [rdG] at h0 ⊢
    unfold rdE at h0 ⊢
    split
    · next h => rw [if_pos h] at h0; cases h0
    · rfl
  | d + 1, i, due, c, t, h0 => by
    rw [rdG] at h0 ⊢
    by_cases e : (sgn due (tx i) wd c t).1 = 0
    · rw [if_neg (fun q => q e)] at h0 ⊢
      exact rdG_ep d (i + 1) _ _ _ h0
    · rw [if_pos e] at h0
      exact absurd h0 e
theorem k8_compile {w : Wt} {G h : Hp} {S Z : Sc} {sv : Bool} {F : Sf} (hP : PA G h S sv Z F) (hR : (rdS S F).1 = 0) (hE : ∀ i, i < S.1 ^ S.2.1 → (evS S F i).1 = 0) : ConN mX8_compile 5 (0, 0) w [.ref 0] h (.inl (some (.int (nI (chg S.2.2.1 (cpT S F) (S.1 ^ S.2.1)))))) (fun h' => PA G h' (withT S (cpT S F)) sv Z (0, 0, -1, F.2.2.2)) := by
  have hk := hP.sz.k
  have hep : (rdS S F).2.1 = -1 := rdG_ep F.1 0 0 [] [] hR
  refine conI (by decide +kernel) ⟨fun _ => rfl, rfl, by simp⟩ (fun X C => ?_)
  change V X (0, 0) w h 0 [some (.ref 0)] []
  refine cp_eval C hP hR (Nat.le_refl _) hE (fun z => absurd z (Nat.lt_irrefl _)) (fun h2 f q1 q2 hF2 hP2 => ?_)
  rw [if_neg (Nat.lt_irrefl _), if_neg (Nat.lt_irrefl _), hep] at hF2 hP2
  obtain ⟨f1, kt, hR1⟩ := k_take (w := w) (T' := cpT S F) hP2.ru hP.sz q1 (by decide) (fun i hi => ⟨q2 i hi, fmN_lt (by omega)⟩)
  refine v_aload_n C (oX8_compile.at 21 rfl) rfl ?_
  refine v_getf C (oX8_compile.at 22 rfl) fX8_36 hP2.ob rfl ?_
  refine v_getf C (oX8_compile.at 23 rfl) fX8_165 hF2.o rfl ?_
  refine v_if_neN C (oX8_compile.at 24 rfl) (tgt := 69) (by decide) (by omega) (fun hc => ?_) (fun hc => ?_)
  · exact absurd rfl hc
  · refine v_aload_n C (oX8_compile.at 25 rfl) rfl ?_
    refine v_getf C (oX8_compile.at 26 rfl) fX8_10 hP2.ob rfl ?_
    refine v_aload_n C (oX8_compile.at 27 rfl) rfl ?_
    refine v_getf C (oX8_compile.at 28 rfl) fX8_75 hP2.ob rfl ?_
    refine v_callV C (oX8_compile.at 29 rfl) cX8_137 hP2.ru.ro (kt) rfl rfl rfl ⟨rfl, rfl⟩ rfl rfl (fun _ => rfl) (fun h' hp => ?_)
    dsimp only [Option.toList, List.cons_append, List.nil_append]
    rw [show h' = _ from hp]
    exact v_iret C (oX8_compile.at 30 rfl) rfl rfl ⟨Nat.le_refl _, Nat.le_refl _⟩ ⟨rfl, hP2.set_ru (S' := withT S (cpT S F)) (hP.so.withT _) ⟨rfl, rfl⟩ (fun j hj => hu_n _ _ (by omega)) hR1⟩
