/-! ===== Formula: valueForCells, evaluate ===== -/
theorem evR_err {cl : Nat → Nat} : ∀ (d : Nat) (l : List Nat), (evR cl (l.drop d)).1 ≠ 0 → evR cl l = evR cl (l.drop d)
  | 0, l, _ => rfl
  | d + 1, [], _ => rfl
  | d + 1, x :: l, h => by
    have ih := evR_err (cl := cl) d l h
    have h2 : (evR cl l).1 ≠ 0 := by rw [ih]; exact h
    rw [evR, if_neg h2]
    exact ih
theorem k_value {w : Wt} {h : Hp} {p len wd : Nat} {ep : Int32} {c t : List Nat} {tx cl : Nat → Nat} {f5 : Nat → Int32} (hF : FmOK h p len 0 ep c t tx) (hcell : h (p + 5) = io 4 f5) (hcl : ∀ j, j < wd → f5 j = nI (cl j)) (hok : okc wd c) (h1 : hgt wd c = 1) (hl : c.length ≤ 40) : ConN mX0_valueForCells 2 (0, 0) w [.ref p] h (.inl (some (.int (if (evR cl c).1 = 0 then (evR cl c).2.headD 0 else 0)))) (fun h' => FmOK h' p len (evR cl c).1 ep c t tx ∧ FmC h p h' ∧ h' (p + 5) = h (p + 5)) := by
  obtain ⟨f1, f2, f3, f4, f6, a0, a1, a2, a3, a4, a5, a6, a7, a8, a9, a10⟩ := id hF
  refine conI (by decide +kernel) ⟨fun _ => rfl, rfl, by simp⟩ (fun X C => ?_)
  change V X (0, 0) w h 0 [some (.ref p), none, none, none] []
  refine v_iconst C (oX0_valueForCells.at 0 rfl) (v := nI 0) rfl ?_
  refine v_istore_n C (oX0_valueForCells.at 1 rfl) rfl ?_
  refine v_iconst C (oX0_valueForCells.at 2 rfl) (v := nI 0) rfl ?_
  refine v_istore_n C (oX0_valueForCells.at 3 rfl) rfl ?_
  dsimp only [sto1, sto2, killL]
  suffices H : ∀ d, d ≤ c.length → ∀ g l3, (evR cl (c.drop d)).1 = 0 → LV g (evR cl (c.drop d)).2 → V X (0, 0) w (hu h (p + 4) (io 40 g)) 4 [some (.ref p), some (.int (nI (hgt wd (c.drop d)))), some (.int (nI (c.length - d))), l3] [] by
    have := H c.length (Nat.le_refl _) f4 none (by rw [List.drop_length]; rfl) (by rw [List.drop_length]; exact LV.nil _)
    rw [hu_id h a9, List.drop_length, Nat.sub_self] at this
    exact this
  intro d
  induction d with
  | zero =>
    intro _ g l3 he hV
    rw [List.drop_zero] at he hV ⊢
    have hlen := evR_len c hok he
    rw [if_pos he] at C
    have hg : g 0 = (evR cl c).2.headD 0 := by
      have q := hV 0 (by omega)
      rw [hlen, h1] at q
      rw [q]
      cases (evR cl c).2 <;> rfl
    rw [he] at C
    refine v_iload_n C (oX0_valueForCells.at 4 rfl) rfl ?_
    refine v_aload_n C (oX0_valueForCells.at 5 rfl) rfl ?_
    refine v_getf C (oX0_valueForCells.at 6 rfl) fX0_37 (hF.v).o rfl ?_
    refine v_icmp_geN C (oX0_valueForCells.at 7 rfl) (tgt := 158) (by decide) (by omega) (by omega) (fun hc => ?_) (fun hc => ?_)
    · refine v_aload_n C (oX0_valueForCells.at 93 rfl) rfl ?_
      refine v_getf C (oX0_valueForCells.at 94 rfl) fX0_29 (hF.v).o rfl ?_
      refine v_iconst C (oX0_valueForCells.at 95 rfl) (v := nI 0) rfl ?_
      refine v_iald C (oX0_valueForCells.at 96 rfl) (hu_s _ _ _) (by decide) rfl (by omega) hg ?_
      exact v_iret C (oX0_valueForCells.at 97 rfl) rfl rfl ⟨Nat.le_refl _, Nat.le_refl _⟩ ⟨rfl, hF.v, FmC.u _ (by omega) (by omega), hu_n _ _ (by omega)⟩
    · exact absurd hc (by omega)
  | succ d ih =>
    intro hd g l3 he hV
    have hdc : c.drop d = c[d] :: c.drop (d + 1) := List.drop_eq_getElem_cons (by omega)
    have hfx : f2 (c.length - (d + 1)) = nI c[d] := by
      rw [a4 _ (by omega), show c.length - 1 - (c.length - (d + 1)) = d by omega]
      congr 1
      rw [List.getD_eq_getElem?_getD, List.getElem?_eq_getElem (by omega)]; rfl
    have hx : c[d] < 128 := a5 _ (List.getElem_mem _)
    have hokd := okc_drop d c hok
    rw [hdc] at hokd
    have hS := evR_len (cl := cl) _ (okc_drop (d + 1) c hok) he
    have hh := hgt_le wd (c.drop (d + 1))
    rw [List.length_drop] at hh
    have ih := ih (by omega)
    have hev : evR cl (c.drop d) = vst cl c[d] (evR cl (c.drop (d + 1))).2 := by rw [hdc, evR, if_pos he]
    rw [hdc] at ih
    rw [← hdc, hev] at ih
    have herr := evR_err (cl := cl) d c
    rw [hev] at herr
    clear hev
    rw [show c.length - d = c.length - (d + 1) + 1 by omega] at ih
    have hil : c.length - (d + 1) < c.length := by omega
    generalize c.length - (d + 1) = i at *
    rw [hdc] at ih
    generalize hxe : c[d] = x at *
    generalize c.drop (d + 1) = l at *
    generalize (evR cl l).2 = S at *
    have hb3 : ∀ g, hu h (p + 4) (io 40 g) (p + 2) = io 40 f2 := fun g => (hu_n _ _ (by omega)).trans a3
    have hb5 : ∀ g, hu h (p + 4) (io 40 g) (p + 5) = io 4 f5 := fun g => (hu_n _ _ (by omega)).trans hcell
    refine v_iload_n C (oX0_valueForCells.at 4 rfl) rfl ?_
    refine v_aload_n C (oX0_valueForCells.at 5 rfl) rfl ?_
    refine v_getf C (oX0_valueForCells.at 6 rfl) fX0_37 (hF.v).o rfl ?_
    refine v_icmp_geN C (oX0_valueForCells.at 7 rfl) (tgt := 158) (by decide) (by omega) (by omega) (fun hc => ?_) (fun hc => ?_)
    · exact absurd hc (by omega)
    · refine v_aload_n C (oX0_valueForCells.at 8 rfl) rfl ?_
      refine v_getf C (oX0_valueForCells.at 9 rfl) fX0_23 (hF.v).o rfl ?_
      refine v_iload_n C (oX0_valueForCells.at 10 rfl) rfl ?_
      refine v_iald C (oX0_valueForCells.at 11 rfl) (hb3 _) (by decide) rfl (by omega) hfx ?_
      refine v_istore_n C (oX0_valueForCells.at 12 rfl) rfl ?_
      dsimp only [sto1, sto2, killL]
      rcases hokd.2 with o | ⟨o, o1⟩ | ⟨o, o2⟩
      · rw [hgt_opd o, ← hS] at ih
        rw [← hS] at hh ⊢
        rw [opd_iff] at o
        by_cases e : 48 ≤ x ∧ x ≤ 57
        · rw [vst_dig e] at ih
          refine v_iload_n C (oX0_valueForCells.at 13 rfl) rfl ?_
          refine v_bipush C (oX0_valueForCells.at 14 rfl) (v := nI 48) rfl ?_
          refine v_icmp_ltN C (oX0_valueForCells.at 15 rfl) (tgt := 47) (by decide) (by omega) (by omega) (fun hc => ?_) (fun hc => ?_)
          · exact absurd hc (by omega)
          · refine v_iload_n C (oX0_valueForCells.at 16 rfl) rfl ?_
            refine v_bipush C (oX0_valueForCells.at 17 rfl) (v := nI 57) rfl ?_
            refine v_icmp_gtN C (oX0_valueForCells.at 18 rfl) (tgt := 47) (by decide) (by omega) (by omega) (fun hc => ?_) (fun hc => ?_)
            · exact absurd hc (by omega)
            · refine v_aload_n C (oX0_valueForCells.at 19 rfl) rfl ?_
              refine v_getf C (oX0_valueForCells.at 20 rfl) fX0_29 (hF.v).o rfl ?_
              refine v_iload_n C (oX0_valueForCells.at 21 rfl) rfl ?_
              refine v_iload_n C (oX0_valueForCells.at 22 rfl) rfl ?_
              refine v_bipush C (oX0_valueForCells.at 23 rfl) (v := nI 48) rfl ?_
              refine v_isubN C (oX0_valueForCells.at 24 rfl) (by omega) ?_
              refine v_iast C (oX0_valueForCells.at 25 rfl) (hu_s _ _ _) (by decide) rfl (by omega) ?_
              rw [hu_hu]
              refine v_iincN C (oX0_valueForCells.at 26 rfl) rfl ?_
              refine v_goto C (oX0_valueForCells.at 27 rfl) (tgt := 152) (by decide) ?_
              refine v_iincN C (oX0_valueForCells.at 91 rfl) rfl ?_
              refine v_goto C (oX0_valueForCells.at 92 rfl) (tgt := 4) (by decide) ?_
              dsimp only [sto1, sto2, killL]
              exact ih _ _ rfl (hV.push _)
        · rw [vst_cel (by omega)] at ih
          have mid : V X (0, 0) w (hu h (p + 4) (io 40 g)) 47 [some (.ref p), some (.int (nI S.length)), some (.int (nI i)), some (.int (nI x))] [] := by
            have hcx := hcl (x - 97) (by omega)
            refine v_iload_n C (oX0_valueForCells.at 28 rfl) rfl ?_
            refine v_bipush C (oX0_valueForCells.at 29 rfl) (v := nI 97) rfl ?_
            refine v_icmp_ltN C (oX0_valueForCells.at 30 rfl) (tgt := 80) (by decide) (by omega) (by omega) (fun hc => ?_) (fun hc => ?_)
            · exact absurd hc (by omega)
            · refine v_iload_n C (oX0_valueForCells.at 31 rfl) rfl ?_
              refine v_bipush C (oX0_valueForCells.at 32 rfl) (v := nI 100) rfl ?_
              refine v_icmp_gtN C (oX0_valueForCells.at 33 rfl) (tgt := 80) (by decide) (by omega) (by omega) (fun hc => ?_) (fun hc => ?_)
              · exact absurd hc (by omega)
              · refine v_aload_n C (oX0_valueForCells.at 34 rfl) rfl ?_
                refine v_getf C (oX0_valueForCells.at 35 rfl) fX0_29 (hF.v).o rfl ?_
                refine v_iload_n C (oX0_valueForCells.at 36 rfl) rfl ?_
                refine v_aload_n C (oX0_valueForCells.at 37 rfl) rfl ?_
                refine v_getf C (oX0_valueForCells.at 38 rfl) fX0_34 (hF.v).o rfl ?_
                refine v_iload_n C (oX0_valueForCells.at 39 rfl) rfl ?_
                refine v_bipush C (oX0_valueForCells.at 40 rfl) (v := nI 97) rfl ?_
                refine v_isubN C (oX0_valueForCells.at 41 rfl) (by omega) ?_
                refine v_iald C (oX0_valueForCells.at 42 rfl) (hb5 _) (by decide) rfl (by omega) hcx ?_
                refine v_iast C (oX0_valueForCells.at 43 rfl) (hu_s _ _ _) (by decide) rfl (by omega) ?_
                rw [hu_hu]
                refine v_iincN C (oX0_valueForCells.at 44 rfl) rfl ?_
                refine v_goto C (oX0_valueForCells.at 45 rfl) (tgt := 152) (by decide) ?_
                refine v_iincN C (oX0_valueForCells.at 91 rfl) rfl ?_
                refine v_goto C (oX0_valueForCells.at 92 rfl) (tgt := 4) (by decide) ?_
                dsimp only [sto1, sto2, killL]
                exact ih _ _ rfl (hV.push _)
          refine v_iload_n C (oX0_valueForCells.at 13 rfl) rfl ?_
          refine v_bipush C (oX0_valueForCells.at 14 rfl) (v := nI 48) rfl ?_
          refine v_icmp_ltN C (oX0_valueForCells.at 15 rfl) (tgt := 47) (by decide) (by omega) (by omega) (fun hc => ?_) (fun hc => ?_)
          · exact absurd hc (by omega)
          · refine v_iload_n C (oX0_valueForCells.at 16 rfl) rfl ?_
            refine v_bipush C (oX0_valueForCells.at 17 rfl) (v := nI 57) rfl ?_
            refine v_icmp_gtN C (oX0_valueForCells.at 18 rfl) (tgt := 47) (by decide) (by omega) (by omega) (fun hc => ?_) (fun hc => ?_)
            · exact mid
            · exact absurd hc (by omega)
      · subst o
        rw [hgt_not, vst_not, ← hS] at ih
        rw [← hS] at hh o1 ⊢
        cases S with
        | nil => exact absurd o1 (by decide)
        | cons v r =>
          rw [List.length_cons] at ih hh ⊢
          have hgv : g (r.length + 1 - 1) = v := hV.top
          have key : ∀ y l3, (y = if v = 0 then 1 else 0) → V X (0, 0) w (hu h (p + 4) (io 40 (upd g r.length y))) 4 [some (.ref p), some (.int (nI (r.length + 1))), some (.int (nI (i + 1))), l3] [] := by
            intro y l3 hy
            subst hy
            exact ih _ _ rfl (hV.pop.push _)
          refine v_iload_n C (oX0_valueForCells.at 13 rfl) rfl ?_
          refine v_bipush C (oX0_valueForCells.at 14 rfl) (v := nI 48) rfl ?_
          refine v_icmp_ltN C (oX0_valueForCells.at 15 rfl) (tgt := 47) (by decide) (by omega) (by omega) (fun hc => ?_) (fun hc => ?_)
          · refine v_iload_n C (oX0_valueForCells.at 28 rfl) rfl ?_
            refine v_bipush C (oX0_valueForCells.at 29 rfl) (v := nI 97) rfl ?_
            refine v_icmp_ltN C (oX0_valueForCells.at 30 rfl) (tgt := 80) (by decide) (by omega) (by omega) (fun hc => ?_) (fun hc => ?_)
            · refine v_iload_n C (oX0_valueForCells.at 46 rfl) rfl ?_
              refine v_bipush C (oX0_valueForCells.at 47 rfl) (v := nI 33) rfl ?_
              refine v_icmp_neN C (oX0_valueForCells.at 48 rfl) (tgt := 113) (by decide) (by omega) (by omega) (fun hc => ?_) (fun hc => ?_)
              · exact absurd rfl hc
              · refine v_aload_n C (oX0_valueForCells.at 49 rfl) rfl ?_
                refine v_getf C (oX0_valueForCells.at 50 rfl) fX0_29 (hF.v).o rfl ?_
                refine v_iload_n C (oX0_valueForCells.at 51 rfl) rfl ?_
                refine v_iconst C (oX0_valueForCells.at 52 rfl) (v := nI 1) rfl ?_
                refine v_isubN C (oX0_valueForCells.at 53 rfl) (by omega) ?_
                refine v_aload_n C (oX0_valueForCells.at 54 rfl) rfl ?_
                refine v_getf C (oX0_valueForCells.at 55 rfl) fX0_29 (hF.v).o rfl ?_
                refine v_iload_n C (oX0_valueForCells.at 56 rfl) rfl ?_
                refine v_iconst C (oX0_valueForCells.at 57 rfl) (v := nI 1) rfl ?_
                refine v_isubN C (oX0_valueForCells.at 58 rfl) (by omega) ?_
                refine v_iald C (oX0_valueForCells.at 59 rfl) (hu_s _ _ _) (by decide) rfl (by omega) hgv ?_
                refine v_if_ne C (oX0_valueForCells.at 60 rfl) (tgt := 108) (by decide) (fun hc => ?_) (fun hc => ?_)
                · rw [if_neg hc] at key
                  refine v_iconst C (oX0_valueForCells.at 63 rfl) (v := nI 0) rfl ?_
                  refine v_iast C (oX0_valueForCells.at 64 rfl) (hu_s _ _ _) (by decide) rfl (by omega) ?_
                  rw [hu_hu]
                  refine v_goto C (oX0_valueForCells.at 65 rfl) (tgt := 152) (by decide) ?_
                  refine v_iincN C (oX0_valueForCells.at 91 rfl) rfl ?_
                  refine v_goto C (oX0_valueForCells.at 92 rfl) (tgt := 4) (by decide) ?_
                  dsimp only [sto1, sto2, killL]
                  exact key _ _ rfl
                · rw [if_pos hc] at key
                  refine v_iconst C (oX0_valueForCells.at 61 rfl) (v := nI 1) rfl ?_
                  refine v_goto C (oX0_valueForCells.at 62 rfl) (tgt := 109) (by decide) ?_
                  refine v_iast C (oX0_valueForCells.at 64 rfl) (hu_s _ _ _) (by decide) rfl (by omega) ?_
                  rw [hu_hu]
                  refine v_goto C (oX0_valueForCells.at 65 rfl) (tgt := 152) (by decide) ?_
                  refine v_iincN C (oX0_valueForCells.at 91 rfl) rfl ?_
                  refine v_goto C (oX0_valueForCells.at 92 rfl) (tgt := 4) (by decide) ?_
                  dsimp only [sto1, sto2, killL]
                  exact key _ _ rfl
            · exact absurd hc (by decide)
          · exact absurd hc (by decide)
      · have hn := isOp_n (wd := 4) o
        have hn3 : ¬ ((48 ≤ x ∧ x ≤ 57) ∨ (97 ≤ x ∧ x < 97 + 4 ∧ x ≤ 100)) := fun q => by rw [← opd_iff, hn.1] at q; cases q
        rw [hgt_op o, vst_op o, ← hS] at ih
        rw [vst_op o] at herr
        rw [← hS] at hh o2 ⊢
        match S, hV, o2, hh, ih, herr with
        | v :: u :: r, hV, o2, hh, ih, herr =>
          have hgv : g (r.length + 1) = v := hV.top
          have hgu : g (r.length + 1 - 1) = u := hV.pop.top
          rw [List.length_cons, List.length_cons] at hh ih ⊢
          rw [show (v :: u :: r).headD 0 = v from rfl, show (v :: u :: r).tail.headD 0 = u from rfl, show (v :: u :: r).tail.tail = r from rfl] at ih
          rw [show (v :: u :: r).headD 0 = v from rfl] at herr
          have body : V X (0, 0) w (hu h (p + 4) (io 40 g)) 113 [some (.ref p), some (.int (nI (r.length + 1 + 1))), some (.int (nI i)), some (.int (nI x))] [] := by
            refine v_idecN C (oX0_valueForCells.at 66 rfl) rfl ?_
            refine v_aload_n C (oX0_valueForCells.at 67 rfl) rfl ?_
            refine v_getf C (oX0_valueForCells.at 68 rfl) fX0_29 (hF.v).o rfl ?_
            refine v_iload_n C (oX0_valueForCells.at 69 rfl) rfl ?_
            refine v_iconst C (oX0_valueForCells.at 70 rfl) (v := nI 1) rfl ?_
            refine v_isubN C (oX0_valueForCells.at 71 rfl) (by omega) ?_
            refine v_aload_n C (oX0_valueForCells.at 72 rfl) rfl ?_
            refine v_iload_n C (oX0_valueForCells.at 73 rfl) rfl ?_
            refine v_aload_n C (oX0_valueForCells.at 74 rfl) rfl ?_
            refine v_getf C (oX0_valueForCells.at 75 rfl) fX0_29 (hF.v).o rfl ?_
            refine v_iload_n C (oX0_valueForCells.at 76 rfl) rfl ?_
            refine v_iconst C (oX0_valueForCells.at 77 rfl) (v := nI 1) rfl ?_
            refine v_isubN C (oX0_valueForCells.at 78 rfl) (by omega) ?_
            refine v_iald C (oX0_valueForCells.at 79 rfl) (hu_s _ _ _) (by decide) rfl (by omega) hgu ?_
            dsimp only [sto1, sto2, killL]
            refine v_aload_n C (oX0_valueForCells.at 80 rfl) rfl ?_
            refine v_getf C (oX0_valueForCells.at 81 rfl) fX0_29 (hF.v).o rfl ?_
            refine v_iload_n C (oX0_valueForCells.at 82 rfl) rfl ?_
            refine v_iald C (oX0_valueForCells.at 83 rfl) (hu_s _ _ _) (by decide) rfl (by omega) hgv ?_
            by_cases e : cmbK x v = 0
            · have kc := k_combine (w := w) (a := u) (b := v) (hF.v (g := g)).o o
              rw [if_pos e, if_pos e] at kc
              rw [if_pos e] at ih
              refine v_callV C (oX0_valueForCells.at 84 rfl) cX0_102 (hF.v).o (kc) rfl rfl rfl ⟨rfl, rfl⟩ rfl rfl (fun _ => rfl) (fun h' hp => ?_)
              rw [show h' = _ from hp]
              dsimp only [Option.toList, List.cons_append, List.nil_append]
              refine v_iast C (oX0_valueForCells.at 85 rfl) (hu_s _ _ _) (by decide) rfl (by omega) ?_
              rw [hu_hu]
              refine v_aload_n C (oX0_valueForCells.at 86 rfl) rfl ?_
              refine v_getf C (oX0_valueForCells.at 87 rfl) fX0_13 (hF.v).o rfl ?_
              refine v_if_eqN C (oX0_valueForCells.at 88 rfl) (tgt := 152) (by decide) (by omega) (fun hc => ?_) (fun hc => ?_)
              · refine v_iincN C (oX0_valueForCells.at 91 rfl) rfl ?_
                refine v_goto C (oX0_valueForCells.at 92 rfl) (tgt := 4) (by decide) ?_
                dsimp only [sto1, sto2, killL]
                exact ih _ _ rfl (hV.pop.pop.push _)
              · exact absurd rfl hc
            · have kc := k_combine (w := w) (a := u) (b := v) (hF.v (g := g)).o o
              rw [if_neg e, if_neg e] at kc
              rw [if_neg e] at herr
              have herr := herr e
              have hck : cmbK x v ≤ 5 := by
                unfold cmbK
                split
                · split
                  · omega
                  · split <;> omega
                · omega
              refine v_callV C (oX0_valueForCells.at 84 rfl) cX0_102 (hF.v).o (kc) rfl rfl rfl ⟨rfl, rfl⟩ rfl rfl (fun _ => rfl) (fun h' hp => ?_)
              dsimp only [Option.toList, List.cons_append, List.nil_append]
              rw [show h' = _ from hp]
              have b4 : hu (hu h (p + 4) (io 40 g)) p (FO p len (cmbK x v) ep c.length t.length) (p + 4) = io 40 g := (hu_n _ _ (by omega)).trans (hu_s _ _ _)
              refine v_iast C (oX0_valueForCells.at 85 rfl) b4 (by decide) rfl (by omega) ?_
              have bf := ((hF.v (g := g)).fld (ek' := cmbK x v) (ep' := ep)).v (g := upd g (r.length + 1 - 1) 0)
              have bc : FmC h p (hu (hu (hu h (p + 4) (io 40 g)) p (FO p len (cmbK x v) ep c.length t.length)) (p + 4) (io 40 (upd g (r.length + 1 - 1) 0))) := ((FmC.u _ (by omega) (by omega)).tr (FmC.u _ (by omega) (by omega))).tr (FmC.u _ (by omega) (by omega))
              have b5 : hu (hu (hu h (p + 4) (io 40 g)) p (FO p len (cmbK x v) ep c.length t.length)) (p + 4) (io 40 (upd g (r.length + 1 - 1) 0)) (p + 5) = h (p + 5) := by rw [hu_n _ _ (by omega), hu_n _ _ (by omega), hu_n _ _ (by omega)]
              generalize hu (hu (hu h (p + 4) (io 40 g)) p (FO p len (cmbK x v) ep c.length t.length)) (p + 4) (io 40 (upd g (r.length + 1 - 1) 0)) = h9 at *
              rw [herr, if_neg e] at C
              refine v_aload_n C (oX0_valueForCells.at 86 rfl) rfl ?_
              refine v_getf C (oX0_valueForCells.at 87 rfl) fX0_13 bf.o rfl ?_
              refine v_if_eqN C (oX0_valueForCells.at 88 rfl) (tgt := 152) (by decide) (by omega) (fun hc => ?_) (fun hc => ?_)
              · exact absurd hc e
              · refine v_iconst C (oX0_valueForCells.at 89 rfl) (v := nI 0) rfl ?_
                exact v_iret C (oX0_valueForCells.at 90 rfl) rfl rfl ⟨Nat.le_refl _, Nat.le_refl _⟩ ⟨rfl, bf, bc, b5⟩
          have h80 : V X (0, 0) w (hu h (p + 4) (io 40 g)) 80 [some (.ref p), some (.int (nI (r.length + 1 + 1))), some (.int (nI i)), some (.int (nI x))] [] := by
            refine v_iload_n C (oX0_valueForCells.at 46 rfl) rfl ?_
            refine v_bipush C (oX0_valueForCells.at 47 rfl) (v := nI 33) rfl ?_
            refine v_icmp_neN C (oX0_valueForCells.at 48 rfl) (tgt := 113) (by decide) (by omega) (by omega) (fun hc => ?_) (fun hc => ?_)
            · exact body
            · exact absurd hc hn.2
          have h47 : V X (0, 0) w (hu h (p + 4) (io 40 g)) 47 [some (.ref p), some (.int (nI (r.length + 1 + 1))), some (.int (nI i)), some (.int (nI x))] [] := by
            refine v_iload_n C (oX0_valueForCells.at 28 rfl) rfl ?_
            refine v_bipush C (oX0_valueForCells.at 29 rfl) (v := nI 97) rfl ?_
            refine v_icmp_ltN C (oX0_valueForCells.at 30 rfl) (tgt := 80) (by decide) (by omega) (by omega) (fun hc => ?_) (fun hc => ?_)
            · exact h80
            · refine v_iload_n C (oX0_valueForCells.at 31 rfl) rfl ?_
              refine v_bipush C (oX0_valueForCells.at 32 rfl) (v := nI 100) rfl ?_
              refine v_icmp_gtN C (oX0_valueForCells.at 33 rfl) (tgt := 80) (by decide) (by omega) (by omega) (fun hc => ?_) (fun hc => ?_)
              · exact h80
              · exact absurd hc (by omega)
          refine v_iload_n C (oX0_valueForCells.at 13 rfl) rfl ?_
          refine v_bipush C (oX0_valueForCells.at 14 rfl) (v := nI 48) rfl ?_
          refine v_icmp_ltN C (oX0_valueForCells.at 15 rfl) (tgt := 47) (by decide) (by omega) (by omega) (fun hc => ?_) (fun hc => ?_)
          · exact h47
          · refine v_iload_n C (oX0_valueForCells.at 16 rfl) rfl ?_
            refine v_bipush C (oX0_valueForCells.at 17 rfl) (v := nI 57) rfl ?_
            refine v_icmp_gtN C (oX0_valueForCells.at 18 rfl) (tgt := 47) (by decide) (by omega) (by omega) (fun hc => ?_) (fun hc => ?_)
            · exact h47
            · exact absurd hc (by omega)
