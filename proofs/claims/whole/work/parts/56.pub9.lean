/-! ===== the program's methods: orphans ===== -/
/-- the sets reached, and which of them a set steps to -/
def Qs (S : Sc) (e : Nat) : Nat → Nat := (bfs S.1 (S.1 ^ (S.2.1 - 1)) S.2.2.1 (e * S.1)).2.1
def NxP (S : Sc) (e : Nat) (nx : Nat → Nat) : Prop := ∀ t, t < e * S.1 → nx t < e ∧ Qs S e (nx t) = suc S.1 (S.1 ^ (S.2.1 - 1)) S.2.2.1 (Qs S e (t / S.1)) (t % S.1)
theorem Qs_inj {S : Sc} (hs : SZ S.1 S.2.1) {e : Nat} (he : Bend S.1 (S.1 ^ (S.2.1 - 1)) S.2.2.1 e) {a b : Nat} (ha : a < e) (hb : b < e) (h : Qs S e a = Qs S e b) : a = b := by
  have hi := (bfs_in (k := S.1) (T := S.2.2.1) hs.n0 (e * S.1)).2.2
  rw [he.1] at hi
  apply Decidable.byContradiction
  intro q
  rcases Nat.lt_or_ge a b with z | z
  · exact hi a b z hb h
  · exact hi b a (by omega) ha h.symm
theorem SInv.nx {S : Sc} (hs : SZ S.1 S.2.1) {e : Nat} {A : Nat → Nat → Int32} {nx : Nat → Nat} (he : Bend S.1 (S.1 ^ (S.2.1 - 1)) S.2.2.1 e) (hI : SInv S.1 (S.1 ^ (S.2.1 - 1)) S.2.2.1 (e * S.1) A) (hn : NxP S e nx) : ∀ t, t < e * S.1 → A 5 t = nI (nx t) ∧ nx t < e := by
  intro t ht
  obtain ⟨j, hj, h5, hq⟩ := hI.2.2.1 t ht
  rw [he.1] at hj
  obtain ⟨h1, h2⟩ := hn t ht
  have : j = nx t := Qs_inj hs he hj h1 (hq.trans h2.symm)
  rw [← this]
  exact ⟨h5, hj⟩
theorem SInv.at0 {S : Sc} {e j : Nat} {A : Nat → Nat → Int32} (he : Bend S.1 (S.1 ^ (S.2.1 - 1)) S.2.2.1 e) (hI : SInv S.1 (S.1 ^ (S.2.1 - 1)) S.2.2.1 (e * S.1) A) (hj : j < e) (h0 : Qs S e j = 0) : A 2 0 = nI j := by
  have h1 := (hI.1 j (by rw [he.1]; exact hj)).2.2.2
  rw [show (bfs S.1 (S.1 ^ (S.2.1 - 1)) S.2.2.1 (e * S.1)).2.1 j = 0 from h0] at h1
  exact h1
theorem SInv.no0 {S : Sc} {e : Nat} {A : Nat → Nat → Int32} (he : Bend S.1 (S.1 ^ (S.2.1 - 1)) S.2.2.1 e) (hI : SInv S.1 (S.1 ^ (S.2.1 - 1)) S.2.2.1 (e * S.1) A) (h0 : ∀ j, j < e → Qs S e j ≠ 0) : A 2 0 = -1 := hI.2.1 0 (by decide) (fun j hj => h0 j (by rw [he.1] at hj; exact hj))
theorem Bend.le {S : Sc} (hs : SZ S.1 S.2.1) {e : Nat} (he : Bend S.1 (S.1 ^ (S.2.1 - 1)) S.2.2.1 e) : e ≤ 512 := by
  have := bfs_le (k := S.1) (T := S.2.2.1) hs.n0 hs.n (e * S.1)
  rw [he.1] at this
  exact this
theorem k8_orphansX {w : Wt} {h : Hp} {x : Int32} (hx : ¬ (¬ x < nI 0 ∧ x ≤ nI 12)) : ConN mX8_orphans 1 (1, 6) w [.ref 0, .int x] h (.inr EIAE) (fun h' => h' = h) := by
  refine conI (by decide +kernel) ⟨fun _ => rfl, rfl, by simp⟩ (fun X C => ?_)
  change V X (0, 0) w h 0 [some (.ref 0), some (.int x)] []
  refine v_iload_n C (oX8_orphans.at 0 rfl) rfl ?_
  refine v_iconst C (oX8_orphans.at 1 rfl) (v := nI 0) rfl ?_
  refine v_bipush C (oX8_orphans.at 2 rfl) (v := nI 12) rfl ?_
  exact v_callST C (oX8_orphans.at 3 rfl) cX8_280 (k_needLengthX hx) rfl rfl rfl rfl rfl (fun h' hp => ⟨rfl, hp⟩)
theorem k8_orphans0 {w : Wt} {G h : Hp} {S Z : Sc} {sv : Bool} {F : Sf} {x e : Nat} (hP : PA G h S sv Z F) (hx : x ≤ 12) (he : Bend S.1 (S.1 ^ (S.2.1 - 1)) S.2.2.1 e) (h0 : ∀ j, j < e → Qs S e j ≠ 0) : ConN mX8_orphans 4 (0, 0) w [.ref 0, .int (nI x)] h (.inl (some (.int (nI 0)))) (fun h' => PA G h' S sv Z F) := by
  obtain ⟨fnd, A, hA⟩ := hP.au
  have ke := k_explore (w := w) hP.ru hP.sz hA (by decide) he
  refine conI (by decide +kernel) ⟨fun _ => rfl, rfl, by simp⟩ (fun X C => ?_)
  change V X (0, 0) w h 0 [some (.ref 0), some (.int (nI x))] []
  refine v_iload_n C (oX8_orphans.at 0 rfl) rfl ?_
  refine v_iconst C (oX8_orphans.at 1 rfl) (v := nI 0) rfl ?_
  refine v_bipush C (oX8_orphans.at 2 rfl) (v := nI 12) rfl ?_
  refine v_callS C (oX8_orphans.at 3 rfl) cX8_280 (k_needLength (nlt_of_n (Nat.zero_le _) (by omega)) (le_of_n hx (by decide))) rfl rfl rfl ⟨rfl, rfl⟩ rfl rfl (fun _ => rfl) (fun h' hp => ?_)
  rw [show h' = _ from hp]
  dsimp only [Option.toList, List.cons_append, List.nil_append]
  refine v_aload_n C (oX8_orphans.at 4 rfl) rfl ?_
  refine v_getf C (oX8_orphans.at 5 rfl) fX8_57 hP.ob rfl ?_
  refine v_aload_n C (oX8_orphans.at 6 rfl) rfl ?_
  refine v_getf C (oX8_orphans.at 7 rfl) fX8_10 hP.ob rfl ?_
  refine v_callV C (oX8_orphans.at 8 rfl) cX8_300 hA.1 (ke) rfl rfl rfl ⟨rfl, rfl⟩ rfl rfl (fun _ => rfl) (fun h' hp => ?_)
  dsimp only [Option.toList, List.cons_append, List.nil_append]
  obtain ⟨⟨A', hA', hI⟩, hfr⟩ := hp
  have hP1 : PA G h' S sv Z F := hP.set_au (fun j hj => hfr j (by omega)) ⟨e, A', hA'⟩
  refine v_aload_n C (oX8_orphans.at 9 rfl) rfl ?_
  refine v_getf C (oX8_orphans.at 10 rfl) fX8_57 hP1.ob rfl ?_
  refine v_aload_n C (oX8_orphans.at 11 rfl) rfl ?_
  refine v_getf C (oX8_orphans.at 12 rfl) fX8_10 hP1.ob rfl ?_
  refine v_iload_n C (oX8_orphans.at 13 rfl) rfl ?_
  refine v_callV C (oX8_orphans.at 14 rfl) cX8_307 hA'.1 (k_countOrphans0 hA' (hI.no0 he h0)) rfl rfl rfl ⟨rfl, rfl⟩ rfl rfl (fun _ => rfl) (fun h' hp => ?_)
  rw [show h' = _ from hp]
  dsimp only [Option.toList, List.cons_append, List.nil_append]
  exact v_iret C (oX8_orphans.at 15 rfl) rfl rfl ⟨Nat.le_refl _, Nat.le_refl _⟩ ⟨rfl, hP1⟩
theorem k8_orphans {w : Wt} {G h : Hp} {S Z : Sc} {sv : Bool} {F : Sf} {x e j0 : Nat} {nx : Nat → Nat} (hP : PA G h S sv Z F) (hx : x ≤ 12) (he : Bend S.1 (S.1 ^ (S.2.1 - 1)) S.2.2.1 e) (hn : NxP S e nx) (hj0 : j0 < e) (h0 : Qs S e j0 = 0) : ConN mX8_orphans 4 (0, 0) w [.ref 0, .int (nI x)] h (.inl (some (.int (nI (cI S.1 e nx x j0))))) (fun h' => PA G h' S sv Z F) := by
  obtain ⟨fnd, A, hA⟩ := hP.au
  have hle := he.le hP.sz
  have ke := k_explore (w := w) hP.ru hP.sz hA (by decide) he
  refine conI (by decide +kernel) ⟨fun _ => rfl, rfl, by simp⟩ (fun X C => ?_)
  change V X (0, 0) w h 0 [some (.ref 0), some (.int (nI x))] []
  refine v_iload_n C (oX8_orphans.at 0 rfl) rfl ?_
  refine v_iconst C (oX8_orphans.at 1 rfl) (v := nI 0) rfl ?_
  refine v_bipush C (oX8_orphans.at 2 rfl) (v := nI 12) rfl ?_
  refine v_callS C (oX8_orphans.at 3 rfl) cX8_280 (k_needLength (nlt_of_n (Nat.zero_le _) (by omega)) (le_of_n hx (by decide))) rfl rfl rfl ⟨rfl, rfl⟩ rfl rfl (fun _ => rfl) (fun h' hp => ?_)
  rw [show h' = _ from hp]
  dsimp only [Option.toList, List.cons_append, List.nil_append]
  refine v_aload_n C (oX8_orphans.at 4 rfl) rfl ?_
  refine v_getf C (oX8_orphans.at 5 rfl) fX8_57 hP.ob rfl ?_
  refine v_aload_n C (oX8_orphans.at 6 rfl) rfl ?_
  refine v_getf C (oX8_orphans.at 7 rfl) fX8_10 hP.ob rfl ?_
  refine v_callV C (oX8_orphans.at 8 rfl) cX8_300 hA.1 (ke) rfl rfl rfl ⟨rfl, rfl⟩ rfl rfl (fun _ => rfl) (fun h' hp => ?_)
  dsimp only [Option.toList, List.cons_append, List.nil_append]
  obtain ⟨⟨A', hA', hI⟩, hfr⟩ := hp
  have hP1 : PA G h' S sv Z F := hP.set_au (fun j hj => hfr j (by omega)) ⟨e, A', hA'⟩
  obtain ⟨h1, rfl⟩ : ∃ z, z = h' := ⟨h', rfl⟩
  have kc := k_countOrphans (w := w) (L := x) hP1.ru hP.sz hA' (by decide) hle (hI.nx hP.sz he hn) (hI.at0 he hj0 h0) hj0 hx
  refine v_aload_n C (oX8_orphans.at 9 rfl) rfl ?_
  refine v_getf C (oX8_orphans.at 10 rfl) fX8_57 hP1.ob rfl ?_
  refine v_aload_n C (oX8_orphans.at 11 rfl) rfl ?_
  refine v_getf C (oX8_orphans.at 12 rfl) fX8_10 hP1.ob rfl ?_
  refine v_iload_n C (oX8_orphans.at 13 rfl) rfl ?_
  refine v_callV C (oX8_orphans.at 14 rfl) cX8_307 hA'.1 (kc) rfl rfl rfl ⟨rfl, rfl⟩ rfl rfl (fun _ => rfl) (fun h' hp => ?_)
  dsimp only [Option.toList, List.cons_append, List.nil_append]
  obtain ⟨⟨A2, hA2⟩, hf2⟩ := hp
  exact v_iret C (oX8_orphans.at 15 rfl) rfl rfl ⟨Nat.le_refl _, Nat.le_refl _⟩ ⟨rfl, hP1.set_au (fun j hj => hf2 j (by omega)) ⟨e, A2, hA2⟩⟩
theorem k8_shortestR {w : Wt} {h : Hp} {x : Int32} (hx : ¬ InB x 4) : ConN mX8_shortestOrphan 1 (1, 6) w [.ref 0, .int x] h (.inr EIOO) (fun h' => h' = h) := by
  refine conI (by decide +kernel) ⟨fun _ => rfl, rfl, by simp⟩ (fun X C => ?_)
  change V X (0, 0) w h 0 [some (.ref 0), some (.int x), none] []
  refine v_iload_n C (oX8_shortestOrphan.at 0 rfl) rfl ?_
  exact v_callST C (oX8_shortestOrphan.at 1 rfl) cX8_210 (k_needRegX hx) rfl rfl rfl rfl rfl (fun h' hp => ⟨rfl, hp⟩)
theorem k8_shortestN {w : Wt} {G h : Hp} {S Z : Sc} {sv : Bool} {F : Sf} {x e : Nat} (hP : PA G h S sv Z F) (hx : x < 4) (he : Bend S.1 (S.1 ^ (S.2.1 - 1)) S.2.2.1 e) (h0 : ∀ j, j < e → Qs S e j ≠ 0) : ConN mX8_shortestOrphan 3 (1, 6) w [.ref 0, .int (nI x)] h (.inr ENSE) (fun h' => PA G h' S sv Z F) := by
  obtain ⟨fnd, A, hA⟩ := hP.au
  have ke := k_explore (w := w) hP.ru hP.sz hA (by decide) he
  refine conI (by decide +kernel) ⟨fun _ => rfl, rfl, by simp⟩ (fun X C => ?_)
  change V X (0, 0) w h 0 [some (.ref 0), some (.int (nI x)), none] []
  refine v_iload_n C (oX8_shortestOrphan.at 0 rfl) rfl ?_
  refine v_callS C (oX8_shortestOrphan.at 1 rfl) cX8_210 (k_needReg (InB.of hx (by decide))) rfl rfl rfl ⟨rfl, rfl⟩ rfl rfl (fun _ => rfl) (fun h' hp => ?_)
  rw [show h' = _ from hp]
  dsimp only [Option.toList, List.cons_append, List.nil_append]
  refine v_aload_n C (oX8_shortestOrphan.at 2 rfl) rfl ?_
  refine v_getf C (oX8_shortestOrphan.at 3 rfl) fX8_57 hP.ob rfl ?_
  refine v_aload_n C (oX8_shortestOrphan.at 4 rfl) rfl ?_
  refine v_getf C (oX8_shortestOrphan.at 5 rfl) fX8_10 hP.ob rfl ?_
  refine v_callV C (oX8_shortestOrphan.at 6 rfl) cX8_300 hA.1 (ke) rfl rfl rfl ⟨rfl, rfl⟩ rfl rfl (fun _ => rfl) (fun h' hp => ?_)
  dsimp only [Option.toList, List.cons_append, List.nil_append]
  obtain ⟨⟨A', hA', hI⟩, hfr⟩ := hp
  have hP1 : PA G h' S sv Z F := hP.set_au (fun j hj => hfr j (by omega)) ⟨e, A', hA'⟩
  refine v_aload_n C (oX8_shortestOrphan.at 7 rfl) rfl ?_
  refine v_getf C (oX8_shortestOrphan.at 8 rfl) fX8_57 hP1.ob rfl ?_
  refine v_callV C (oX8_shortestOrphan.at 9 rfl) cX8_310 hA'.1 (k_isWithout1 hA' (hI.no0 he h0)) rfl rfl rfl ⟨rfl, rfl⟩ rfl rfl (fun _ => rfl) (fun h' hp => ?_)
  rw [show h' = _ from hp]
  dsimp only [Option.toList, List.cons_append, List.nil_append]
  refine v_if_eqB C (oX8_shortestOrphan.at 10 rfl) (tgt := 36) (by decide) (fun hc => ?_) (fun hc => ?_)
  · cases hc
  · exact v_throwN C rfl sr314 (oX8_shortestOrphan.at 11 rfl) (oX8_shortestOrphan.at 12 rfl) (oX8_shortestOrphan.at 13 rfl) (oX8_shortestOrphan.at 14 rfl) (oX8_shortestOrphan.at 15 rfl) rfl rfl ⟨rfl, hP1⟩
/-- the shortest orphan: its length and its index, by the place of the empty set -/
def oLn (S : Sc) (e j : Nat) : Nat := bdp (bfs S.1 (S.1 ^ (S.2.1 - 1)) S.2.2.1 (e * S.1)) j
def oIx (S : Sc) (e j : Nat) : Nat := bwr S.1 (bfs S.1 (S.1 ^ (S.2.1 - 1)) S.2.2.1 (e * S.1)) j
theorem k8_shortestL {w : Wt} {G h : Hp} {S Z : Sc} {sv : Bool} {F : Sf} {x e j0 : Nat} (hP : PA G h S sv Z F) (hx : x < 4) (he : Bend S.1 (S.1 ^ (S.2.1 - 1)) S.2.2.1 e) (hj0 : j0 < e) (h0 : Qs S e j0 = 0) (hL : 14 < oLn S e j0) (hL2 : oLn S e j0 < 2 ^ 31) : ConN mX8_shortestOrphan 3 (1, 6) w [.ref 0, .int (nI x)] h (.inr EISE) (fun h' => PA G h' S sv Z F) := by
  obtain ⟨fnd, A, hA⟩ := hP.au
  have hle := he.le hP.sz
  have ke := k_explore (w := w) hP.ru hP.sz hA (by decide) he
  refine conI (by decide +kernel) ⟨fun _ => rfl, rfl, by simp⟩ (fun X C => ?_)
  change V X (0, 0) w h 0 [some (.ref 0), some (.int (nI x)), none] []
  refine v_iload_n C (oX8_shortestOrphan.at 0 rfl) rfl ?_
  refine v_callS C (oX8_shortestOrphan.at 1 rfl) cX8_210 (k_needReg (InB.of hx (by decide))) rfl rfl rfl ⟨rfl, rfl⟩ rfl rfl (fun _ => rfl) (fun h' hp => ?_)
  rw [show h' = _ from hp]
  dsimp only [Option.toList, List.cons_append, List.nil_append]
  refine v_aload_n C (oX8_shortestOrphan.at 2 rfl) rfl ?_
  refine v_getf C (oX8_shortestOrphan.at 3 rfl) fX8_57 hP.ob rfl ?_
  refine v_aload_n C (oX8_shortestOrphan.at 4 rfl) rfl ?_
  refine v_getf C (oX8_shortestOrphan.at 5 rfl) fX8_10 hP.ob rfl ?_
  refine v_callV C (oX8_shortestOrphan.at 6 rfl) cX8_300 hA.1 (ke) rfl rfl rfl ⟨rfl, rfl⟩ rfl rfl (fun _ => rfl) (fun h' hp => ?_)
  dsimp only [Option.toList, List.cons_append, List.nil_append]
  obtain ⟨⟨A', hA', hI⟩, hfr⟩ := hp
  have hP1 : PA G h' S sv Z F := hP.set_au (fun j hj => hfr j (by omega)) ⟨e, A', hA'⟩
  have h2 := hI.at0 he hj0 h0
  have h3 : A' 3 j0 = nI (oLn S e j0) := (hI.1 j0 (by rw [he.1]; exact hj0)).2.1
  obtain ⟨h1, rfl⟩ : ∃ z, z = h' := ⟨h', rfl⟩
  refine v_aload_n C (oX8_shortestOrphan.at 7 rfl) rfl ?_
  refine v_getf C (oX8_shortestOrphan.at 8 rfl) fX8_57 hP1.ob rfl ?_
  refine v_callV C (oX8_shortestOrphan.at 9 rfl) cX8_310 hA'.1 (k_isWithout0 hA' h2 (by omega)) rfl rfl rfl ⟨rfl, rfl⟩ rfl rfl (fun _ => rfl) (fun h' hp => ?_)
  rw [show h' = _ from hp]
  dsimp only [Option.toList, List.cons_append, List.nil_append]
  refine v_if_eqB C (oX8_shortestOrphan.at 10 rfl) (tgt := 36) (by decide) (fun hc => ?_) (fun hc => ?_)
  · refine v_aload_n C (oX8_shortestOrphan.at 16 rfl) rfl ?_
    refine v_getf C (oX8_shortestOrphan.at 17 rfl) fX8_57 hP1.ob rfl ?_
    refine v_callV C (oX8_shortestOrphan.at 18 rfl) cX8_316 hA'.1 (k_orphanLength hA' h2 (by omega) h3) rfl rfl rfl ⟨rfl, rfl⟩ rfl rfl (fun _ => rfl) (fun h' hp => ?_)
    rw [show h' = _ from hp]
    dsimp only [Option.toList, List.cons_append, List.nil_append]
    refine v_istore_n C (oX8_shortestOrphan.at 19 rfl) rfl ?_
    dsimp only [sto1, sto2, killL]
    refine v_iload_n C (oX8_shortestOrphan.at 20 rfl) rfl ?_
    refine v_bipush C (oX8_shortestOrphan.at 21 rfl) (v := nI 14) rfl ?_
    refine v_icmp_leN C (oX8_shortestOrphan.at 22 rfl) (tgt := 61) (by decide) (by omega) (by omega) (fun hc => ?_) (fun hc => ?_)
    · exact absurd hc (by omega)
    · exact v_throwSW C rfl tISE sr320 (oX8_shortestOrphan.at 23 rfl) (oX8_shortestOrphan.at 24 rfl) (oX8_shortestOrphan.at 25 rfl) (oX8_shortestOrphan.at 26 rfl) (oX8_shortestOrphan.at 27 rfl) rfl rfl ⟨rfl, hP1⟩
  · cases hc
theorem k8_shortest {w : Wt} {G h : Hp} {S Z : Sc} {sv : Bool} {F : Sf} {x e j0 : Nat} (hP : PA G h S sv Z F) (hx : x < 4) (he : Bend S.1 (S.1 ^ (S.2.1 - 1)) S.2.2.1 e) (hj0 : j0 < e) (h0 : Qs S e j0 = 0) (hL : oLn S e j0 ≤ 14) (hix : oIx S e j0 < S.1 ^ oLn S e j0) : ConN mX8_shortestOrphan 3 (0, 0) w [.ref 0, .int (nI x)] h (.inl (some (.int (nI (oLn S e j0))))) (fun h' => PA G h' (withR S x (oLn S e j0) (oIx S e j0)) sv Z F) := by
  obtain ⟨fnd, A, hA⟩ := hP.au
  have hle := he.le hP.sz
  have ke := k_explore (w := w) hP.ru hP.sz hA (by decide) he
  refine conI (by decide +kernel) ⟨fun _ => rfl, rfl, by simp⟩ (fun X C => ?_)
  change V X (0, 0) w h 0 [some (.ref 0), some (.int (nI x)), none] []
  refine v_iload_n C (oX8_shortestOrphan.at 0 rfl) rfl ?_
  refine v_callS C (oX8_shortestOrphan.at 1 rfl) cX8_210 (k_needReg (InB.of hx (by decide))) rfl rfl rfl ⟨rfl, rfl⟩ rfl rfl (fun _ => rfl) (fun h' hp => ?_)
  rw [show h' = _ from hp]
  dsimp only [Option.toList, List.cons_append, List.nil_append]
  refine v_aload_n C (oX8_shortestOrphan.at 2 rfl) rfl ?_
  refine v_getf C (oX8_shortestOrphan.at 3 rfl) fX8_57 hP.ob rfl ?_
  refine v_aload_n C (oX8_shortestOrphan.at 4 rfl) rfl ?_
  refine v_getf C (oX8_shortestOrphan.at 5 rfl) fX8_10 hP.ob rfl ?_
  refine v_callV C (oX8_shortestOrphan.at 6 rfl) cX8_300 hA.1 (ke) rfl rfl rfl ⟨rfl, rfl⟩ rfl rfl (fun _ => rfl) (fun h' hp => ?_)
  dsimp only [Option.toList, List.cons_append, List.nil_append]
  obtain ⟨⟨A', hA', hI⟩, hfr⟩ := hp
  have hP1 : PA G h' S sv Z F := hP.set_au (fun j hj => hfr j (by omega)) ⟨e, A', hA'⟩
  have h2 := hI.at0 he hj0 h0
  have h3 : A' 3 j0 = nI (oLn S e j0) := (hI.1 j0 (by rw [he.1]; exact hj0)).2.1
  have h4 : A' 4 j0 = nI (oIx S e j0) := (hI.1 j0 (by rw [he.1]; exact hj0)).2.2.1
  obtain ⟨h1, rfl⟩ : ∃ z, z = h' := ⟨h', rfl⟩
  obtain ⟨f', e', q0, -⟩ := id hP1.rg
  have kp := k_regPut (w := w) (l := oLn S e j0) (x := oIx S e j0) hP1.rg hx
  refine v_aload_n C (oX8_shortestOrphan.at 7 rfl) rfl ?_
  refine v_getf C (oX8_shortestOrphan.at 8 rfl) fX8_57 hP1.ob rfl ?_
  refine v_callV C (oX8_shortestOrphan.at 9 rfl) cX8_310 hA'.1 (k_isWithout0 hA' h2 (by omega)) rfl rfl rfl ⟨rfl, rfl⟩ rfl rfl (fun _ => rfl) (fun h' hp => ?_)
  rw [show h' = _ from hp]
  dsimp only [Option.toList, List.cons_append, List.nil_append]
  refine v_if_eqB C (oX8_shortestOrphan.at 10 rfl) (tgt := 36) (by decide) (fun hc => ?_) (fun hc => ?_)
  · refine v_aload_n C (oX8_shortestOrphan.at 16 rfl) rfl ?_
    refine v_getf C (oX8_shortestOrphan.at 17 rfl) fX8_57 hP1.ob rfl ?_
    refine v_callV C (oX8_shortestOrphan.at 18 rfl) cX8_316 hA'.1 (k_orphanLength hA' h2 (by omega) h3) rfl rfl rfl ⟨rfl, rfl⟩ rfl rfl (fun _ => rfl) (fun h' hp => ?_)
    rw [show h' = _ from hp]
    dsimp only [Option.toList, List.cons_append, List.nil_append]
    refine v_istore_n C (oX8_shortestOrphan.at 19 rfl) rfl ?_
    dsimp only [sto1, sto2, killL]
    refine v_iload_n C (oX8_shortestOrphan.at 20 rfl) rfl ?_
    refine v_bipush C (oX8_shortestOrphan.at 21 rfl) (v := nI 14) rfl ?_
    refine v_icmp_leN C (oX8_shortestOrphan.at 22 rfl) (tgt := 61) (by decide) (by omega) (by omega) (fun hc => ?_) (fun hc => ?_)
    · refine v_aload_n C (oX8_shortestOrphan.at 28 rfl) rfl ?_
      refine v_getf C (oX8_shortestOrphan.at 29 rfl) fX8_22 hP1.ob rfl ?_
      refine v_iload_n C (oX8_shortestOrphan.at 30 rfl) rfl ?_
      refine v_iload_n C (oX8_shortestOrphan.at 31 rfl) rfl ?_
      refine v_aload_n C (oX8_shortestOrphan.at 32 rfl) rfl ?_
      refine v_getf C (oX8_shortestOrphan.at 33 rfl) fX8_57 hP1.ob rfl ?_
      refine v_callV C (oX8_shortestOrphan.at 34 rfl) cX8_322 hA'.1 (k_orphanIndex hA' h2 (by omega) h4) rfl rfl rfl ⟨rfl, rfl⟩ rfl rfl (fun _ => rfl) (fun h' hp => ?_)
      rw [show h' = _ from hp]
      dsimp only [Option.toList, List.cons_append, List.nil_append]
      refine v_callV C (oX8_shortestOrphan.at 35 rfl) cX8_220 q0 (kp) rfl rfl rfl ⟨rfl, rfl⟩ rfl rfl (fun _ => rfl) (fun h' hp => ?_)
      dsimp only [Option.toList, List.cons_append, List.nil_append]
      refine v_iload_n C (oX8_shortestOrphan.at 36 rfl) rfl ?_
      exact v_iret C (oX8_shortestOrphan.at 37 rfl) rfl rfl ⟨Nat.le_refl _, Nat.le_refl _⟩ ⟨rfl, hP1.set_rg (S' := withR S x (oLn S e j0) (oIx S e j0)) (hP.so.withR hL hix) ⟨rfl, rfl, rfl⟩ (fun j hj => hp.2 j (by omega)) hp.1⟩
    · exact absurd hc (by omega)
  · cases hc
