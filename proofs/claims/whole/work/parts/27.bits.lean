/-! ===== bits ===== -/
theorem vk_div {v k c : Nat} (h : c < k) : (v * k + c) / k = v := by rw [Nat.mul_comm, Nat.mul_add_div (by omega), Nat.div_eq_of_lt h, Nat.add_zero]
theorem vk_mod {v k c : Nat} (h : c < k) : (v * k + c) % k = c := by rw [Nat.mul_comm, Nat.mul_add_mod, Nat.mod_eq_of_lt h]
theorem bv_nI (n : Nat) : (nI n).toBitVec = BitVec.ofNat 32 n := rfl
theorem nI_or (a b : Nat) : nI a ||| nI b = nI (a ||| b) := by
  apply Int32.toBitVec_inj.mp
  rw [Int32.toBitVec_or, bv_nI, bv_nI, bv_nI, BitVec.ofNat_or]
theorem nI_and (a b : Nat) : nI a &&& nI b = nI (a &&& b) := by
  apply Int32.toBitVec_inj.mp
  rw [Int32.toBitVec_and, bv_nI, bv_nI, bv_nI, BitVec.ofNat_and]
theorem sh31 : ∀ n, n < 32 → ((nI n &&& 31).toBitVec.smod 32).toNat = n := by decide +kernel
theorem sh31u : ∀ n, n < 32 → (((nI n).toUInt32 &&& Int32.toUInt32 31).toBitVec % 32).toNat = n := by decide +kernel
section VBN
variable {X : CT} {μ : Mi} {tab : List ExceptionTableEntry} {d : Nat} {zR : Nat × Nat} {o : Oc} {P : Wt → Hp → Prop} {z : Nat × Nat} {w : Wt} {h : Hp} {pc : Nat} {L : List (Option Value)} {st : List Value}
theorem v_iorN (C : Cx X μ tab d zR o P) {a b : Nat} (hd : decode μ.2.1 pc = .ok (.ior, 1)) (k : V X z w h (pc + 1) L (.int (nI (a ||| b)) :: st)) : V X z w h pc L (.int (nI b) :: .int (nI a) :: st) := v_ior C hd (by rw [nI_or]; exact k)
theorem v_iandN (C : Cx X μ tab d zR o P) {a b : Nat} (hd : decode μ.2.1 pc = .ok (.iand, 1)) (k : V X z w h (pc + 1) L (.int (nI (a &&& b)) :: st)) : V X z w h pc L (.int (nI b) :: .int (nI a) :: st) := v_iand C hd (by rw [nI_and]; exact k)
theorem v_ishlN (C : Cx X μ tab d zR o P) {a b : Nat} (hd : decode μ.2.1 pc = .ok (.ishl, 1)) (hb : b < 32) (hab : a * 2 ^ b < 2 ^ 32) (k : V X z w h (pc + 1) L (.int (nI (a * 2 ^ b)) :: st)) : V X z w h pc L (.int (nI b) :: .int (nI a) :: st) := v_ishl C hd (by rw [pk_shlN _ b (sh31 b hb) hab]; exact k)
theorem v_ishrN (C : Cx X μ tab d zR o P) {a b : Nat} (hd : decode μ.2.1 pc = .ok (.ishr, 1)) (hb : b < 32) (ha : a < 2 ^ 31) (k : V X z w h (pc + 1) L (.int (nI (a / 2 ^ b)) :: st)) : V X z w h pc L (.int (nI b) :: .int (nI a) :: st) := v_ishr C hd (by rw [pk_shrN ha _ b (sh31 b hb)]; exact k)
theorem v_iushrN (C : Cx X μ tab d zR o P) {a b : Nat} (hd : decode μ.2.1 pc = .ok (.iushr, 1)) (hb : b < 32) (ha : a < 2 ^ 31) (k : V X z w h (pc + 1) L (.int (nI (a / 2 ^ b)) :: st)) : V X z w h pc L (.int (nI b) :: .int (nI a) :: st) := v_iushr C hd (by rw [pk_ushrN (by omega) _ b (sh31u b hb)]; exact k)
end VBN
def orN (f : Nat → Nat) : Nat → Nat
  | 0 => 0
  | n + 1 => orN f n ||| f n
theorem orN_lt {f : Nat → Nat} {b : Nat} : ∀ n, (∀ i, i < n → f i < 2 ^ b) → orN f n < 2 ^ b
  | 0, _ => Nat.pow_pos (by decide)
  | n + 1, h => Nat.or_lt_two_pow (orN_lt n (fun i hi => h i (by omega))) (h n (by omega))
theorem bit1 (a b : Nat) : (a / 2 ^ b &&& 1 = 0) ↔ a.testBit b = false := by
  rw [Nat.and_one_is_mod, Nat.testBit_eq_decide_div_mod_eq]
  simp
/-- the successors of the node v alone by the state c -/
def sgl (k n : Nat) (T : Nat → Nat) (v c : Nat) : Nat := orN (fun s => if T (v * k + s) = c then 2 ^ ((v * k + s) % n) else 0) k
def suc (k n : Nat) (T : Nat → Nat) (S c : Nat) : Nat := orN (fun v => if S.testBit v then sgl k n T v c else 0) n
theorem pow_le9 {i : Nat} (h : i ≤ 9) : 2 ^ i ≤ 512 := Nat.pow_le_pow_right (by decide) h
theorem sgl_lt {k n : Nat} {T : Nat → Nat} {v c : Nat} (hn : 0 < n) : sgl k n T v c < 2 ^ n := orN_lt k (fun s _ => by
  split
  · exact Nat.pow_lt_pow_right (by decide) (Nat.mod_lt _ hn)
  · exact Nat.pow_pos (by decide))
theorem suc_lt {k n : Nat} {T : Nat → Nat} {S c : Nat} (hn : 0 < n) : suc k n T S c < 2 ^ n := orN_lt n (fun s _ => by
  split
  · exact sgl_lt hn
  · exact Nat.pow_pos (by decide))
/-- a subset automaton in the heap: eight rows behind the object -/
abbrev SO (p fnd : Nat) : PE := ob 7 [.int (nI fnd), .ref (p + 1), .ref (p + 2), .ref (p + 3), .ref (p + 4), .ref (p + 5), .ref (p + 6), .ref (p + 7), .ref (p + 8)]
def sa (i : Nat) : Nat := if i = 5 then 1536 else if i = 6 then 27 else 512
def SaOK (h : Hp) (p fnd : Nat) (A : Nat → Nat → Int32) : Prop := h p = SO p fnd ∧ ∀ i, 1 ≤ i → i ≤ 8 → h (p + i) = io (sa i) (A i)
theorem SaOK.eq {h h' : Hp} {p fnd : Nat} {A : Nat → Nat → Int32} (hA : SaOK h p fnd A) (he : ∀ j, p ≤ j → j ≤ p + 8 → h' j = h j) : SaOK h' p fnd A := ⟨(he _ (by omega) (by omega)).trans hA.1, fun i h1 h2 => (he _ (by omega) (by omega)).trans (hA.2 i h1 h2)⟩
theorem SaOK.up {h : Hp} {p fnd : Nat} {A : Nat → Nat → Int32} (hA : SaOK h p fnd A) (i : Nat) (h1 : 1 ≤ i) (g : Nat → Int32) : SaOK (hu h (p + i) (io (sa i) g)) p fnd (upW A i g) := by
  refine ⟨(hu_n _ _ (by omega)).trans hA.1, fun j a b => ?_⟩
  unfold upW
  by_cases e : j = i
  · subst e; rw [if_pos rfl, hu_s]
  · rw [if_neg e, hu_n _ _ (by omega)]; exact hA.2 j a b
theorem SaOK.fnd {h : Hp} {p fnd fnd' : Nat} {A : Nat → Nat → Int32} (hA : SaOK h p fnd A) : SaOK (hu h p (SO p fnd')) p fnd' A := ⟨hu_s _ _ _, fun j a b => (hu_n _ _ (by omega)).trans (hA.2 j a b)⟩
theorem SaOK.a1 {h : Hp} {p fnd : Nat} {A : Nat → Nat → Int32} (hA : SaOK h p fnd A) : h (p + 1) = io 512 (A 1) := hA.2 1 (by decide) (by decide)
theorem SaOK.a2 {h : Hp} {p fnd : Nat} {A : Nat → Nat → Int32} (hA : SaOK h p fnd A) : h (p + 2) = io 512 (A 2) := hA.2 2 (by decide) (by decide)
theorem SaOK.a3 {h : Hp} {p fnd : Nat} {A : Nat → Nat → Int32} (hA : SaOK h p fnd A) : h (p + 3) = io 512 (A 3) := hA.2 3 (by decide) (by decide)
theorem SaOK.a4 {h : Hp} {p fnd : Nat} {A : Nat → Nat → Int32} (hA : SaOK h p fnd A) : h (p + 4) = io 512 (A 4) := hA.2 4 (by decide) (by decide)
theorem SaOK.a5 {h : Hp} {p fnd : Nat} {A : Nat → Nat → Int32} (hA : SaOK h p fnd A) : h (p + 5) = io 1536 (A 5) := hA.2 5 (by decide) (by decide)
theorem SaOK.a6 {h : Hp} {p fnd : Nat} {A : Nat → Nat → Int32} (hA : SaOK h p fnd A) : h (p + 6) = io 27 (A 6) := hA.2 6 (by decide) (by decide)
theorem SaOK.a7 {h : Hp} {p fnd : Nat} {A : Nat → Nat → Int32} (hA : SaOK h p fnd A) : h (p + 7) = io 512 (A 7) := hA.2 7 (by decide) (by decide)
theorem SaOK.a8 {h : Hp} {p fnd : Nat} {A : Nat → Nat → Int32} (hA : SaOK h p fnd A) : h (p + 8) = io 512 (A 8) := hA.2 8 (by decide) (by decide)
theorem k_readSingle {w : Wt} {h : Hp} {p r k wd fnd : Nat} {T : Nat → Nat} {A : Nat → Nat → Int32} (hR : RuleOK h r k wd T) (hs : SZ k wd) (hA : SaOK h p fnd A) (hsep : r + 5 < p) : ConN mX7_readSingle 1 (0, 0) w [.ref p, .ref r] h (.inl none) (fun h' => ∃ g, h' = hu h (p + 6) (io 27 g) ∧ ∀ v c, v < k ^ (wd - 1) → c < k → g (v * k + c) = nI (sgl k (k ^ (wd - 1)) T v c)) := by
  have hn9 := hs.n
  have hn0 := hs.n0
  have hk := hs.k
  have hnk := hs.nk
  have hm := hs.m
  obtain ⟨f, gg, e, v, t, hr, ht, hT, hg, hG, he, hE, -⟩ := id hR
  generalize hnn : k ^ (wd - 1) = n at *
  refine conI (by decide +kernel) ⟨fun _ => rfl, rfl, by simp⟩ (fun X C => ?_)
  change V X (0, 0) w h 0 [some (.ref p), some (.ref r), none, none, none] []
  refine v_aload_n C (oX7_readSingle.at 0 rfl) rfl ?_
  refine v_getf C (oX7_readSingle.at 1 rfl) fX7_31 hA.1 rfl ?_
  refine v_iconst C (oX7_readSingle.at 2 rfl) (v := nI 0) rfl ?_
  refine v_callS C (oX7_readSingle.at 3 rfl) cX7_44 (k_fill hA.a6 (by decide)) rfl rfl rfl ⟨rfl, rfl⟩ rfl rfl (fun _ => rfl) (fun h' hp => ?_)
  rw [show h' = _ from hp]
  dsimp only [Option.toList, List.cons_append, List.nil_append]
  refine v_iconst C (oX7_readSingle.at 4 rfl) (v := nI 0) rfl ?_
  refine v_istore_n C (oX7_readSingle.at 5 rfl) rfl ?_
  dsimp only [sto1, sto2, killL]
  suffices H : ∀ d v g l3 l4, v + d = n → (∀ u c, u < n → c < k → g (u * k + c) = nI (if u < v then sgl k n T u c else 0)) → V X (0, 0) w (hu h (p + 6) (io 27 g)) 10 [some (.ref p), some (.ref r), some (.int (nI v)), l3, l4] [] by
    refine H n 0 _ none none (by omega) (fun u c hu hc => ?_)
    have h1 : (u + 1) * k ≤ n * k := Nat.mul_le_mul_right k hu
    rw [Nat.add_mul, Nat.one_mul] at h1
    rw [if_neg (by omega), mix_lt (by omega)]
  intro d
  induction d with
  | zero =>
    intro v g l3 l4 hv hgu
    refine v_iload_n C (oX7_readSingle.at 6 rfl) rfl ?_
    refine v_aload_n C (oX7_readSingle.at 7 rfl) rfl ?_
    refine v_getf C (oX7_readSingle.at 8 rfl) fX7_50 ((hu_n _ _ (by omega)).trans hr) rfl ?_
    refine v_icmp_geN C (oX7_readSingle.at 9 rfl) (tgt := 81) (by decide) (by omega) (by omega) (fun hc => ?_) (fun hc => ?_)
    · exact v_vret C (oX7_readSingle.at 48 rfl) rfl rfl ⟨Nat.le_refl _, Nat.le_refl _⟩ ⟨rfl, g, rfl, fun u c hu hc2 => by rw [hgu u c hu hc2, if_pos (by omega)]⟩
    · exact absurd hc (by omega)
  | succ d ih =>
    intro v g l3 l4 hv hgu
    have hvk : (v + 1) * k ≤ n * k := Nat.mul_le_mul_right k (by omega)
    rw [Nat.add_mul, Nat.one_mul] at hvk
    refine v_iload_n C (oX7_readSingle.at 6 rfl) rfl ?_
    refine v_aload_n C (oX7_readSingle.at 7 rfl) rfl ?_
    refine v_getf C (oX7_readSingle.at 8 rfl) fX7_50 ((hu_n _ _ (by omega)).trans hr) rfl ?_
    refine v_icmp_geN C (oX7_readSingle.at 9 rfl) (tgt := 81) (by decide) (by omega) (by omega) (fun hc => ?_) (fun hc => ?_)
    · exact absurd hc (by omega)
    · refine v_iconst C (oX7_readSingle.at 10 rfl) (v := nI 0) rfl ?_
      refine v_istore_n C (oX7_readSingle.at 11 rfl) rfl ?_
      dsimp only [sto1, sto2, killL]
      suffices H : ∀ d s g l4, s + d = k → (∀ u c, u < n → c < k → g (u * k + c) = nI (if u < v then sgl k n T u c else if u = v then orN (fun s => if T (v * k + s) = c then 2 ^ ((v * k + s) % n) else 0) s else 0)) → V X (0, 0) w (hu h (p + 6) (io 27 g)) 20 [some (.ref p), some (.ref r), some (.int (nI v)), some (.int (nI s)), l4] [] by
        refine H k 0 g l4 (by omega) (fun u c hu hc => ?_)
        rw [hgu u c hu hc]
        by_cases e1 : u < v
        · rw [if_pos e1, if_pos e1]
        · rw [if_neg e1, if_neg e1]
          split <;> rfl
      intro d2
      induction d2 with
      | zero =>
        intro s g l4 hsd hgu
        refine v_iload_n C (oX7_readSingle.at 12 rfl) rfl ?_
        refine v_aload_n C (oX7_readSingle.at 13 rfl) rfl ?_
        refine v_getf C (oX7_readSingle.at 14 rfl) fX7_57 ((hu_n _ _ (by omega)).trans hr) rfl ?_
        refine v_icmp_geN C (oX7_readSingle.at 15 rfl) (tgt := 75) (by decide) (by omega) (by omega) (fun hc => ?_) (fun hc => ?_)
        · have e1 : s = k := by omega
          subst e1
          refine v_iincN C (oX7_readSingle.at 46 rfl) rfl ?_
          refine v_goto C (oX7_readSingle.at 47 rfl) (tgt := 10) (by decide) ?_
          dsimp only [sto1, sto2, killL]
          refine ih (v + 1) g _ _ (by omega) (fun u c hu hc => ?_)
          rw [hgu u c hu hc]
          by_cases e1 : u < v
          · rw [if_pos e1, if_pos (by omega)]
          · rw [if_neg e1]
            by_cases e2 : u = v
            · subst e2; rw [if_pos rfl, if_pos (by omega)]; rfl
            · rw [if_neg e2, if_neg (by omega)]
        · exact absurd hc (by omega)
      | succ d2 ih2 =>
        intro s g l4 hsd hgu
        have hTt := hT (v * k + s) (by omega)
        have hmod : (v * k + s) % n < n := Nat.mod_lt _ hn0
        have hp9 := pow_le9 (i := (v * k + s) % n) (by omega)
        have hval := hgu v (T (v * k + s)) (by omega) hTt.2
        rw [if_neg (by omega), if_pos rfl] at hval
        refine v_iload_n C (oX7_readSingle.at 12 rfl) rfl ?_
        refine v_aload_n C (oX7_readSingle.at 13 rfl) rfl ?_
        refine v_getf C (oX7_readSingle.at 14 rfl) fX7_57 ((hu_n _ _ (by omega)).trans hr) rfl ?_
        refine v_icmp_geN C (oX7_readSingle.at 15 rfl) (tgt := 75) (by decide) (by omega) (by omega) (fun hc => ?_) (fun hc => ?_)
        · exact absurd hc (by omega)
        · refine v_iload_n C (oX7_readSingle.at 16 rfl) rfl ?_
          refine v_aload_n C (oX7_readSingle.at 17 rfl) rfl ?_
          refine v_getf C (oX7_readSingle.at 18 rfl) fX7_57 ((hu_n _ _ (by omega)).trans hr) rfl ?_
          refine v_imulN C (oX7_readSingle.at 19 rfl) ?_
          refine v_iload_n C (oX7_readSingle.at 20 rfl) rfl ?_
          refine v_iaddN C (oX7_readSingle.at 21 rfl) ?_
          refine v_istore C (oX7_readSingle.at 22 rfl) rfl ?_
          refine v_aload_n C (oX7_readSingle.at 23 rfl) rfl ?_
          refine v_getf C (oX7_readSingle.at 24 rfl) fX7_31 ((hu_n _ _ (by omega)).trans hA.1) rfl ?_
          refine v_iload_n C (oX7_readSingle.at 25 rfl) rfl ?_
          refine v_aload_n C (oX7_readSingle.at 26 rfl) rfl ?_
          refine v_getf C (oX7_readSingle.at 27 rfl) fX7_57 ((hu_n _ _ (by omega)).trans hr) rfl ?_
          refine v_imulN C (oX7_readSingle.at 28 rfl) ?_
          refine v_aload_n C (oX7_readSingle.at 29 rfl) rfl ?_
          refine v_getf C (oX7_readSingle.at 30 rfl) fX7_64 ((hu_n _ _ (by omega)).trans hr) rfl ?_
          refine v_iload C (oX7_readSingle.at 31 rfl) rfl ?_
          refine v_iald C (oX7_readSingle.at 32 rfl) ((hu_n _ _ (by omega)).trans ht) (by decide) rfl (by omega) hTt.1 ?_
          refine v_iaddN C (oX7_readSingle.at 33 rfl) ?_
          refine v_dup2 C (oX7_readSingle.at 34 rfl) rfl rfl ?_
          refine v_iald C (oX7_readSingle.at 35 rfl) (hu_s _ _ _) (by decide) rfl (by omega) hval ?_
          refine v_iconst C (oX7_readSingle.at 36 rfl) (v := nI 1) rfl ?_
          refine v_aload_n C (oX7_readSingle.at 37 rfl) rfl ?_
          refine v_getf C (oX7_readSingle.at 38 rfl) fX7_67 ((hu_n _ _ (by omega)).trans hr) rfl ?_
          refine v_iload C (oX7_readSingle.at 39 rfl) rfl ?_
          refine v_iald C (oX7_readSingle.at 40 rfl) ((hu_n _ _ (by omega)).trans hg) (by decide) rfl (by omega) (hG _ (by omega)) ?_
          refine v_ishlN C (oX7_readSingle.at 41 rfl) (by omega) (by omega) ?_
          refine v_iorN C (oX7_readSingle.at 42 rfl) ?_
          refine v_iast C (oX7_readSingle.at 43 rfl) (hu_s _ _ _) (by decide) rfl (by omega) ?_
          dsimp only [sto1, sto2, killL]
          rw [hu_hu, Nat.one_mul]
          refine v_iincN C (oX7_readSingle.at 44 rfl) rfl ?_
          refine v_goto C (oX7_readSingle.at 45 rfl) (tgt := 20) (by decide) ?_
          dsimp only [sto1, sto2, killL]
          refine ih2 (s + 1) _ _ (by omega) (fun u c hu hc => ?_)
          by_cases e1 : u * k + c = v * k + T (v * k + s)
          · have e2 : u = v := by
              rw [← vk_div (v := u) hc, ← vk_div (v := v) hTt.2, e1]
            subst e2
            have e3 : c = T (u * k + s) := by omega
            rw [e1, pk_us, if_neg (by omega), if_pos rfl, orN, ← e3, if_pos rfl]
          · rw [pk_un e1, hgu u c hu hc]
            by_cases e2 : u < v
            · rw [if_pos e2, if_pos e2]
            · rw [if_neg e2, if_neg e2]
              by_cases e3 : u = v
              · subst e3
                rw [if_pos rfl, if_pos rfl, orN, if_neg (by omega), Nat.or_zero]
              · rw [if_neg e3, if_neg e3]
theorem k_sucA {w : Wt} {h : Hp} {p r k wd fnd S c : Nat} {T : Nat → Nat} {A : Nat → Nat → Int32} (hR : RuleOK h r k wd T) (hs : SZ k wd) (hA : SaOK h p fnd A) (hS : S < 512) (hck : c < k) (hsg : ∀ v c, v < k ^ (wd - 1) → c < k → A 6 (v * k + c) = nI (sgl k (k ^ (wd - 1)) T v c)) : ConN mX7_successors 0 (0, 0) w [.ref p, .ref r, .int (nI S), .int (nI c)] h (.inl (some (.int (nI (suc k (k ^ (wd - 1)) T S c))))) (fun h' => h' = h) := by
  have hn9 := hs.n
  have hk := hs.k
  have hnk := hs.nk
  have hm := hs.m
  have hr := hR.ro
  generalize hnn : k ^ (wd - 1) = n at *
  refine conI (by decide +kernel) ⟨fun _ => rfl, rfl, by simp⟩ (fun X C => ?_)
  change V X (0, 0) w h 0 [some (.ref p), some (.ref r), some (.int (nI S)), some (.int (nI c)), none, none] []
  refine v_iconst C (oX7_successors.at 0 rfl) (v := nI 0) rfl ?_
  refine v_istore C (oX7_successors.at 1 rfl) rfl ?_
  refine v_iconst C (oX7_successors.at 2 rfl) (v := nI 0) rfl ?_
  refine v_istore C (oX7_successors.at 3 rfl) rfl ?_
  dsimp only [sto1, sto2, killL]
  suffices H : ∀ d v, v + d = n → V X (0, 0) w h 6 [some (.ref p), some (.ref r), some (.int (nI S)), some (.int (nI c)), some (.int (nI (orN (fun v => if S.testBit v then sgl k n T v c else 0) v))), some (.int (nI v))] [] from H n 0 (by omega)
  intro d
  induction d with
  | zero =>
    intro v hv
    refine v_iload C (oX7_successors.at 4 rfl) rfl ?_
    refine v_aload_n C (oX7_successors.at 5 rfl) rfl ?_
    refine v_getf C (oX7_successors.at 6 rfl) fX7_50 hr rfl ?_
    refine v_icmp_geN C (oX7_successors.at 7 rfl) (tgt := 49) (by decide) (by omega) (by omega) (fun hc => ?_) (fun hc => ?_)
    · have e : v = n := by omega
      subst e
      refine v_iload C (oX7_successors.at 28 rfl) rfl ?_
      exact v_iret C (oX7_successors.at 29 rfl) rfl rfl ⟨Nat.le_refl _, Nat.le_refl _⟩ ⟨rfl, rfl⟩
    · exact absurd hc (by omega)
  | succ d ih =>
    intro v hv
    have hvk : (v + 1) * k ≤ n * k := Nat.mul_le_mul_right k (by omega)
    rw [Nat.add_mul, Nat.one_mul] at hvk
    have hb1 : S / 2 ^ v &&& 1 ≤ 1 := Nat.and_le_right
    refine v_iload C (oX7_successors.at 4 rfl) rfl ?_
    refine v_aload_n C (oX7_successors.at 5 rfl) rfl ?_
    refine v_getf C (oX7_successors.at 6 rfl) fX7_50 hr rfl ?_
    refine v_icmp_geN C (oX7_successors.at 7 rfl) (tgt := 49) (by decide) (by omega) (by omega) (fun hc => ?_) (fun hc => ?_)
    · exact absurd hc (by omega)
    · refine v_iload_n C (oX7_successors.at 8 rfl) rfl ?_
      refine v_iload C (oX7_successors.at 9 rfl) rfl ?_
      refine v_iushrN C (oX7_successors.at 10 rfl) (by omega) (by omega) ?_
      refine v_iconst C (oX7_successors.at 11 rfl) (v := nI 1) rfl ?_
      refine v_iandN C (oX7_successors.at 12 rfl) ?_
      refine v_if_eqN C (oX7_successors.at 13 rfl) (tgt := 43) (by decide) (by omega) (fun hc => ?_) (fun hc => ?_)
      · refine v_iincN C (oX7_successors.at 26 rfl) rfl ?_
        refine v_goto C (oX7_successors.at 27 rfl) (tgt := 6) (by decide) ?_
        dsimp only [sto1, sto2, killL]
        have := ih (v + 1) (by omega)
        rw [orN, (bit1 S v).mp hc] at this
        simpa using this
      · refine v_iload C (oX7_successors.at 14 rfl) rfl ?_
        refine v_aload_n C (oX7_successors.at 15 rfl) rfl ?_
        refine v_getf C (oX7_successors.at 16 rfl) fX7_31 hA.1 rfl ?_
        refine v_iload C (oX7_successors.at 17 rfl) rfl ?_
        refine v_aload_n C (oX7_successors.at 18 rfl) rfl ?_
        refine v_getf C (oX7_successors.at 19 rfl) fX7_57 hr rfl ?_
        refine v_imulN C (oX7_successors.at 20 rfl) ?_
        refine v_iload_n C (oX7_successors.at 21 rfl) rfl ?_
        refine v_iaddN C (oX7_successors.at 22 rfl) ?_
        refine v_iald C (oX7_successors.at 23 rfl) hA.a6 (by decide) rfl (by omega) (hsg _ _ (by omega) hck) ?_
        refine v_iorN C (oX7_successors.at 24 rfl) ?_
        refine v_istore C (oX7_successors.at 25 rfl) rfl ?_
        refine v_iincN C (oX7_successors.at 26 rfl) rfl ?_
        refine v_goto C (oX7_successors.at 27 rfl) (tgt := 6) (by decide) ?_
        dsimp only [sto1, sto2, killL]
        have := ih (v + 1) (by omega)
        have hb : S.testBit v = true := by
          cases hq : S.testBit v with
          | true => rfl
          | false => exact absurd ((bit1 S v).mpr hq) hc
        rw [orN, hb] at this
        exact this
