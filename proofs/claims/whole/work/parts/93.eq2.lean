/-! ===== program and reference count the same: sets, orphans ===== -/
theorem bfs_has {k n : Nat} {T : Nat → Nat} {t t' : Nat} (ht : t' < t) (hN : t' / k < (bfs k n T t').1) : ∃ j, j < (bfs k n T t).1 ∧ (bfs k n T t).2.1 j = suc k n T ((bfs k n T t).2.1 (t' / k)) (t' % k) := by
  have h1 : ∃ j, j < (bfs k n T (t' + 1)).1 ∧ t' / k < (bfs k n T (t' + 1)).1 ∧ (bfs k n T (t' + 1)).2.1 j = suc k n T ((bfs k n T (t' + 1)).2.1 (t' / k)) (t' % k) := by
    rw [bfs]
    split
    · next hb =>
      obtain ⟨j, hj, e⟩ := hasB_t.mp hb
      exact ⟨j, hj, hN, e⟩
    · refine ⟨(bfs k n T t').1, Nat.lt_succ_self _, Nat.lt_succ_of_lt hN, ?_⟩
      show updN _ _ _ _ = suc k n T (updN _ _ _ _) _
      unfold updN
      rw [if_pos rfl, if_neg (by omega)]
  obtain ⟨j, hj, hv, e⟩ := h1
  obtain ⟨m1, m2⟩ := bfs_mono (k := k) (n := n) (T := T) (t' + 1) (t - (t' + 1))
  rw [show t' + 1 + (t - (t' + 1)) = t by omega] at m1 m2
  refine ⟨j, by omega, ?_⟩
  rw [(m2 j hj).1, (m2 _ hv).1]
  exact e
theorem nx_ex {S : Sc} (hs : SZ S.1 S.2.1) {e : Nat} (he : Bend S.1 (S.1 ^ (S.2.1 - 1)) S.2.2.1 e) : ∃ nx, NxP S e nx := by
  have hk := hs.k
  have h : ∀ t, ∃ j, t < e * S.1 → j < e ∧ Qs S e j = suc S.1 (S.1 ^ (S.2.1 - 1)) S.2.2.1 (Qs S e (t / S.1)) (t % S.1) := by
    intro t
    by_cases ht : t < e * S.1
    · have hi : t / S.1 < e := (Nat.div_lt_iff_lt_mul (by omega)).mpr ht
      have h1 := he.2 _ hi
      have h2 := (bfs_mono (k := S.1) (n := S.1 ^ (S.2.1 - 1)) (T := S.2.2.1) (t / S.1 * S.1) (t % S.1)).1
      rw [show t / S.1 * S.1 + t % S.1 = t from by rw [Nat.mul_comm]; exact Nat.div_add_mod t S.1] at h2
      obtain ⟨j, hj, ej⟩ := bfs_has (k := S.1) (n := S.1 ^ (S.2.1 - 1)) (T := S.2.2.1) ht (by omega)
      rw [he.1] at hj
      exact ⟨j, fun _ => ⟨hj, ej⟩⟩
    · exact ⟨0, fun q => absurd q ht⟩
  exact Classical.skolem.mp h
theorem sumN_pull (g : Nat → Nat) {c M : Nat} (hc : c < M) : sumN g M = sumN (fun v => if v = c then 0 else g v) M + g c := by
  have : sumN g M = sumN (fun v => (if v = c then 0 else g v) + (if c = v then g c else 0)) M := sumN_congr M (fun v _ => by
    by_cases e : v = c
    · rw [if_pos e, if_pos e.symm, e, Nat.zero_add]
    · rw [if_neg e, if_neg (Ne.symm e), Nat.add_zero])
  rw [this, sumN_add, sumN_delta _ _ _ hc]
theorem sumN_re {Q : Nat → Nat} {M : Nat} : ∀ (e : Nat) (g : Nat → Nat), (∀ j, j < e → Q j < M) → (∀ a b, a < b → b < e → Q a ≠ Q b) → (∀ v, v < M → (∀ j, j < e → Q j ≠ v) → g v = 0) → sumN g M = sumN (fun j => g (Q j)) e
  | 0, g, _, _, h => sumN_zero M (fun v hv => h v hv (fun j hj => absurd hj (by omega)))
  | e + 1, g, h1, h2, h3 => by
    rw [sumN_pull g (h1 e (by omega)), sumN_re e (fun v => if v = Q e then 0 else g v) (fun j hj => h1 j (by omega)) (fun a b ha hb => h2 a b ha (by omega)) (fun v hv hq => ?_), sumN]
    · congr 1
      exact sumN_congr e (fun j hj => if_neg (h2 j e hj (by omega)))
    · show (if v = Q e then 0 else g v) = 0
      by_cases z : v = Q e
      · rw [if_pos z]
      · rw [if_neg z]
        refine h3 v hv (fun j hj => ?_)
        by_cases y : j = e
        · rw [y]; exact Ne.symm z
        · exact hq j (by omega)
theorem mn_eq {S : Sc} (hs : SZ S.1 S.2.1) {e : Nat} {nx : Nat → Nat} (he : Bend S.1 (S.1 ^ (S.2.1 - 1)) S.2.2.1 e) (hn : NxP S e nx) : ∀ i, (∀ j, j < e → mnC S.1 (S.1 ^ (S.2.1 - 1)) S.2.2.1 i (Qs S e j) = cI S.1 e nx i j) ∧ ∀ q, q < 512 → (∀ j, j < e → Qs S e j ≠ q) → mnC S.1 (S.1 ^ (S.2.1 - 1)) S.2.2.1 i q = 0 := by
  have hk := hs.k
  have hn0 := hs.n0
  have h512 := pow_le9 hs.n
  have hin := bfs_in (k := S.1) (T := S.2.2.1) hn0 (e * S.1)
  rw [he.1] at hin
  obtain ⟨e1, hQl, hQi⟩ := hin
  have hQl : ∀ j, j < e → Qs S e j < 2 ^ S.1 ^ (S.2.1 - 1) := hQl
  have hQi : ∀ a b, a < b → b < e → Qs S e a ≠ Qs S e b := hQi
  have hQ0 : Qs S e 0 = 2 ^ S.1 ^ (S.2.1 - 1) - 1 := by
    have := (bfs_mono (k := S.1) (n := S.1 ^ (S.2.1 - 1)) (T := S.2.2.1) 0 (e * S.1)).2 0 (by show 0 < 1; omega)
    rw [Nat.zero_add] at this
    exact this.1
  intro i
  induction i with
  | zero =>
    constructor
    · intro j hj
      show baT _ _ = baT 0 j
      unfold baT
      by_cases z : j = 0
      · rw [z, if_pos hQ0, if_pos rfl]
      · rw [if_neg (fun y => hQi 0 j (by omega) hj (hQ0.trans y.symm)), if_neg z]
    · intro q hq hno
      show baT _ _ = 0
      unfold baT
      exact if_neg (fun y => hno 0 (by omega) (hQ0.trans y.symm))
  | succ i ih =>
    obtain ⟨ih1, ih2⟩ := ih
    have step : ∀ q, mnC S.1 (S.1 ^ (S.2.1 - 1)) S.2.2.1 (i + 1) q = sumN (fun j => sumN (fun c => if suc S.1 (S.1 ^ (S.2.1 - 1)) S.2.2.1 (Qs S e j) c = q then mnC S.1 (S.1 ^ (S.2.1 - 1)) S.2.2.1 i (Qs S e j) else 0) S.1) e := by
      intro q
      have e1 : mnC S.1 (S.1 ^ (S.2.1 - 1)) S.2.2.1 (i + 1) q = sumN (fun v => sumN (fun c => if suc S.1 (S.1 ^ (S.2.1 - 1)) S.2.2.1 v c = q then mnC S.1 (S.1 ^ (S.2.1 - 1)) S.2.2.1 i v else 0) S.1) 512 := by
        show acN _ _ _ _ _ = _
        rw [acN_sumN, sumN_rows]
        exact sumN_congr 512 (fun v _ => sumN_congr S.1 (fun c hc => by rw [vk_div hc, vk_mod hc]))
      rw [e1]
      refine sumN_re e _ (fun j hj => Nat.lt_of_lt_of_le (hQl j hj) h512) hQi (fun v hv hno => ?_)
      refine sumN_zero S.1 (fun c _ => ?_)
      rw [ih2 v hv hno]
      exact ite_self 0
    have hnx : ∀ j c, j < e → c < S.1 → nx (j * S.1 + c) < e ∧ Qs S e (nx (j * S.1 + c)) = suc S.1 (S.1 ^ (S.2.1 - 1)) S.2.2.1 (Qs S e j) c := by
      intro j c hj hc
      have h1 : (j + 1) * S.1 ≤ e * S.1 := Nat.mul_le_mul_right _ hj
      rw [Nat.add_mul, Nat.one_mul] at h1
      have := hn (j * S.1 + c) (by omega)
      rw [vk_div hc, vk_mod hc] at this
      exact this
    constructor
    · intro j' hj'
      rw [step]
      show _ = acN _ _ _ _ _
      rw [acN_sumN, sumN_rows]
      refine sumN_congr e (fun j hj => sumN_congr S.1 (fun c hc => ?_))
      rw [vk_div hc, ih1 j hj]
      obtain ⟨n1, n2⟩ := hnx j c hj hc
      rw [← n2]
      by_cases z : nx (j * S.1 + c) = j'
      · rw [if_pos z, if_pos (by rw [z])]
      · rw [if_neg z, if_neg (fun y => z (Qs_inj hs he n1 hj' y))]
    · intro q hq hno
      rw [step]
      refine sumN_zero e (fun j hj => sumN_zero S.1 (fun c hc => ?_))
      obtain ⟨n1, n2⟩ := hnx j c hj hc
      rw [← n2]
      exact if_neg (hno _ n1)
theorem wd_lt {k : Nat} {fr bb : Nat → Nat} {e : Nat} (hk : 0 < k) (h : ∀ j, 0 < j → j < e → fr j < j ∧ bb j < k) : ∀ f j, j < e → wdF k fr bb f j < k ^ dpF fr f j
  | 0, j, _ => by rw [wdF, dpF, Nat.pow_zero]; decide
  | f + 1, j, hj => by
    rw [wdF, dpF]
    by_cases z : j = 0
    · rw [if_pos z, if_pos z, Nat.pow_zero]; decide
    · rw [if_neg z, if_neg z]
      obtain ⟨h1, h2⟩ := h j (by omega) hj
      have ih := wd_lt hk h f (fr j) (by omega)
      have h3 : (wdF k fr bb f (fr j) + 1) * k ≤ k ^ dpF fr f (fr j) * k := Nat.mul_le_mul_right k ih
      rw [Nat.add_mul, Nat.one_mul] at h3
      rw [Nat.pow_succ]
      omega
theorem dp_le {fr : Nat → Nat} : ∀ f j, dpF fr f j ≤ f
  | 0, _ => Nat.le_refl _
  | f + 1, j => by
    rw [dpF]
    split
    · exact Nat.zero_le _
    · exact Nat.succ_le_succ (dp_le f _)
theorem oIx_lt {S : Sc} (hs : SZ S.1 S.2.1) {e j : Nat} (he : Bend S.1 (S.1 ^ (S.2.1 - 1)) S.2.2.1 e) (hj : j < e) : oIx S e j < S.1 ^ oLn S e j := by
  have hk := hs.k
  have hfr := bfs_from (k := S.1) (n := S.1 ^ (S.2.1 - 1)) (T := S.2.2.1) (by omega) e 0 (Nat.zero_le _) he.2 (Or.inl rfl)
  rw [Nat.add_zero, he.1] at hfr
  exact wd_lt (by omega) hfr 512 j hj
theorem oLn_lt {S : Sc} {e j : Nat} : oLn S e j < 2 ^ 31 := Nat.lt_of_le_of_lt (dp_le 512 j) (by decide)
/-! ===== what a preimage with a number is ===== -/
theorem opN_lt {k n : Nat} {T lb : Nat → Nat} {len x : Nat} (hk : 0 < k) (hn : 0 < n) : opN k n T lb len x < n * k ^ len := by
  unfold opN
  have := selS_le (wB k n T lb len baA len) x (n - 1)
  exact wkW_lt hk _ _ _ _ n (by omega)
theorem clN_lt {k n : Nat} {T lb : Nat → Nat} {len x : Nat} (hk : 0 < k) (hn : 0 < n) : clN k n T lb len x < k ^ len := by
  unfold clN
  have h1 := selS_le (clW k n T lb len) x (n - 1)
  have := wkW_lt (n := n) (T := T) (lb := lb) (len := len) (B := baT (selS (clW k n T lb len) x (n - 1))) hk len (selS (clW k n T lb len) x (n - 1)) (selS (clW k n T lb len) x (n - 1)) (x - sumN (clW k n T lb len) (selS (clW k n T lb len) x (n - 1))) n (by omega)
  exact (Nat.div_lt_iff_lt_mul hn).mpr (by rw [Nat.mul_comm]; exact this)
theorem preI_lt {S : Sc} (hs : SZ S.1 S.2.1) {x n : Nat} {c : Bool} : preI S x c n < S.1 ^ pLn S x c := by
  have hk := hs.k
  unfold preI pLn
  cases c
  · rw [if_neg (by decide), if_neg (by decide), Nat.add_comm, Nat.pow_add]
    exact opN_lt (by omega) hs.n0
  · rw [if_pos rfl, if_pos rfl, Nat.add_zero]
    exact clN_lt (by omega) hs.n0
