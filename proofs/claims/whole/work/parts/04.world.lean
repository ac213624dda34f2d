/-! ===== the pure world: cells by numbers, addresses by a map ===== -/
abbrev PE : Type := (Nat × vp_A) ⊕ (Nat × List Value)
abbrev Hp : Type := Nat → PE
abbrev Wt : Type := (Nat → Nat) × Nat
abbrev GG : Type := va_G × (Nat → ClassId)
abbrev Mi : Type := MethodName × ByteArray × Nat × Option FieldType × Nat
def hu (h : Hp) (q : Nat) (c : PE) : Hp := fun j => if j = q then c else h j
theorem hu_s (h : Hp) (q : Nat) (c : PE) : hu h q c q = c := if_pos rfl
theorem hu_n (h : Hp) {q j : Nat} (c : PE) (hj : j ≠ q) : hu h q c j = h j := if_neg hj
def junk : PE := .inr (1000, [])
abbrev io (n : Nat) (f : Nat → Int32) : PE := .inl (0, n, .inl f)
abbrev zo (n : Nat) (f : Nat → Int32) : PE := .inl (1, n, .inl f)
abbrev jo (n : Nat) (f : Nat → Int64) : PE := .inl (2, n, .inr (.inl f))
abbrev ao (n : Nat) (f : Nat → Option Nat) : PE := .inl (3, n, .inr (.inr (.inr (.inr f))))
abbrev ob (ci : Nat) (fs : List Value) : PE := .inr (ci, fs)
def cv (ad : Nat → Nat) : Value → Value
  | .ref a => .ref (ad a)
  | v => v
theorem cv_cat (ad : Nat → Nat) (v : Value) : (cv ad v).category = v.category := by cases v <;> rfl
def cx (ad : Nat → Nat) : vp_A → vp_A
  | (n, .inr (.inr (.inr (.inr f)))) => (n, .inr (.inr (.inr (.inr (fun j => (f j).map ad)))))
  | a => a
def cz (cA : Nat → ClassId) (ad : Nat → Nat) : PE → va_E
  | .inl (t, a) => .inl (cA t, cx ad a)
  | .inr (ci, fs) => .inr (ci, fs.map (cv ad))
abbrev cls10 : List vw_C := [(RX0, TX0, 10), (RX1, TX1, 4), (RX2, TX2, 4), (RX3, TX3, 1), (RX4, TX4, 5), (RX5, TX5, 2), (RX6, TX6, 9), (RX7, TX7, 9), (RX8, TX8, 13), (RX9, TX9, 42)]
abbrev AB (B : Nat) : Nat → Prop := fun q => B ≤ q
abbrev tysD (G : GG) : List (ClassId × FieldType) := [(G.2 0, .int), (G.2 1, .boolean), (G.2 2, .long), (G.2 3, .array .int)]
def wl (G : GG) (w : Wt) (h : Hp) : va_W := (List.range w.2).map (fun i => (w.1 i, cz G.2 w.1 (h i)))
def okv (N : Nat) : Value → Prop
  | .ref a => a < N
  | _ => True
def clo (N : Nat) : PE → Prop
  | .inl (_, _, .inr (.inr (.inr (.inr f)))) => ∀ j a, f j = some a → a < N
  | .inl _ => True
  | .inr (_, fs) => ∀ v ∈ fs, okv N v
def Wd (G : GG) (B : Nat) (w : Wt) (h : Hp) (H : Heap) : Prop :=
  va_P G.1 cls10 (wl G w h) H ∧ va_D (AB B) (wl G w h) ∧ (∀ q, w.2 ≤ q → h q = junk) ∧ ∀ q, q < w.2 → clo w.2 (h q)
theorem wl_get (G : GG) (w : Wt) (h : Hp) {q : Nat} (hq : q < w.2) : (wl G w h)[q]? = some (w.1 q, cz G.2 w.1 (h q)) := by
  simp [wl, hq]
theorem wl_set (G : GG) (w : Wt) (h : Hp) {q : Nat} (c : PE) (hq : q < w.2) : (wl G w h).set q (w.1 q, cz G.2 w.1 c) = wl G w (hu h q c) := by
  apply List.ext_getElem?
  intro i
  by_cases hi : i = q
  · subst hi
    rw [List.getElem?_set_self (by simp [wl, hq]), wl_get G w _ hq, hu_s]
  · rw [List.getElem?_set_ne (Ne.symm hi)]
    by_cases h2 : i < w.2
    · rw [wl_get G w _ h2, wl_get G w _ h2, hu_n _ _ hi]
    · rw [List.getElem?_eq_none (by simp [wl]; omega), List.getElem?_eq_none (by simp [wl]; omega)]
theorem Wd.lt {G : GG} {B : Nat} {w : Wt} {h : Hp} {H : Heap} (hW : Wd G B w h H) {q : Nat} (hq : h q ≠ junk) : q < w.2 := by
  rcases Nat.lt_or_ge q w.2 with h1 | h1
  · exact h1
  · exact absurd (hW.2.2.1 q h1) hq
theorem Wd.set {G : GG} {B : Nat} {w : Wt} {h : Hp} {H H1 : Heap} (hW : Wd G B w h H) {q : Nat} (hq : q < w.2) {c : PE} {e : va_E} (hc : cz G.2 w.1 c = e) (ho : clo w.2 c) (hP : va_P G.1 cls10 ((wl G w h).set q (w.1 q, e)) H1) (hD : va_D (AB B) ((wl G w h).set q (w.1 q, e))) : Wd G B w (hu h q c) H1 := by
  subst hc
  rw [wl_set G w h c hq] at hP hD
  refine ⟨hP, hD, fun j hj => ?_, fun j hj => ?_⟩
  · rw [hu_n _ _ (by omega)]
    exact hW.2.2.1 j hj
  · by_cases e : j = q
    · subst e; rw [hu_s]; exact ho
    · rw [hu_n _ _ e]; exact hW.2.2.2 j hj
theorem wl_ext (G : GG) {w w' : Wt} (h : Hp) (hN : w.2 = w'.2) (ha : ∀ i, i < w.2 → w'.1 i = w.1 i) (hcl : ∀ q, q < w.2 → clo w.2 (h q)) : wl G w' h = wl G w h := by
  unfold wl
  rw [← hN]
  refine List.map_congr_left fun i hi => ?_
  have hi' : i < w.2 := List.mem_range.mp hi
  rw [ha i hi']
  congr 1
  have hc := hcl i hi'
  revert hc
  generalize h i = c
  intro hc
  match c, hc with
  | .inl (t, n, .inl f), _ => rfl
  | .inl (t, n, .inr (.inl f)), _ => rfl
  | .inl (t, n, .inr (.inr (.inl f))), _ => rfl
  | .inl (t, n, .inr (.inr (.inr (.inl f)))), _ => rfl
  | .inl (t, n, .inr (.inr (.inr (.inr f)))), hc =>
    have hf : (fun j => (f j).map w'.1) = (fun j => (f j).map w.1) := by
      funext j
      cases hj : f j with
      | none => rfl
      | some a => simp only [Option.map_some]; rw [ha a (hc j a hj)]
    show (Sum.inl (G.2 t, (n, .inr (.inr (.inr (.inr (fun j => (f j).map w'.1)))))) : va_E) = .inl (G.2 t, (n, .inr (.inr (.inr (.inr (fun j => (f j).map w.1))))))
    rw [hf]
  | .inr (ci, fs), hc =>
    show (Sum.inr (ci, fs.map (cv w'.1)) : va_E) = .inr (ci, fs.map (cv w.1))
    congr 2
    refine List.map_congr_left fun v hv => ?_
    have := hc v hv
    cases v <;> first | rfl | (show Value.ref _ = Value.ref _; rw [ha _ this])
/-! the locals -/
def Lc (ad : Nat → Nat) (L : List (Option Value)) (ls : Array Slot) : Prop := ls.size = L.length ∧ lv_wf ls ∧ ∀ (i : Nat) (v : Value), L[i]? = some (some v) → ls[i]? = some (.val (cv ad v))
def rdL : List (Option Value) → Nat → Option Value
  | [], _ => none
  | a :: _, 0 => a
  | _ :: l, i + 1 => rdL l i
def killL : Option Value → Option Value
  | some (.long _) => none
  | some (.double _) => none
  | a => a
def sto1 : List (Option Value) → Nat → Value → List (Option Value)
  | [], _, _ => []
  | _ :: l, 0, v => some v :: l
  | a :: l, 1, v => killL a :: sto1 l 0 v
  | a :: l, i + 2, v => a :: sto1 l (i + 1) v
def sto2 : List (Option Value) → Nat → Value → List (Option Value)
  | [], _, _ => []
  | _ :: [], 0, v => [some v]
  | _ :: _ :: l, 0, v => some v :: none :: l
  | a :: l, 1, v => killL a :: sto2 l 0 v
  | a :: l, i + 2, v => a :: sto2 l (i + 1) v
theorem rdL_get : ∀ (L : List (Option Value)) (i : Nat) (v : Value), rdL L i = some v → L[i]? = some (some v)
  | [], _, _, h => by cases h
  | a :: _, 0, v, h => by
    have h : a = some v := h
    rw [h]; rfl
  | _ :: l, i + 1, v, h => by rw [List.getElem?_cons_succ]; exact rdL_get l i v h
theorem Lc.rd {ad : Nat → Nat} {L : List (Option Value)} {ls : Array Slot} (h : Lc ad L ls) {i : Nat} {v : Value} (hi : rdL L i = some v) : ls[i]? = some (.val (cv ad v)) := h.2.2 i v (rdL_get L i v hi)
def lvs (ad : Nat → Nat) (L : List (Option Value)) : List (Nat × Value) := (List.range L.length).filterMap (fun i => match L[i]? with
  | some (some v) => some (i, cv ad v)
  | _ => none)
theorem lvs_mem {ad : Nat → Nat} {L : List (Option Value)} {i : Nat} {v : Value} (h : L[i]? = some (some v)) : (i, cv ad v) ∈ lvs ad L := by
  refine List.mem_filterMap.mpr ⟨i, List.mem_range.mpr (List.getElem?_eq_some_iff.mp h).1, ?_⟩
  rw [h]
theorem Lc.has {ad : Nat → Nat} {L : List (Option Value)} {ls : Array Slot} (h : Lc ad L ls) : lv_has ls L.length (lvs ad L) := by
  refine ⟨h.1, h.2.1, fun q hq => ?_⟩
  obtain ⟨i, -, hi⟩ := List.mem_filterMap.mp hq
  split at hi
  · rename_i v hv
    cases hi
    exact h.2.2 i v hv
  · cases hi
theorem sto1_len : ∀ (L : List (Option Value)) (i : Nat) (v : Value), (sto1 L i v).length = L.length
  | [], _, _ => rfl
  | _ :: _, 0, _ => rfl
  | _ :: l, 1, v => by simp [sto1, sto1_len l 0 v]
  | _ :: l, i + 2, v => by simp [sto1, sto1_len l (i + 1) v]
theorem sto2_len : ∀ (L : List (Option Value)) (i : Nat) (v : Value), (sto2 L i v).length = L.length
  | [], _, _ => rfl
  | _ :: [], 0, _ => rfl
  | _ :: _ :: _, 0, _ => rfl
  | _ :: l, 1, v => by simp [sto2, sto2_len l 0 v]
  | _ :: l, i + 2, v => by simp [sto2, sto2_len l (i + 1) v]
theorem killL_some {a : Option Value} {u : Value} (h : killL a = some u) : a = some u ∧ u.category = 1 := by
  match a, h with
  | some (.int _), h => cases h; exact ⟨rfl, rfl⟩
  | some (.float _), h => cases h; exact ⟨rfl, rfl⟩
  | some .null, h => cases h; exact ⟨rfl, rfl⟩
  | some (.ref _), h => cases h; exact ⟨rfl, rfl⟩
  | some (.retAddr _), h => cases h; exact ⟨rfl, rfl⟩
theorem sto1_get : ∀ (L : List (Option Value)) (i : Nat) (v : Value) (j : Nat) (u : Value), (sto1 L i v)[j]? = some (some u) → (j = i ∧ u = v) ∨ (j ≠ i ∧ L[j]? = some (some u) ∧ ¬ (j + 1 = i ∧ u.category = 2))
  | [], _, _, _, _, h => by simp [sto1] at h
  | a :: l, 0, v, 0, u, h => by
    simp [sto1] at h
    exact Or.inl ⟨rfl, h.symm⟩
  | a :: l, 0, v, j + 1, u, h => by
    simp [sto1] at h
    exact Or.inr ⟨by omega, by simpa using h, by omega⟩
  | a :: l, 1, v, 0, u, h => by
    simp [sto1] at h
    obtain ⟨h1, h2⟩ := killL_some h
    exact Or.inr ⟨by omega, by simp [h1], by omega⟩
  | a :: l, 1, v, j + 1, u, h => by
    have h' : (sto1 l 0 v)[j]? = some (some u) := by simpa [sto1] using h
    rcases sto1_get l 0 v j u h' with ⟨h1, h2⟩ | ⟨h1, h2, h3⟩
    · exact Or.inl ⟨by omega, h2⟩
    · exact Or.inr ⟨by omega, by simpa using h2, by omega⟩
  | a :: l, i + 2, v, 0, u, h => by
    simp [sto1] at h
    exact Or.inr ⟨by omega, by simp [h], by omega⟩
  | a :: l, i + 2, v, j + 1, u, h => by
    have h' : (sto1 l (i + 1) v)[j]? = some (some u) := by simpa [sto1] using h
    rcases sto1_get l (i + 1) v j u h' with ⟨h1, h2⟩ | ⟨h1, h2, h3⟩
    · exact Or.inl ⟨by omega, h2⟩
    · exact Or.inr ⟨by omega, by simpa using h2, by omega⟩
theorem sto2_get : ∀ (L : List (Option Value)) (i : Nat) (v : Value) (j : Nat) (u : Value), (sto2 L i v)[j]? = some (some u) → (j = i ∧ u = v) ∨ (j ≠ i ∧ j ≠ i + 1 ∧ L[j]? = some (some u) ∧ ¬ (j + 1 = i ∧ u.category = 2))
  | [], _, _, _, _, h => by simp [sto2] at h
  | [a], 0, v, 0, u, h => by
    simp [sto2] at h
    exact Or.inl ⟨rfl, h.symm⟩
  | [a], 0, v, j + 1, u, h => by simp [sto2] at h
  | a :: b :: l, 0, v, 0, u, h => by
    simp [sto2] at h
    exact Or.inl ⟨rfl, h.symm⟩
  | a :: b :: l, 0, v, 1, u, h => by simp [sto2] at h
  | a :: b :: l, 0, v, j + 2, u, h => by
    simp [sto2] at h
    exact Or.inr ⟨by omega, by omega, by simpa using h, by omega⟩
  | a :: l, 1, v, 0, u, h => by
    simp [sto2] at h
    obtain ⟨h1, h2⟩ := killL_some h
    exact Or.inr ⟨by omega, by omega, by simp [h1], by omega⟩
  | a :: l, 1, v, j + 1, u, h => by
    have h' : (sto2 l 0 v)[j]? = some (some u) := by simpa [sto2] using h
    rcases sto2_get l 0 v j u h' with ⟨h1, h2⟩ | ⟨h1, h2, h3, h4⟩
    · exact Or.inl ⟨by omega, h2⟩
    · exact Or.inr ⟨by omega, by omega, by simpa using h3, by omega⟩
  | a :: l, i + 2, v, 0, u, h => by
    simp [sto2] at h
    exact Or.inr ⟨by omega, by omega, by simp [h], by omega⟩
  | a :: l, i + 2, v, j + 1, u, h => by
    have h' : (sto2 l (i + 1) v)[j]? = some (some u) := by simpa [sto2] using h
    rcases sto2_get l (i + 1) v j u h' with ⟨h1, h2⟩ | ⟨h1, h2, h3, h4⟩
    · exact Or.inl ⟨by omega, h2⟩
    · exact Or.inr ⟨by omega, by omega, by simpa using h3, by omega⟩
theorem Lc.sto1 {ad : Nat → Nat} {L : List (Option Value)} {ls' : Array Slot} {i : Nat} {v : Value} (h' : lv_has ls' L.length ((i, cv ad v) :: (lvs ad L).filter (fun q => !(q.1 == i) && !(q.1 + 1 == i && q.2.category == 2)))) : Lc ad (sto1 L i v) ls' := by
  refine ⟨by rw [sto1_len]; exact h'.1, h'.2.1, fun j u hj => ?_⟩
  rcases sto1_get L i v j u hj with ⟨h1, h2⟩ | ⟨h1, h2, h3⟩
  · subst h1; subst h2
    exact h'.2.2 _ List.mem_cons_self
  · refine h'.2.2 (j, cv ad u) (List.mem_cons_of_mem _ (List.mem_filter.mpr ⟨lvs_mem h2, ?_⟩))
    simp [h1, cv_cat]
    omega
theorem Lc.sto2 {ad : Nat → Nat} {L : List (Option Value)} {ls' : Array Slot} {i : Nat} {v : Value} (h' : lv_has ls' L.length ((i, cv ad v) :: (lvs ad L).filter (fun q => !(q.1 == i) && (!(q.1 == i + 1) && !(q.1 + 1 == i && q.2.category == 2))))) : Lc ad (sto2 L i v) ls' := by
  refine ⟨by rw [sto2_len]; exact h'.1, h'.2.1, fun j u hj => ?_⟩
  rcases sto2_get L i v j u hj with ⟨h1, h2⟩ | ⟨h1, h2, h3, h4⟩
  · subst h1; subst h2
    exact h'.2.2 _ List.mem_cons_self
  · refine h'.2.2 (j, cv ad u) (List.mem_cons_of_mem _ (List.mem_filter.mpr ⟨lvs_mem h3, ?_⟩))
    simp [h1, h2, cv_cat]
    omega
