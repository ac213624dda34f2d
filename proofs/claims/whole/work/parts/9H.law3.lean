/-! ===== the law, case by case ===== -/
def mL_law : Mi := (yL_law, cL_law, 8, some .boolean, 1)
abbrev LL (i : Nat) : List (Option Value) := [some (.ref 1000), some (.ref 0), some (.ref 62), some (.ref 88), some (.int (nI i)), none, none, none]
theorem vL_121 : MVL mL_law.1.cls 121 mX9_setSize 9 := ⟨kX9_setSize, vX9_setSize, tj7 41 (by rfl) rfl⟩
theorem vL_122 : MVL mL_law.1.cls 122 mX9_thrown 9 := ⟨kX9_thrown, vX9_thrown, tj7 37 (by rfl) rfl⟩
theorem vL_128 : MVL mL_law.1.cls 128 mX9_size 9 := ⟨kX9_size, vX9_size, tj7 63 (by rfl) rfl⟩
theorem vL_131 : MVL mL_law.1.cls 131 mX9_setOutput 9 := ⟨kX9_setOutput, vX9_setOutput, tj7 71 (by rfl) rfl⟩
theorem vL_134 : MVL mL_law.1.cls 134 mX9_output 9 := ⟨kX9_output, vX9_output, tj7 75 (by rfl) rfl⟩
theorem vL_140 : MVL mL_law.1.cls 140 mX9_setNumber 9 := ⟨kX9_setNumber, vX9_setNumber, tj7 79 (by rfl) rfl⟩
theorem vL_141 : MVL mL_law.1.cls 141 mX8_number 8 := ⟨kX8_number, vX8_number, tj2 83 (by rfl) rfl⟩
theorem vL_144 : MVL mL_law.1.cls 144 mX9_number 9 := ⟨kX9_number, vX9_number, tj7 87 (by rfl) rfl⟩
theorem vL_147 : MVL mL_law.1.cls 147 mX9_append 9 := ⟨kX9_append, vX9_append, tj7 127 (by rfl) rfl⟩
theorem vL_151 : MVL mL_law.1.cls 151 mX9_compile 9 := ⟨kX9_compile, vX9_compile, tj7 131 (by rfl) rfl⟩
theorem vL_154 : MVL mL_law.1.cls 154 mX9_error 9 := ⟨kX9_error, vX9_error, tj7 182 (by rfl) rfl⟩
theorem vL_155 : MVL mL_law.1.cls 155 mX8_mirror 8 := ⟨kX8_mirror, vX8_mirror, tj2 91 (by rfl) rfl⟩
theorem vL_158 : MVL mL_law.1.cls 158 mX9_mirror 9 := ⟨kX9_mirror, vX9_mirror, tj7 95 (by rfl) rfl⟩
theorem vL_159 : MVL mL_law.1.cls 159 mX8_complement 8 := ⟨kX8_complement, vX8_complement, tj2 115 (by rfl) rfl⟩
theorem vL_162 : MVL mL_law.1.cls 162 mX9_complement 9 := ⟨kX9_complement, vX9_complement, tj7 107 (by rfl) rfl⟩
theorem vL_163 : MVL mL_law.1.cls 163 mX8_leastNumber 8 := ⟨kX8_leastNumber, vX8_leastNumber, tj2 123 (by rfl) rfl⟩
theorem vL_166 : MVL mL_law.1.cls 166 mX9_leastNumber 9 := ⟨kX9_leastNumber, vX9_leastNumber, tj7 115 (by rfl) rfl⟩
theorem vL_169 : MVL mL_law.1.cls 169 mX9_compose 9 := ⟨kX9_compose, vX9_compose, tj7 119 (by rfl) rfl⟩
theorem vL_173 : MVL mL_law.1.cls 173 mX9_setWord 9 := ⟨kX9_setWord, vX9_setWord, tj7 186 (by rfl) rfl⟩
theorem vL_176 : MVL mL_law.1.cls 176 mX9_wordLength 9 := ⟨kX9_wordLength, vX9_wordLength, tj7 197 (by rfl) rfl⟩
theorem vL_179 : MVL mL_law.1.cls 179 mX9_wordIndex 9 := ⟨kX9_wordIndex, vX9_wordIndex, tj7 201 (by rfl) rfl⟩
theorem vL_182 : MVL mL_law.1.cls 182 mX9_cell 9 := ⟨kX9_cell, vX9_cell, tj7 205 (by rfl) rfl⟩
theorem vL_186 : MVL mL_law.1.cls 186 mX9_apply 9 := ⟨kX9_apply, vX9_apply, tj7 213 (by rfl) rfl⟩
theorem vL_189 : MVL mL_law.1.cls 189 mX9_orbit 9 := ⟨kX9_orbit, vX9_orbit, tj7 221 (by rfl) rfl⟩
theorem vL_192 : MVL mL_law.1.cls 192 mX9_preimageCount 9 := ⟨kX9_preimageCount, vX9_preimageCount, tj7 225 (by rfl) rfl⟩
theorem vL_196 : MVL mL_law.1.cls 196 mX9_preimage 9 := ⟨kX9_preimage, vX9_preimage, tj8 5 (by rfl) rfl⟩
theorem vL_199 : MVL mL_law.1.cls 199 mX9_preimagesBetween 9 := ⟨kX9_preimagesBetween, vX9_preimagesBetween, tj8 17 (by rfl) rfl⟩
theorem vL_202 : MVL mL_law.1.cls 202 mX9_wordsWith 9 := ⟨kX9_wordsWith, vX9_wordsWith, tj8 21 (by rfl) rfl⟩
theorem vL_205 : MVL mL_law.1.cls 205 mX9_mostPreimages 9 := ⟨kX9_mostPreimages, vX9_mostPreimages, tj8 29 (by rfl) rfl⟩
theorem vL_208 : MVL mL_law.1.cls 208 mX9_fixedWords 9 := ⟨kX9_fixedWords, vX9_fixedWords, tj8 33 (by rfl) rfl⟩
theorem vL_211 : MVL mL_law.1.cls 211 mX9_edge 9 := ⟨kX9_edge, vX9_edge, tj8 37 (by rfl) rfl⟩
theorem vL_212 : MVL mL_law.1.cls 212 mX8_subsets 8 := ⟨kX8_subsets, vX8_subsets, tj2 130 (by rfl) rfl⟩
theorem vL_215 : MVL mL_law.1.cls 215 mX9_subsets 9 := ⟨kX9_subsets, vX9_subsets, tj8 41 (by rfl) rfl⟩
theorem vL_218 : MVL mL_law.1.cls 218 mX9_orphans 9 := ⟨kX9_orphans, vX9_orphans, tj8 57 (by rfl) rfl⟩
theorem vL_221 : MVL mL_law.1.cls 221 mX9_shortestOrphan 9 := ⟨kX9_shortestOrphan, vX9_shortestOrphan, tj8 61 (by rfl) rfl⟩
theorem vL_224 : MVL mL_law.1.cls 224 mX9_has 9 := ⟨kX9_has, vX9_has, tj8 73 (by rfl) rfl⟩
theorem vL_225 : MVL mL_law.1.cls 225 mX8_cyclicPairs 8 := ⟨kX8_cyclicPairs, vX8_cyclicPairs, tj2 153 (by rfl) rfl⟩
theorem vL_228 : MVL mL_law.1.cls 228 mX9_cyclicPairs 9 := ⟨kX9_cyclicPairs, vX9_cyclicPairs, tj8 65 (by rfl) rfl⟩
theorem vL_231 : MVL mL_law.1.cls 231 mX9_inverse 9 := ⟨kX9_inverse, vX9_inverse, tj8 89 (by rfl) rfl⟩
theorem vL_234 : MVL mL_law.1.cls 234 mX9_inverseOutput 9 := ⟨kX9_inverseOutput, vX9_inverseOutput, tj8 101 (by rfl) rfl⟩
theorem vL_235 : MVL mL_law.1.cls 235 mX8_save 8 := ⟨kX8_save, vX8_save, tj2 177 (by rfl) rfl⟩
theorem vL_238 : MVL mL_law.1.cls 238 mX9_save 9 := ⟨kX9_save, vX9_save, tj8 105 (by rfl) rfl⟩
theorem vL_241 : MVL mL_law.1.cls 241 mX9_restore 9 := ⟨kX9_restore, vX9_restore, tj8 112 (by rfl) rfl⟩
theorem lc_setSize {X : CT} {o : Oc} {P : Wt → Hp → Prop} (C : Cx X mL_law [] 10 zL o P) {z : Nat × Nat} {w : Wt} {h : Hp} {N i : Nat} {xs : Nat → Int32} {S Z : Sc} {sv : Bool} {F : Sf} (hs : SC X w N xs) (hN : N ≤ 2560) (hi : i + 5 ≤ N) (hz : z.1 + 1 ≤ 603072 ∧ z.2 + 6 ≤ 7157866) (hJ : JI2 h S sv Z F) (K : ∀ h' S' sv' Z' F' z', JI2 h' S' sv' Z' F' → z'.1 ≤ z.1 + 1 ∧ z'.2 ≤ z.2 + 6 → V X z' w h' 2096 (LL i) []) : V X z w h 192 (LL i) [] := by
  obtain ⟨th, hR⟩ := hJ.2.1
  obtain ⟨f, hf⟩ := hJ.2.2
  obtain ⟨S', sv', Z', F', o', z', r, y, j8, j9, hr4, hc⟩ := jm_setSize (w := w) (S := S) (sv := sv) (Z := Z) (F := F) (x := xs (i + 1)) (y := xs (i + 2))
  obtain ⟨d8, P8, hd8, c8, q8⟩ := j8 h hJ.1
  have hz' : z'.1 ≤ 1 ∧ z'.2 ≤ 6 := by rcases hc with ⟨-, -, rfl⟩ | ⟨E, -, -, rfl⟩ <;> decide
  have hJO : JO rwL_setSize o' z' r f P8 (RW h S' sv' Z' F' r y.toInt64) := by
    rcases hc with ⟨rfl, rfl, rfl⟩ | ⟨E, rfl, hE, rfl⟩
    · exact .inl ⟨y, rfl, rfl, rfl, fun h1 p1 => ⟨((q8 h1 p1).gf 88 (by decide)).trans hf, rw_ok (q8 h1 p1)⟩⟩
    · exact .inr ⟨E, rfl, rfl, hE, fun h1 p1 => rw_thr (q8 h1 p1) hf (fun e => by subst e; simp [rwL_setSize] at hE)⟩
  have cw := xL_setSize hJO hJ.1.ob hd8 c8
  refine v_aload_n C dL_law_192 rfl ?_
  refine v_aload_n C dL_law_193 rfl ?_
  refine v_iload C dL_law_194 rfl ?_
  refine v_iconst C dL_law_196 (v := nI 1) rfl ?_
  refine v_iaddN C dL_law_197 ?_
  refine v_sld C hs hN (by omega) dL_law_198 ?_
  refine v_aload_n C dL_law_199 rfl ?_
  refine v_iload C dL_law_200 rfl ?_
  refine v_iconst C dL_law_202 (v := nI 2) rfl ?_
  refine v_iaddN C dL_law_203 ?_
  refine v_sld C hs hN (by omega) dL_law_204 ?_
  refine v_aload_n C dL_law_205 rfl ?_
  refine v_callH C dL_law_206 kL_setSize (tj2 193 (by rfl) rfl) cw rfl rfl rfl ⟨by show z.1 + z'.1 ≤ 603072; omega, by show z.2 + z'.2 ≤ 7157866; omega⟩ rfl rfl (fun _ => rfl) (fun h1 R1 => ?_)
  dsimp only [Option.toList, List.cons_append, List.nil_append]
  obtain ⟨hP1, fr1, f1, hf1, hy1⟩ := R1
  have hR1 := hR.low (h' := h1) (fun j a b => fr1 j (by omega) (by omega))
  obtain ⟨d9, hd9, c9⟩ := j9 h1 _ hR1
  obtain ⟨u1, o1, -⟩ := hR1.o
  refine v_istore C dL_law_209 rfl ?_
  dsimp only [sto1, sto2, killL]
  refine v_aload_n C dL_law_211 rfl ?_
  refine v_aload_n C dL_law_212 rfl ?_
  refine v_iload C dL_law_213 rfl ?_
  refine v_iconst C dL_law_215 (v := nI 1) rfl ?_
  refine v_iaddN C dL_law_216 ?_
  refine v_sld C hs hN (by omega) dL_law_217 ?_
  refine v_aload_n C dL_law_218 rfl ?_
  refine v_iload C dL_law_219 rfl ?_
  refine v_iconst C dL_law_221 (v := nI 2) rfl ?_
  refine v_iaddN C dL_law_222 ?_
  refine v_sld C hs hN (by omega) dL_law_223 ?_
  refine v_callV C dL_law_224 vL_121 o1 c9 rfl (blt10 hd9) rfl ⟨Nat.ble_eq_true_of_le (by show z.1 + z'.1 ≤ 603072; omega), Nat.ble_eq_true_of_le (by show z.2 + z'.2 ≤ 7157866; omega)⟩ rfl rfl (fun _ => rfl) (fun h2 hp => ?_)
  dsimp only [Option.toList, List.cons_append, List.nil_append]
  refine v_istore C dL_law_227 rfl ?_
  dsimp only [sto1, sto2, killL]
  refine v_aload_n C dL_law_229 rfl ?_
  obtain ⟨u2, o2, t2, -⟩ := hp.o
  refine v_callV C dL_law_230 vL_122 o2 (k9_thrown o2) rfl rfl rfl ⟨Nat.ble_eq_true_of_le (by show z.1 + z'.1 ≤ 603072; omega), Nat.ble_eq_true_of_le (by show z.2 + z'.2 ≤ 7157866; omega)⟩ rfl rfl (fun _ => rfl) (fun h3 e3 => ?_)
  rw [show h3 = _ from e3]
  dsimp only [Option.toList, List.cons_append, List.nil_append]
  rw [t2]
  have J2 : JI2 h2 S' sv' Z' F' := ⟨hP1.top (fun j hj => hp.fr j (.inl (by omega))), ⟨_, hp.low (fun _ _ _ => rfl)⟩, f1, (hp.fr 88 (.inr (by decide))).trans hf1⟩
  refine v_iload C dL_law_233 rfl ?_
  refine v_icmp_eqN C dL_law_235 (tgt := 240) (by decide) (by omega) (by omega) (fun _ => ?_) (fun hne => absurd rfl hne)
  refine v_iload C dL_law_240 rfl ?_
  refine v_if_neN C dL_law_242 (tgt := 257) (by decide) (by omega) (fun _ => v_goto C dL_law_257 (tgt := 2096) (by decide) (v_forget _ _ _ _ _ _ _ _ (K h2 S' sv' Z' F' _ J2 ⟨by show z.1 + z'.1 ≤ z.1 + 1; omega, by show z.2 + z'.2 ≤ z.2 + 6; omega⟩))) (fun hr0 => ?_)
  refine v_aload_n C dL_law_245 rfl ?_
  refine v_iconst C dL_law_246 (v := nI 0) rfl ?_
  refine v_lald C dL_law_247 ((hp.fr 88 (.inr (by decide))).trans hf1) (by decide) rfl (j := 0) (by decide) (hy1 hr0) ?_
  refine v_iload C dL_law_248 rfl ?_
  refine v_i2l C dL_law_250 ?_
  refine v_lcmp C dL_law_251 ?_
  exact v_if_eq C dL_law_252 (tgt := 257) (by decide) (fun _ => v_goto C dL_law_257 (tgt := 2096) (by decide) (v_forget _ _ _ _ _ _ _ _ (K h2 S' sv' Z' F' _ J2 ⟨by show z.1 + z'.1 ≤ z.1 + 1; omega, by show z.2 + z'.2 ≤ z.2 + 6; omega⟩))) (fun hne => absurd (cmp_self _) hne)
theorem lc_size {X : CT} {o : Oc} {P : Wt → Hp → Prop} (C : Cx X mL_law [] 10 zL o P) {z : Nat × Nat} {w : Wt} {h : Hp} {N i : Nat} {xs : Nat → Int32} {S Z : Sc} {sv : Bool} {F : Sf} (hs : SC X w N xs) (hN : N ≤ 2560) (hi : i + 5 ≤ N) (hz : z.1 + 1 ≤ 603072 ∧ z.2 + 6 ≤ 7157866) (hJ : JI2 h S sv Z F) (K : ∀ h' S' sv' Z' F' z', JI2 h' S' sv' Z' F' → z'.1 ≤ z.1 + 1 ∧ z'.2 ≤ z.2 + 6 → V X z' w h' 2096 (LL i) []) : V X z w h 260 (LL i) [] := by
  obtain ⟨th, hR⟩ := hJ.2.1
  obtain ⟨f, hf⟩ := hJ.2.2
  obtain ⟨S', sv', Z', F', o', z', r, y, j8, j9, hr4, hc⟩ := jm_size (w := w) (S := S) (sv := sv) (Z := Z) (F := F) (x := xs (i + 1))
  obtain ⟨d8, P8, hd8, c8, q8⟩ := j8 h hJ.1
  have hz' : z'.1 ≤ 1 ∧ z'.2 ≤ 6 := by rcases hc with ⟨-, -, rfl⟩ | ⟨E, -, -, rfl⟩ <;> decide
  have hJO : JO rwL_size o' z' r f P8 (RW h S' sv' Z' F' r y.toInt64) := by
    rcases hc with ⟨rfl, rfl, rfl⟩ | ⟨E, rfl, hE, rfl⟩
    · exact .inl ⟨y, rfl, rfl, rfl, fun h1 p1 => ⟨((q8 h1 p1).gf 88 (by decide)).trans hf, rw_ok (q8 h1 p1)⟩⟩
    · exact .inr ⟨E, rfl, rfl, hE, fun h1 p1 => rw_thr (q8 h1 p1) hf (fun e => by subst e; simp [rwL_size] at hE)⟩
  have cw := xL_size hJO hJ.1.ob hd8 c8
  refine v_aload_n C dL_law_260 rfl ?_
  refine v_aload_n C dL_law_261 rfl ?_
  refine v_iload C dL_law_262 rfl ?_
  refine v_iconst C dL_law_264 (v := nI 1) rfl ?_
  refine v_iaddN C dL_law_265 ?_
  refine v_sld C hs hN (by omega) dL_law_266 ?_
  refine v_aload_n C dL_law_267 rfl ?_
  refine v_callH C dL_law_268 kL_size (tj3 41 (by rfl) rfl) cw rfl rfl rfl ⟨by show z.1 + z'.1 ≤ 603072; omega, by show z.2 + z'.2 ≤ 7157866; omega⟩ rfl rfl (fun _ => rfl) (fun h1 R1 => ?_)
  dsimp only [Option.toList, List.cons_append, List.nil_append]
  obtain ⟨hP1, fr1, f1, hf1, hy1⟩ := R1
  have hR1 := hR.low (h' := h1) (fun j a b => fr1 j (by omega) (by omega))
  obtain ⟨d9, hd9, c9⟩ := j9 h1 _ hR1
  obtain ⟨u1, o1, -⟩ := hR1.o
  refine v_istore C dL_law_271 rfl ?_
  dsimp only [sto1, sto2, killL]
  refine v_aload_n C dL_law_273 rfl ?_
  refine v_aload_n C dL_law_274 rfl ?_
  refine v_iload C dL_law_275 rfl ?_
  refine v_iconst C dL_law_277 (v := nI 1) rfl ?_
  refine v_iaddN C dL_law_278 ?_
  refine v_sld C hs hN (by omega) dL_law_279 ?_
  refine v_callV C dL_law_280 vL_128 o1 c9 rfl (blt10 hd9) rfl ⟨Nat.ble_eq_true_of_le (by show z.1 + z'.1 ≤ 603072; omega), Nat.ble_eq_true_of_le (by show z.2 + z'.2 ≤ 7157866; omega)⟩ rfl rfl (fun _ => rfl) (fun h2 hp => ?_)
  dsimp only [Option.toList, List.cons_append, List.nil_append]
  refine v_istore C dL_law_283 rfl ?_
  dsimp only [sto1, sto2, killL]
  refine v_aload_n C dL_law_285 rfl ?_
  obtain ⟨u2, o2, t2, -⟩ := hp.o
  refine v_callV C dL_law_286 vL_122 o2 (k9_thrown o2) rfl rfl rfl ⟨Nat.ble_eq_true_of_le (by show z.1 + z'.1 ≤ 603072; omega), Nat.ble_eq_true_of_le (by show z.2 + z'.2 ≤ 7157866; omega)⟩ rfl rfl (fun _ => rfl) (fun h3 e3 => ?_)
  rw [show h3 = _ from e3]
  dsimp only [Option.toList, List.cons_append, List.nil_append]
  rw [t2]
  have J2 : JI2 h2 S' sv' Z' F' := ⟨hP1.top (fun j hj => hp.fr j (.inl (by omega))), ⟨_, hp.low (fun _ _ _ => rfl)⟩, f1, (hp.fr 88 (.inr (by decide))).trans hf1⟩
  refine v_iload C dL_law_289 rfl ?_
  refine v_icmp_eqN C dL_law_291 (tgt := 296) (by decide) (by omega) (by omega) (fun _ => ?_) (fun hne => absurd rfl hne)
  refine v_iload C dL_law_296 rfl ?_
  refine v_if_neN C dL_law_298 (tgt := 313) (by decide) (by omega) (fun _ => v_goto C dL_law_313 (tgt := 2096) (by decide) (v_forget _ _ _ _ _ _ _ _ (K h2 S' sv' Z' F' _ J2 ⟨by show z.1 + z'.1 ≤ z.1 + 1; omega, by show z.2 + z'.2 ≤ z.2 + 6; omega⟩))) (fun hr0 => ?_)
  refine v_aload_n C dL_law_301 rfl ?_
  refine v_iconst C dL_law_302 (v := nI 0) rfl ?_
  refine v_lald C dL_law_303 ((hp.fr 88 (.inr (by decide))).trans hf1) (by decide) rfl (j := 0) (by decide) (hy1 hr0) ?_
  refine v_iload C dL_law_304 rfl ?_
  refine v_i2l C dL_law_306 ?_
  refine v_lcmp C dL_law_307 ?_
  exact v_if_eq C dL_law_308 (tgt := 313) (by decide) (fun _ => v_goto C dL_law_313 (tgt := 2096) (by decide) (v_forget _ _ _ _ _ _ _ _ (K h2 S' sv' Z' F' _ J2 ⟨by show z.1 + z'.1 ≤ z.1 + 1; omega, by show z.2 + z'.2 ≤ z.2 + 6; omega⟩))) (fun hne => absurd (cmp_self _) hne)
theorem lc_setOutput {X : CT} {o : Oc} {P : Wt → Hp → Prop} (C : Cx X mL_law [] 10 zL o P) {z : Nat × Nat} {w : Wt} {h : Hp} {N i : Nat} {xs : Nat → Int32} {S Z : Sc} {sv : Bool} {F : Sf} (hs : SC X w N xs) (hN : N ≤ 2560) (hi : i + 5 ≤ N) (hz : z.1 + 1 ≤ 603072 ∧ z.2 + 6 ≤ 7157866) (hJ : JI2 h S sv Z F) (K : ∀ h' S' sv' Z' F' z', JI2 h' S' sv' Z' F' → z'.1 ≤ z.1 + 1 ∧ z'.2 ≤ z.2 + 6 → V X z' w h' 2096 (LL i) []) : V X z w h 316 (LL i) [] := by
  obtain ⟨th, hR⟩ := hJ.2.1
  obtain ⟨f, hf⟩ := hJ.2.2
  obtain ⟨S', sv', Z', F', o', z', r, y, j8, j9, hr4, hc⟩ := jm_setOutput hJ.oks (w := w) (S := S) (sv := sv) (Z := Z) (F := F) (x := xs (i + 1)) (y := xs (i + 2))
  obtain ⟨d8, P8, hd8, c8, q8⟩ := j8 h hJ.1
  have hz' : z'.1 ≤ 1 ∧ z'.2 ≤ 6 := by rcases hc with ⟨-, -, rfl⟩ | ⟨E, -, -, rfl⟩ <;> decide
  have hJO : JO rwL_setOutput o' z' r f P8 (RW h S' sv' Z' F' r y.toInt64) := by
    rcases hc with ⟨rfl, rfl, rfl⟩ | ⟨E, rfl, hE, rfl⟩
    · exact .inl ⟨y, rfl, rfl, rfl, fun h1 p1 => ⟨((q8 h1 p1).gf 88 (by decide)).trans hf, rw_ok (q8 h1 p1)⟩⟩
    · exact .inr ⟨E, rfl, rfl, hE, fun h1 p1 => rw_thr (q8 h1 p1) hf (fun e => by subst e; simp [rwL_setOutput] at hE)⟩
  have cw := xL_setOutput hJO hJ.1.ob hd8 c8
  refine v_aload_n C dL_law_316 rfl ?_
  refine v_aload_n C dL_law_317 rfl ?_
  refine v_iload C dL_law_318 rfl ?_
  refine v_iconst C dL_law_320 (v := nI 1) rfl ?_
  refine v_iaddN C dL_law_321 ?_
  refine v_sld C hs hN (by omega) dL_law_322 ?_
  refine v_aload_n C dL_law_323 rfl ?_
  refine v_iload C dL_law_324 rfl ?_
  refine v_iconst C dL_law_326 (v := nI 2) rfl ?_
  refine v_iaddN C dL_law_327 ?_
  refine v_sld C hs hN (by omega) dL_law_328 ?_
  refine v_aload_n C dL_law_329 rfl ?_
  refine v_callH C dL_law_330 kL_setOutput (tj3 85 (by rfl) rfl) cw rfl rfl rfl ⟨by show z.1 + z'.1 ≤ 603072; omega, by show z.2 + z'.2 ≤ 7157866; omega⟩ rfl rfl (fun _ => rfl) (fun h1 R1 => ?_)
  dsimp only [Option.toList, List.cons_append, List.nil_append]
  obtain ⟨hP1, fr1, f1, hf1, hy1⟩ := R1
  have hR1 := hR.low (h' := h1) (fun j a b => fr1 j (by omega) (by omega))
  obtain ⟨d9, hd9, c9⟩ := j9 h1 _ hR1
  obtain ⟨u1, o1, -⟩ := hR1.o
  refine v_istore C dL_law_333 rfl ?_
  dsimp only [sto1, sto2, killL]
  refine v_aload_n C dL_law_335 rfl ?_
  refine v_aload_n C dL_law_336 rfl ?_
  refine v_iload C dL_law_337 rfl ?_
  refine v_iconst C dL_law_339 (v := nI 1) rfl ?_
  refine v_iaddN C dL_law_340 ?_
  refine v_sld C hs hN (by omega) dL_law_341 ?_
  refine v_aload_n C dL_law_342 rfl ?_
  refine v_iload C dL_law_343 rfl ?_
  refine v_iconst C dL_law_345 (v := nI 2) rfl ?_
  refine v_iaddN C dL_law_346 ?_
  refine v_sld C hs hN (by omega) dL_law_347 ?_
  refine v_callV C dL_law_348 vL_131 o1 c9 rfl (blt10 hd9) rfl ⟨Nat.ble_eq_true_of_le (by show z.1 + z'.1 ≤ 603072; omega), Nat.ble_eq_true_of_le (by show z.2 + z'.2 ≤ 7157866; omega)⟩ rfl rfl (fun _ => rfl) (fun h2 hp => ?_)
  dsimp only [Option.toList, List.cons_append, List.nil_append]
  refine v_istore C dL_law_351 rfl ?_
  dsimp only [sto1, sto2, killL]
  refine v_aload_n C dL_law_353 rfl ?_
  obtain ⟨u2, o2, t2, -⟩ := hp.o
  refine v_callV C dL_law_354 vL_122 o2 (k9_thrown o2) rfl rfl rfl ⟨Nat.ble_eq_true_of_le (by show z.1 + z'.1 ≤ 603072; omega), Nat.ble_eq_true_of_le (by show z.2 + z'.2 ≤ 7157866; omega)⟩ rfl rfl (fun _ => rfl) (fun h3 e3 => ?_)
  rw [show h3 = _ from e3]
  dsimp only [Option.toList, List.cons_append, List.nil_append]
  rw [t2]
  have J2 : JI2 h2 S' sv' Z' F' := ⟨hP1.top (fun j hj => hp.fr j (.inl (by omega))), ⟨_, hp.low (fun _ _ _ => rfl)⟩, f1, (hp.fr 88 (.inr (by decide))).trans hf1⟩
  refine v_iload C dL_law_357 rfl ?_
  refine v_icmp_eqN C dL_law_359 (tgt := 364) (by decide) (by omega) (by omega) (fun _ => ?_) (fun hne => absurd rfl hne)
  refine v_iload C dL_law_364 rfl ?_
  refine v_if_neN C dL_law_366 (tgt := 381) (by decide) (by omega) (fun _ => v_goto C dL_law_381 (tgt := 2096) (by decide) (v_forget _ _ _ _ _ _ _ _ (K h2 S' sv' Z' F' _ J2 ⟨by show z.1 + z'.1 ≤ z.1 + 1; omega, by show z.2 + z'.2 ≤ z.2 + 6; omega⟩))) (fun hr0 => ?_)
  refine v_aload_n C dL_law_369 rfl ?_
  refine v_iconst C dL_law_370 (v := nI 0) rfl ?_
  refine v_lald C dL_law_371 ((hp.fr 88 (.inr (by decide))).trans hf1) (by decide) rfl (j := 0) (by decide) (hy1 hr0) ?_
  refine v_iload C dL_law_372 rfl ?_
  refine v_i2l C dL_law_374 ?_
  refine v_lcmp C dL_law_375 ?_
  exact v_if_eq C dL_law_376 (tgt := 381) (by decide) (fun _ => v_goto C dL_law_381 (tgt := 2096) (by decide) (v_forget _ _ _ _ _ _ _ _ (K h2 S' sv' Z' F' _ J2 ⟨by show z.1 + z'.1 ≤ z.1 + 1; omega, by show z.2 + z'.2 ≤ z.2 + 6; omega⟩))) (fun hne => absurd (cmp_self _) hne)
theorem lc_output {X : CT} {o : Oc} {P : Wt → Hp → Prop} (C : Cx X mL_law [] 10 zL o P) {z : Nat × Nat} {w : Wt} {h : Hp} {N i : Nat} {xs : Nat → Int32} {S Z : Sc} {sv : Bool} {F : Sf} (hs : SC X w N xs) (hN : N ≤ 2560) (hi : i + 5 ≤ N) (hz : z.1 + 1 ≤ 603072 ∧ z.2 + 6 ≤ 7157866) (hJ : JI2 h S sv Z F) (K : ∀ h' S' sv' Z' F' z', JI2 h' S' sv' Z' F' → z'.1 ≤ z.1 + 1 ∧ z'.2 ≤ z.2 + 6 → V X z' w h' 2096 (LL i) []) : V X z w h 384 (LL i) [] := by
  obtain ⟨th, hR⟩ := hJ.2.1
  obtain ⟨f, hf⟩ := hJ.2.2
  obtain ⟨S', sv', Z', F', o', z', r, y, j8, j9, hr4, hc⟩ := jm_output hJ.oks (w := w) (S := S) (sv := sv) (Z := Z) (F := F) (x := xs (i + 1))
  obtain ⟨d8, P8, hd8, c8, q8⟩ := j8 h hJ.1
  have hz' : z'.1 ≤ 1 ∧ z'.2 ≤ 6 := by rcases hc with ⟨-, -, rfl⟩ | ⟨E, -, -, rfl⟩ <;> decide
  have hJO : JO rwL_output o' z' r f P8 (RW h S' sv' Z' F' r y.toInt64) := by
    rcases hc with ⟨rfl, rfl, rfl⟩ | ⟨E, rfl, hE, rfl⟩
    · exact .inl ⟨y, rfl, rfl, rfl, fun h1 p1 => ⟨((q8 h1 p1).gf 88 (by decide)).trans hf, rw_ok (q8 h1 p1)⟩⟩
    · exact .inr ⟨E, rfl, rfl, hE, fun h1 p1 => rw_thr (q8 h1 p1) hf (fun e => by subst e; simp [rwL_output] at hE)⟩
  have cw := xL_output hJO hJ.1.ob hd8 c8
  refine v_aload_n C dL_law_384 rfl ?_
  refine v_aload_n C dL_law_385 rfl ?_
  refine v_iload C dL_law_386 rfl ?_
  refine v_iconst C dL_law_388 (v := nI 1) rfl ?_
  refine v_iaddN C dL_law_389 ?_
  refine v_sld C hs hN (by omega) dL_law_390 ?_
  refine v_aload_n C dL_law_391 rfl ?_
  refine v_callH C dL_law_392 kL_output (tj3 98 (by rfl) rfl) cw rfl rfl rfl ⟨by show z.1 + z'.1 ≤ 603072; omega, by show z.2 + z'.2 ≤ 7157866; omega⟩ rfl rfl (fun _ => rfl) (fun h1 R1 => ?_)
  dsimp only [Option.toList, List.cons_append, List.nil_append]
  obtain ⟨hP1, fr1, f1, hf1, hy1⟩ := R1
  have hR1 := hR.low (h' := h1) (fun j a b => fr1 j (by omega) (by omega))
  obtain ⟨d9, hd9, c9⟩ := j9 h1 _ hR1
  obtain ⟨u1, o1, -⟩ := hR1.o
  refine v_istore C dL_law_395 rfl ?_
  dsimp only [sto1, sto2, killL]
  refine v_aload_n C dL_law_397 rfl ?_
  refine v_aload_n C dL_law_398 rfl ?_
  refine v_iload C dL_law_399 rfl ?_
  refine v_iconst C dL_law_401 (v := nI 1) rfl ?_
  refine v_iaddN C dL_law_402 ?_
  refine v_sld C hs hN (by omega) dL_law_403 ?_
  refine v_callV C dL_law_404 vL_134 o1 c9 rfl (blt10 hd9) rfl ⟨Nat.ble_eq_true_of_le (by show z.1 + z'.1 ≤ 603072; omega), Nat.ble_eq_true_of_le (by show z.2 + z'.2 ≤ 7157866; omega)⟩ rfl rfl (fun _ => rfl) (fun h2 hp => ?_)
  dsimp only [Option.toList, List.cons_append, List.nil_append]
  refine v_istore C dL_law_407 rfl ?_
  dsimp only [sto1, sto2, killL]
  refine v_aload_n C dL_law_409 rfl ?_
  obtain ⟨u2, o2, t2, -⟩ := hp.o
  refine v_callV C dL_law_410 vL_122 o2 (k9_thrown o2) rfl rfl rfl ⟨Nat.ble_eq_true_of_le (by show z.1 + z'.1 ≤ 603072; omega), Nat.ble_eq_true_of_le (by show z.2 + z'.2 ≤ 7157866; omega)⟩ rfl rfl (fun _ => rfl) (fun h3 e3 => ?_)
  rw [show h3 = _ from e3]
  dsimp only [Option.toList, List.cons_append, List.nil_append]
  rw [t2]
  have J2 : JI2 h2 S' sv' Z' F' := ⟨hP1.top (fun j hj => hp.fr j (.inl (by omega))), ⟨_, hp.low (fun _ _ _ => rfl)⟩, f1, (hp.fr 88 (.inr (by decide))).trans hf1⟩
  refine v_iload C dL_law_413 rfl ?_
  refine v_icmp_eqN C dL_law_415 (tgt := 420) (by decide) (by omega) (by omega) (fun _ => ?_) (fun hne => absurd rfl hne)
  refine v_iload C dL_law_420 rfl ?_
  refine v_if_neN C dL_law_422 (tgt := 437) (by decide) (by omega) (fun _ => v_goto C dL_law_437 (tgt := 2096) (by decide) (v_forget _ _ _ _ _ _ _ _ (K h2 S' sv' Z' F' _ J2 ⟨by show z.1 + z'.1 ≤ z.1 + 1; omega, by show z.2 + z'.2 ≤ z.2 + 6; omega⟩))) (fun hr0 => ?_)
  refine v_aload_n C dL_law_425 rfl ?_
  refine v_iconst C dL_law_426 (v := nI 0) rfl ?_
  refine v_lald C dL_law_427 ((hp.fr 88 (.inr (by decide))).trans hf1) (by decide) rfl (j := 0) (by decide) (hy1 hr0) ?_
  refine v_iload C dL_law_428 rfl ?_
  refine v_i2l C dL_law_430 ?_
  refine v_lcmp C dL_law_431 ?_
  exact v_if_eq C dL_law_432 (tgt := 437) (by decide) (fun _ => v_goto C dL_law_437 (tgt := 2096) (by decide) (v_forget _ _ _ _ _ _ _ _ (K h2 S' sv' Z' F' _ J2 ⟨by show z.1 + z'.1 ≤ z.1 + 1; omega, by show z.2 + z'.2 ≤ z.2 + 6; omega⟩))) (fun hne => absurd (cmp_self _) hne)
theorem lc_setNumber {X : CT} {o : Oc} {P : Wt → Hp → Prop} (C : Cx X mL_law [] 10 zL o P) {z : Nat × Nat} {w : Wt} {h : Hp} {N i : Nat} {xs : Nat → Int32} {S Z : Sc} {sv : Bool} {F : Sf} (hs : SC X w N xs) (hN : N ≤ 2560) (hi : i + 5 ≤ N) (hz : z.1 + 1 ≤ 603072 ∧ z.2 + 6 ≤ 7157866) (hJ : JI2 h S sv Z F) (K : ∀ h' S' sv' Z' F' z', JI2 h' S' sv' Z' F' → z'.1 ≤ z.1 + 1 ∧ z'.2 ≤ z.2 + 6 → V X z' w h' 2096 (LL i) []) : V X z w h 440 (LL i) [] := by
  obtain ⟨th, hR⟩ := hJ.2.1
  obtain ⟨f, hf⟩ := hJ.2.2
  obtain ⟨S', sv', Z', F', o', z', r, y, j8, j9, hr4, hc⟩ := jm_setNumber (w := w) (S := S) (sv := sv) (Z := Z) (F := F) (a := ((xs (i + 1)).toInt64 <<< ((nI 32).toInt64 &&& 63)) ||| ((xs (i + 2)).toInt64 &&& 4294967295))
  obtain ⟨d8, P8, hd8, c8, q8⟩ := j8 h hJ.1
  have hz' : z'.1 ≤ 1 ∧ z'.2 ≤ 6 := by rcases hc with ⟨-, -, rfl⟩ | ⟨E, -, -, rfl⟩ <;> decide
  have hJO : JO rwL_setNumber o' z' r f P8 (RW h S' sv' Z' F' r y.toInt64) := by
    rcases hc with ⟨rfl, rfl, rfl⟩ | ⟨E, rfl, hE, rfl⟩
    · exact .inl ⟨y, rfl, rfl, rfl, fun h1 p1 => ⟨((q8 h1 p1).gf 88 (by decide)).trans hf, rw_ok (q8 h1 p1)⟩⟩
    · exact .inr ⟨E, rfl, rfl, hE, fun h1 p1 => rw_thr (q8 h1 p1) hf (fun e => by subst e; simp [rwL_setNumber] at hE)⟩
  have cw := xL_setNumber hJO hJ.1.ob hd8 c8
  refine v_aload_n C dL_law_440 rfl ?_
  refine v_aload_n C dL_law_441 rfl ?_
  refine v_iload C dL_law_442 rfl ?_
  refine v_iconst C dL_law_444 (v := nI 1) rfl ?_
  refine v_iaddN C dL_law_445 ?_
  refine v_sld C hs hN (by omega) dL_law_446 ?_
  refine v_i2l C dL_law_447 ?_
  refine v_bipush C dL_law_448 (v := nI 32) rfl ?_
  refine v_lshl C dL_law_450 ?_
  refine v_aload_n C dL_law_451 rfl ?_
  refine v_iload C dL_law_452 rfl ?_
  refine v_iconst C dL_law_454 (v := nI 2) rfl ?_
  refine v_iaddN C dL_law_455 ?_
  refine v_sld C hs hN (by omega) dL_law_456 ?_
  refine v_i2l C dL_law_457 ?_
  refine v_ldc2 C (v := 4294967295) (tj8 116 (by rfl) rfl) dL_law_458 ?_
  refine v_land C dL_law_461 ?_
  refine v_lor C dL_law_462 ?_
  refine v_aload_n C dL_law_463 rfl ?_
  refine v_callH C dL_law_464 kL_setNumber (tj3 105 (by rfl) rfl) cw rfl rfl rfl ⟨by show z.1 + z'.1 ≤ 603072; omega, by show z.2 + z'.2 ≤ 7157866; omega⟩ rfl rfl (fun _ => rfl) (fun h1 R1 => ?_)
  dsimp only [Option.toList, List.cons_append, List.nil_append]
  obtain ⟨hP1, fr1, f1, hf1, hy1⟩ := R1
  have hR1 := hR.low (h' := h1) (fun j a b => fr1 j (by omega) (by omega))
  obtain ⟨d9, hd9, c9⟩ := j9 h1 _ hR1
  obtain ⟨u1, o1, -⟩ := hR1.o
  refine v_istore C dL_law_467 rfl ?_
  dsimp only [sto1, sto2, killL]
  refine v_aload_n C dL_law_469 rfl ?_
  refine v_aload_n C dL_law_470 rfl ?_
  refine v_iload C dL_law_471 rfl ?_
  refine v_iconst C dL_law_473 (v := nI 1) rfl ?_
  refine v_iaddN C dL_law_474 ?_
  refine v_sld C hs hN (by omega) dL_law_475 ?_
  refine v_i2l C dL_law_476 ?_
  refine v_bipush C dL_law_477 (v := nI 32) rfl ?_
  refine v_lshl C dL_law_479 ?_
  refine v_aload_n C dL_law_480 rfl ?_
  refine v_iload C dL_law_481 rfl ?_
  refine v_iconst C dL_law_483 (v := nI 2) rfl ?_
  refine v_iaddN C dL_law_484 ?_
  refine v_sld C hs hN (by omega) dL_law_485 ?_
  refine v_i2l C dL_law_486 ?_
  refine v_ldc2 C (v := 4294967295) (tj8 116 (by rfl) rfl) dL_law_487 ?_
  refine v_land C dL_law_490 ?_
  refine v_lor C dL_law_491 ?_
  refine v_callV C dL_law_492 vL_140 o1 c9 rfl (blt10 hd9) rfl ⟨Nat.ble_eq_true_of_le (by show z.1 + z'.1 ≤ 603072; omega), Nat.ble_eq_true_of_le (by show z.2 + z'.2 ≤ 7157866; omega)⟩ rfl rfl (fun _ => rfl) (fun h2 hp => ?_)
  dsimp only [Option.toList, List.cons_append, List.nil_append]
  refine v_istore C dL_law_495 rfl ?_
  dsimp only [sto1, sto2, killL]
  refine v_aload_n C dL_law_497 rfl ?_
  obtain ⟨u2, o2, t2, -⟩ := hp.o
  refine v_callV C dL_law_498 vL_122 o2 (k9_thrown o2) rfl rfl rfl ⟨Nat.ble_eq_true_of_le (by show z.1 + z'.1 ≤ 603072; omega), Nat.ble_eq_true_of_le (by show z.2 + z'.2 ≤ 7157866; omega)⟩ rfl rfl (fun _ => rfl) (fun h3 e3 => ?_)
  rw [show h3 = _ from e3]
  dsimp only [Option.toList, List.cons_append, List.nil_append]
  rw [t2]
  have J2 : JI2 h2 S' sv' Z' F' := ⟨hP1.top (fun j hj => hp.fr j (.inl (by omega))), ⟨_, hp.low (fun _ _ _ => rfl)⟩, f1, (hp.fr 88 (.inr (by decide))).trans hf1⟩
  refine v_iload C dL_law_501 rfl ?_
  refine v_icmp_eqN C dL_law_503 (tgt := 508) (by decide) (by omega) (by omega) (fun _ => ?_) (fun hne => absurd rfl hne)
  refine v_iload C dL_law_508 rfl ?_
  refine v_if_neN C dL_law_510 (tgt := 525) (by decide) (by omega) (fun _ => v_goto C dL_law_525 (tgt := 2096) (by decide) (v_forget _ _ _ _ _ _ _ _ (K h2 S' sv' Z' F' _ J2 ⟨by show z.1 + z'.1 ≤ z.1 + 1; omega, by show z.2 + z'.2 ≤ z.2 + 6; omega⟩))) (fun hr0 => ?_)
  refine v_aload_n C dL_law_513 rfl ?_
  refine v_iconst C dL_law_514 (v := nI 0) rfl ?_
  refine v_lald C dL_law_515 ((hp.fr 88 (.inr (by decide))).trans hf1) (by decide) rfl (j := 0) (by decide) (hy1 hr0) ?_
  refine v_iload C dL_law_516 rfl ?_
  refine v_i2l C dL_law_518 ?_
  refine v_lcmp C dL_law_519 ?_
  exact v_if_eq C dL_law_520 (tgt := 525) (by decide) (fun _ => v_goto C dL_law_525 (tgt := 2096) (by decide) (v_forget _ _ _ _ _ _ _ _ (K h2 S' sv' Z' F' _ J2 ⟨by show z.1 + z'.1 ≤ z.1 + 1; omega, by show z.2 + z'.2 ≤ z.2 + 6; omega⟩))) (fun hne => absurd (cmp_self _) hne)
theorem lc_number {X : CT} {o : Oc} {P : Wt → Hp → Prop} (C : Cx X mL_law [] 10 zL o P) {z : Nat × Nat} {w : Wt} {h : Hp} {N i : Nat} {xs : Nat → Int32} {S Z : Sc} {sv : Bool} {F : Sf} (hs : SC X w N xs) (hN : N ≤ 2560) (hi : i + 5 ≤ N) (hz : z.1 + 1 ≤ 603072 ∧ z.2 + 6 ≤ 7157866) (hJ : JI2 h S sv Z F) (K : ∀ h' S' sv' Z' F' z', JI2 h' S' sv' Z' F' → z'.1 ≤ z.1 + 1 ∧ z'.2 ≤ z.2 + 6 → V X z' w h' 2096 (LL i) []) : V X z w h 528 (LL i) [] := by
  obtain ⟨th, hR⟩ := hJ.2.1
  obtain ⟨f, hf⟩ := hJ.2.2
  obtain ⟨S', sv', Z', F', r, j8, j9⟩ := jd_number (w := w) (S := S) (sv := sv) (Z := Z) (F := F)
  obtain ⟨d8, P8, hd8, c8, q8⟩ := j8 h hJ.1
  refine v_aload_n C dL_law_528 rfl ?_
  refine v_callV C dL_law_529 vL_141 hJ.1.ob c8 rfl (blt10 hd8) rfl ⟨Nat.ble_eq_true_of_le (by show z.1 ≤ 603072; omega), Nat.ble_eq_true_of_le (by show z.2 ≤ 7157866; omega)⟩ rfl rfl (fun _ => rfl) (fun h1 p1 => ?_)
  dsimp only [Option.toList, List.cons_append, List.nil_append]
  have hP1 := q8 h1 p1
  have hR1 := hR.low (h' := h1) (fun j a b => hP1.gf j (by omega))
  obtain ⟨d9, hd9, c9⟩ := j9 h1 _ hR1
  obtain ⟨u1, o1, -⟩ := hR1.o
  refine v_aload_n C dL_law_532 rfl ?_
  refine v_callV C dL_law_533 vL_144 o1 c9 rfl (blt10 hd9) rfl ⟨Nat.ble_eq_true_of_le (by show z.1 ≤ 603072; omega), Nat.ble_eq_true_of_le (by show z.2 ≤ 7157866; omega)⟩ rfl rfl (fun _ => rfl) (fun h2 hp => ?_)
  dsimp only [Option.toList, List.cons_append, List.nil_append]
  refine v_lcmp C dL_law_536 ?_
  exact v_if_eq C dL_law_537 (tgt := 2096) (by decide) (fun _ => K h2 S' sv' Z' F' _ ⟨hP1.top (fun j hj => hp.fr j (.inl (by omega))), ⟨_, hp.low (fun _ _ _ => rfl)⟩, f, (hp.fr 88 (.inr (by decide))).trans ((hP1.gf 88 (by decide)).trans hf)⟩ ⟨by omega, by omega⟩) (fun hne => absurd (cmp_self _) hne)
theorem lc_append {X : CT} {o : Oc} {P : Wt → Hp → Prop} (C : Cx X mL_law [] 10 zL o P) {z : Nat × Nat} {w : Wt} {h : Hp} {N i : Nat} {xs : Nat → Int32} {S Z : Sc} {sv : Bool} {F : Sf} (hs : SC X w N xs) (hN : N ≤ 2560) (hi : i + 5 ≤ N) (hz : z.1 + 1 ≤ 603072 ∧ z.2 + 6 ≤ 7157866) (hJ : JI2 h S sv Z F) (K : ∀ h' S' sv' Z' F' z', JI2 h' S' sv' Z' F' → z'.1 ≤ z.1 + 1 ∧ z'.2 ≤ z.2 + 6 → V X z' w h' 2096 (LL i) []) : V X z w h 542 (LL i) [] := by
  obtain ⟨th, hR⟩ := hJ.2.1
  obtain ⟨f, hf⟩ := hJ.2.2
  obtain ⟨S', sv', Z', F', o', z', r, y, j8, j9, hr4, hc⟩ := jm_append (w := w) (S := S) (sv := sv) (Z := Z) (F := F) (x := xs (i + 1))
  obtain ⟨d8, P8, hd8, c8, q8⟩ := j8 h hJ.1
  have hz' : z'.1 ≤ 1 ∧ z'.2 ≤ 6 := by rcases hc with ⟨-, -, rfl⟩ | ⟨E, -, -, rfl⟩ <;> decide
  have hJO : JO rwL_append o' z' r f P8 (RW h S' sv' Z' F' r y.toInt64) := by
    rcases hc with ⟨rfl, rfl, rfl⟩ | ⟨E, rfl, hE, rfl⟩
    · exact .inl ⟨y, rfl, rfl, rfl, fun h1 p1 => ⟨((q8 h1 p1).gf 88 (by decide)).trans hf, rw_ok (q8 h1 p1)⟩⟩
    · exact .inr ⟨E, rfl, rfl, hE, fun h1 p1 => rw_thr (q8 h1 p1) hf (fun e => by subst e; simp [rwL_append] at hE)⟩
  have cw := xL_append hJO hJ.1.ob hd8 c8
  refine v_aload_n C dL_law_542 rfl ?_
  refine v_aload_n C dL_law_543 rfl ?_
  refine v_iload C dL_law_544 rfl ?_
  refine v_iconst C dL_law_546 (v := nI 1) rfl ?_
  refine v_iaddN C dL_law_547 ?_
  refine v_sld C hs hN (by omega) dL_law_548 ?_
  refine v_aload_n C dL_law_549 rfl ?_
  refine v_callH C dL_law_550 kL_append (tj3 123 (by rfl) rfl) cw rfl rfl rfl ⟨by show z.1 + z'.1 ≤ 603072; omega, by show z.2 + z'.2 ≤ 7157866; omega⟩ rfl rfl (fun _ => rfl) (fun h1 R1 => ?_)
  dsimp only [Option.toList, List.cons_append, List.nil_append]
  obtain ⟨hP1, fr1, f1, hf1, hy1⟩ := R1
  have hR1 := hR.low (h' := h1) (fun j a b => fr1 j (by omega) (by omega))
  obtain ⟨d9, hd9, c9⟩ := j9 h1 _ hR1
  obtain ⟨u1, o1, -⟩ := hR1.o
  refine v_istore C dL_law_553 rfl ?_
  dsimp only [sto1, sto2, killL]
  refine v_aload_n C dL_law_555 rfl ?_
  refine v_aload_n C dL_law_556 rfl ?_
  refine v_iload C dL_law_557 rfl ?_
  refine v_iconst C dL_law_559 (v := nI 1) rfl ?_
  refine v_iaddN C dL_law_560 ?_
  refine v_sld C hs hN (by omega) dL_law_561 ?_
  refine v_callV C dL_law_562 vL_147 o1 c9 rfl (blt10 hd9) rfl ⟨Nat.ble_eq_true_of_le (by show z.1 + z'.1 ≤ 603072; omega), Nat.ble_eq_true_of_le (by show z.2 + z'.2 ≤ 7157866; omega)⟩ rfl rfl (fun _ => rfl) (fun h2 hp => ?_)
  dsimp only [Option.toList, List.cons_append, List.nil_append]
  refine v_istore C dL_law_565 rfl ?_
  dsimp only [sto1, sto2, killL]
  refine v_aload_n C dL_law_567 rfl ?_
  obtain ⟨u2, o2, t2, -⟩ := hp.o
  refine v_callV C dL_law_568 vL_122 o2 (k9_thrown o2) rfl rfl rfl ⟨Nat.ble_eq_true_of_le (by show z.1 + z'.1 ≤ 603072; omega), Nat.ble_eq_true_of_le (by show z.2 + z'.2 ≤ 7157866; omega)⟩ rfl rfl (fun _ => rfl) (fun h3 e3 => ?_)
  rw [show h3 = _ from e3]
  dsimp only [Option.toList, List.cons_append, List.nil_append]
  rw [t2]
  have J2 : JI2 h2 S' sv' Z' F' := ⟨hP1.top (fun j hj => hp.fr j (.inl (by omega))), ⟨_, hp.low (fun _ _ _ => rfl)⟩, f1, (hp.fr 88 (.inr (by decide))).trans hf1⟩
  refine v_iload C dL_law_571 rfl ?_
  refine v_icmp_eqN C dL_law_573 (tgt := 578) (by decide) (by omega) (by omega) (fun _ => ?_) (fun hne => absurd rfl hne)
  refine v_iload C dL_law_578 rfl ?_
  refine v_if_neN C dL_law_580 (tgt := 595) (by decide) (by omega) (fun _ => v_goto C dL_law_595 (tgt := 2096) (by decide) (v_forget _ _ _ _ _ _ _ _ (K h2 S' sv' Z' F' _ J2 ⟨by show z.1 + z'.1 ≤ z.1 + 1; omega, by show z.2 + z'.2 ≤ z.2 + 6; omega⟩))) (fun hr0 => ?_)
  refine v_aload_n C dL_law_583 rfl ?_
  refine v_iconst C dL_law_584 (v := nI 0) rfl ?_
  refine v_lald C dL_law_585 ((hp.fr 88 (.inr (by decide))).trans hf1) (by decide) rfl (j := 0) (by decide) (hy1 hr0) ?_
  refine v_iload C dL_law_586 rfl ?_
  refine v_i2l C dL_law_588 ?_
  refine v_lcmp C dL_law_589 ?_
  exact v_if_eq C dL_law_590 (tgt := 595) (by decide) (fun _ => v_goto C dL_law_595 (tgt := 2096) (by decide) (v_forget _ _ _ _ _ _ _ _ (K h2 S' sv' Z' F' _ J2 ⟨by show z.1 + z'.1 ≤ z.1 + 1; omega, by show z.2 + z'.2 ≤ z.2 + 6; omega⟩))) (fun hne => absurd (cmp_self _) hne)
theorem lc_compile {X : CT} {o : Oc} {P : Wt → Hp → Prop} (C : Cx X mL_law [] 10 zL o P) {z : Nat × Nat} {w : Wt} {h : Hp} {N i : Nat} {xs : Nat → Int32} {S Z : Sc} {sv : Bool} {F : Sf} (hs : SC X w N xs) (hN : N ≤ 2560) (hi : i + 5 ≤ N) (hz : z.1 + 1 ≤ 603072 ∧ z.2 + 6 ≤ 7157866) (hJ : JI2 h S sv Z F) (K : ∀ h' S' sv' Z' F' z', JI2 h' S' sv' Z' F' → z'.1 ≤ z.1 + 1 ∧ z'.2 ≤ z.2 + 6 → V X z' w h' 2096 (LL i) []) : V X z w h 598 (LL i) [] := by
  obtain ⟨th, hR⟩ := hJ.2.1
  obtain ⟨f, hf⟩ := hJ.2.2
  obtain ⟨S', sv', Z', F', o', z', r, y, j8, j9, hr4, hc⟩ := jm_compile (w := w) (S := S) (sv := sv) (Z := Z) (F := F) 
  obtain ⟨d8, P8, hd8, c8, q8⟩ := j8 h hJ.1
  have hz' : z'.1 ≤ 1 ∧ z'.2 ≤ 6 := by rcases hc with ⟨-, -, rfl⟩ | ⟨E, -, -, rfl⟩ <;> decide
  have hJO : JO rwL_compile o' z' r f P8 (RW h S' sv' Z' F' r y.toInt64) := by
    rcases hc with ⟨rfl, rfl, rfl⟩ | ⟨E, rfl, hE, rfl⟩
    · exact .inl ⟨y, rfl, rfl, rfl, fun h1 p1 => ⟨((q8 h1 p1).gf 88 (by decide)).trans hf, rw_ok (q8 h1 p1)⟩⟩
    · exact .inr ⟨E, rfl, rfl, hE, fun h1 p1 => rw_thr (q8 h1 p1) hf (fun e => by subst e; simp [rwL_compile] at hE)⟩
  have cw := xL_compile hJO hJ.1.ob hd8 c8
  refine v_aload_n C dL_law_598 rfl ?_
  refine v_aload_n C dL_law_599 rfl ?_
  refine v_callH C dL_law_600 kL_compile (tj3 155 (by rfl) rfl) cw rfl rfl rfl ⟨by show z.1 + z'.1 ≤ 603072; omega, by show z.2 + z'.2 ≤ 7157866; omega⟩ rfl rfl (fun _ => rfl) (fun h1 R1 => ?_)
  dsimp only [Option.toList, List.cons_append, List.nil_append]
  obtain ⟨hP1, fr1, f1, hf1, hy1⟩ := R1
  have hR1 := hR.low (h' := h1) (fun j a b => fr1 j (by omega) (by omega))
  obtain ⟨d9, hd9, c9⟩ := j9 h1 _ hR1
  obtain ⟨u1, o1, -⟩ := hR1.o
  refine v_istore C dL_law_603 rfl ?_
  dsimp only [sto1, sto2, killL]
  refine v_aload_n C dL_law_605 rfl ?_
  refine v_callV C dL_law_606 vL_151 o1 c9 rfl (blt10 hd9) rfl ⟨Nat.ble_eq_true_of_le (by show z.1 + z'.1 ≤ 603072; omega), Nat.ble_eq_true_of_le (by show z.2 + z'.2 ≤ 7157866; omega)⟩ rfl rfl (fun _ => rfl) (fun h2 hp => ?_)
  dsimp only [Option.toList, List.cons_append, List.nil_append]
  refine v_istore C dL_law_609 rfl ?_
  dsimp only [sto1, sto2, killL]
  refine v_aload_n C dL_law_611 rfl ?_
  obtain ⟨u2, o2, t2, -⟩ := hp.o
  refine v_callV C dL_law_612 vL_122 o2 (k9_thrown o2) rfl rfl rfl ⟨Nat.ble_eq_true_of_le (by show z.1 + z'.1 ≤ 603072; omega), Nat.ble_eq_true_of_le (by show z.2 + z'.2 ≤ 7157866; omega)⟩ rfl rfl (fun _ => rfl) (fun h3 e3 => ?_)
  rw [show h3 = _ from e3]
  dsimp only [Option.toList, List.cons_append, List.nil_append]
  rw [t2]
  have J2 : JI2 h2 S' sv' Z' F' := ⟨hP1.top (fun j hj => hp.fr j (.inl (by omega))), ⟨_, hp.low (fun _ _ _ => rfl)⟩, f1, (hp.fr 88 (.inr (by decide))).trans hf1⟩
  refine v_iload C dL_law_615 rfl ?_
  refine v_icmp_eqN C dL_law_617 (tgt := 622) (by decide) (by omega) (by omega) (fun _ => ?_) (fun hne => absurd rfl hne)
  refine v_iload C dL_law_622 rfl ?_
  refine v_if_neN C dL_law_624 (tgt := 639) (by decide) (by omega) (fun _ => v_goto C dL_law_639 (tgt := 2096) (by decide) (v_forget _ _ _ _ _ _ _ _ (K h2 S' sv' Z' F' _ J2 ⟨by show z.1 + z'.1 ≤ z.1 + 1; omega, by show z.2 + z'.2 ≤ z.2 + 6; omega⟩))) (fun hr0 => ?_)
  refine v_aload_n C dL_law_627 rfl ?_
  refine v_iconst C dL_law_628 (v := nI 0) rfl ?_
  refine v_lald C dL_law_629 ((hp.fr 88 (.inr (by decide))).trans hf1) (by decide) rfl (j := 0) (by decide) (hy1 hr0) ?_
  refine v_iload C dL_law_630 rfl ?_
  refine v_i2l C dL_law_632 ?_
  refine v_lcmp C dL_law_633 ?_
  exact v_if_eq C dL_law_634 (tgt := 639) (by decide) (fun _ => v_goto C dL_law_639 (tgt := 2096) (by decide) (v_forget _ _ _ _ _ _ _ _ (K h2 S' sv' Z' F' _ J2 ⟨by show z.1 + z'.1 ≤ z.1 + 1; omega, by show z.2 + z'.2 ≤ z.2 + 6; omega⟩))) (fun hne => absurd (cmp_self _) hne)
theorem lc_error {X : CT} {o : Oc} {P : Wt → Hp → Prop} (C : Cx X mL_law [] 10 zL o P) {z : Nat × Nat} {w : Wt} {h : Hp} {N i : Nat} {xs : Nat → Int32} {S Z : Sc} {sv : Bool} {F : Sf} (hs : SC X w N xs) (hN : N ≤ 2560) (hi : i + 5 ≤ N) (hz : z.1 + 1 ≤ 603072 ∧ z.2 + 6 ≤ 7157866) (hJ : JI2 h S sv Z F) (K : ∀ h' S' sv' Z' F' z', JI2 h' S' sv' Z' F' → z'.1 ≤ z.1 + 1 ∧ z'.2 ≤ z.2 + 6 → V X z' w h' 2096 (LL i) []) : V X z w h 642 (LL i) [] := by
  obtain ⟨th, hR⟩ := hJ.2.1
  obtain ⟨f, hf⟩ := hJ.2.2
  obtain ⟨S', sv', Z', F', o', z', r, y, j8, j9, hr4, hc⟩ := jm_error (w := w) (S := S) (sv := sv) (Z := Z) (F := F) (x := xs (i + 1))
  obtain ⟨d8, P8, hd8, c8, q8⟩ := j8 h hJ.1
  have hz' : z'.1 ≤ 1 ∧ z'.2 ≤ 6 := by rcases hc with ⟨-, -, rfl⟩ | ⟨E, -, -, rfl⟩ <;> decide
  have hJO : JO rwL_error o' z' r f P8 (RW h S' sv' Z' F' r y.toInt64) := by
    rcases hc with ⟨rfl, rfl, rfl⟩ | ⟨E, rfl, hE, rfl⟩
    · exact .inl ⟨y, rfl, rfl, rfl, fun h1 p1 => ⟨((q8 h1 p1).gf 88 (by decide)).trans hf, rw_ok (q8 h1 p1)⟩⟩
    · exact .inr ⟨E, rfl, rfl, hE, fun h1 p1 => rw_thr (q8 h1 p1) hf (fun e => by subst e; simp [rwL_error] at hE)⟩
  have cw := xL_error hJO hJ.1.ob hd8 c8
  refine v_aload_n C dL_law_642 rfl ?_
  refine v_aload_n C dL_law_643 rfl ?_
  refine v_iload C dL_law_644 rfl ?_
  refine v_iconst C dL_law_646 (v := nI 1) rfl ?_
  refine v_iaddN C dL_law_647 ?_
  refine v_sld C hs hN (by omega) dL_law_648 ?_
  refine v_aload_n C dL_law_649 rfl ?_
  refine v_callH C dL_law_650 kL_error (tj4 1 (by rfl) rfl) cw rfl rfl rfl ⟨by show z.1 + z'.1 ≤ 603072; omega, by show z.2 + z'.2 ≤ 7157866; omega⟩ rfl rfl (fun _ => rfl) (fun h1 R1 => ?_)
  dsimp only [Option.toList, List.cons_append, List.nil_append]
  obtain ⟨hP1, fr1, f1, hf1, hy1⟩ := R1
  have hR1 := hR.low (h' := h1) (fun j a b => fr1 j (by omega) (by omega))
  obtain ⟨d9, hd9, c9⟩ := j9 h1 _ hR1
  obtain ⟨u1, o1, -⟩ := hR1.o
  refine v_istore C dL_law_653 rfl ?_
  dsimp only [sto1, sto2, killL]
  refine v_aload_n C dL_law_655 rfl ?_
  refine v_aload_n C dL_law_656 rfl ?_
  refine v_iload C dL_law_657 rfl ?_
  refine v_iconst C dL_law_659 (v := nI 1) rfl ?_
  refine v_iaddN C dL_law_660 ?_
  refine v_sld C hs hN (by omega) dL_law_661 ?_
  refine v_callV C dL_law_662 vL_154 o1 c9 rfl (blt10 hd9) rfl ⟨Nat.ble_eq_true_of_le (by show z.1 + z'.1 ≤ 603072; omega), Nat.ble_eq_true_of_le (by show z.2 + z'.2 ≤ 7157866; omega)⟩ rfl rfl (fun _ => rfl) (fun h2 hp => ?_)
  dsimp only [Option.toList, List.cons_append, List.nil_append]
  refine v_istore C dL_law_665 rfl ?_
  dsimp only [sto1, sto2, killL]
  refine v_aload_n C dL_law_667 rfl ?_
  obtain ⟨u2, o2, t2, -⟩ := hp.o
  refine v_callV C dL_law_668 vL_122 o2 (k9_thrown o2) rfl rfl rfl ⟨Nat.ble_eq_true_of_le (by show z.1 + z'.1 ≤ 603072; omega), Nat.ble_eq_true_of_le (by show z.2 + z'.2 ≤ 7157866; omega)⟩ rfl rfl (fun _ => rfl) (fun h3 e3 => ?_)
  rw [show h3 = _ from e3]
  dsimp only [Option.toList, List.cons_append, List.nil_append]
  rw [t2]
  have J2 : JI2 h2 S' sv' Z' F' := ⟨hP1.top (fun j hj => hp.fr j (.inl (by omega))), ⟨_, hp.low (fun _ _ _ => rfl)⟩, f1, (hp.fr 88 (.inr (by decide))).trans hf1⟩
  refine v_iload C dL_law_671 rfl ?_
  refine v_icmp_eqN C dL_law_673 (tgt := 678) (by decide) (by omega) (by omega) (fun _ => ?_) (fun hne => absurd rfl hne)
  refine v_iload C dL_law_678 rfl ?_
  refine v_if_neN C dL_law_680 (tgt := 695) (by decide) (by omega) (fun _ => v_goto C dL_law_695 (tgt := 2096) (by decide) (v_forget _ _ _ _ _ _ _ _ (K h2 S' sv' Z' F' _ J2 ⟨by show z.1 + z'.1 ≤ z.1 + 1; omega, by show z.2 + z'.2 ≤ z.2 + 6; omega⟩))) (fun hr0 => ?_)
  refine v_aload_n C dL_law_683 rfl ?_
  refine v_iconst C dL_law_684 (v := nI 0) rfl ?_
  refine v_lald C dL_law_685 ((hp.fr 88 (.inr (by decide))).trans hf1) (by decide) rfl (j := 0) (by decide) (hy1 hr0) ?_
  refine v_iload C dL_law_686 rfl ?_
  refine v_i2l C dL_law_688 ?_
  refine v_lcmp C dL_law_689 ?_
  exact v_if_eq C dL_law_690 (tgt := 695) (by decide) (fun _ => v_goto C dL_law_695 (tgt := 2096) (by decide) (v_forget _ _ _ _ _ _ _ _ (K h2 S' sv' Z' F' _ J2 ⟨by show z.1 + z'.1 ≤ z.1 + 1; omega, by show z.2 + z'.2 ≤ z.2 + 6; omega⟩))) (fun hne => absurd (cmp_self _) hne)
theorem lc_mirror {X : CT} {o : Oc} {P : Wt → Hp → Prop} (C : Cx X mL_law [] 10 zL o P) {z : Nat × Nat} {w : Wt} {h : Hp} {N i : Nat} {xs : Nat → Int32} {S Z : Sc} {sv : Bool} {F : Sf} (hs : SC X w N xs) (hN : N ≤ 2560) (hi : i + 5 ≤ N) (hz : z.1 + 1 ≤ 603072 ∧ z.2 + 6 ≤ 7157866) (hJ : JI2 h S sv Z F) (K : ∀ h' S' sv' Z' F' z', JI2 h' S' sv' Z' F' → z'.1 ≤ z.1 + 1 ∧ z'.2 ≤ z.2 + 6 → V X z' w h' 2096 (LL i) []) : V X z w h 698 (LL i) [] := by
  obtain ⟨th, hR⟩ := hJ.2.1
  obtain ⟨f, hf⟩ := hJ.2.2
  obtain ⟨S', sv', Z', F', r, j8, j9⟩ := jd_mirror (w := w) (S := S) (sv := sv) (Z := Z) (F := F)
  obtain ⟨d8, P8, hd8, c8, q8⟩ := j8 h hJ.1
  refine v_aload_n C dL_law_698 rfl ?_
  refine v_callV C dL_law_699 vL_155 hJ.1.ob c8 rfl (blt10 hd8) rfl ⟨Nat.ble_eq_true_of_le (by show z.1 ≤ 603072; omega), Nat.ble_eq_true_of_le (by show z.2 ≤ 7157866; omega)⟩ rfl rfl (fun _ => rfl) (fun h1 p1 => ?_)
  dsimp only [Option.toList, List.cons_append, List.nil_append]
  have hP1 := q8 h1 p1
  have hR1 := hR.low (h' := h1) (fun j a b => hP1.gf j (by omega))
  obtain ⟨d9, hd9, c9⟩ := j9 h1 _ hR1
  obtain ⟨u1, o1, -⟩ := hR1.o
  refine v_aload_n C dL_law_702 rfl ?_
  refine v_callV C dL_law_703 vL_158 o1 c9 rfl (blt10 hd9) rfl ⟨Nat.ble_eq_true_of_le (by show z.1 ≤ 603072; omega), Nat.ble_eq_true_of_le (by show z.2 ≤ 7157866; omega)⟩ rfl rfl (fun _ => rfl) (fun h2 hp => ?_)
  dsimp only [Option.toList, List.cons_append, List.nil_append]
  exact v_icmp_eq C dL_law_706 (tgt := 2096) (by decide) (fun _ => K h2 S' sv' Z' F' _ ⟨hP1.top (fun j hj => hp.fr j (.inl (by omega))), ⟨_, hp.low (fun _ _ _ => rfl)⟩, f, (hp.fr 88 (.inr (by decide))).trans ((hP1.gf 88 (by decide)).trans hf)⟩ ⟨by omega, by omega⟩) (fun hne => absurd rfl hne)
theorem lc_complement {X : CT} {o : Oc} {P : Wt → Hp → Prop} (C : Cx X mL_law [] 10 zL o P) {z : Nat × Nat} {w : Wt} {h : Hp} {N i : Nat} {xs : Nat → Int32} {S Z : Sc} {sv : Bool} {F : Sf} (hs : SC X w N xs) (hN : N ≤ 2560) (hi : i + 5 ≤ N) (hz : z.1 + 1 ≤ 603072 ∧ z.2 + 6 ≤ 7157866) (hJ : JI2 h S sv Z F) (K : ∀ h' S' sv' Z' F' z', JI2 h' S' sv' Z' F' → z'.1 ≤ z.1 + 1 ∧ z'.2 ≤ z.2 + 6 → V X z' w h' 2096 (LL i) []) : V X z w h 711 (LL i) [] := by
  obtain ⟨th, hR⟩ := hJ.2.1
  obtain ⟨f, hf⟩ := hJ.2.2
  obtain ⟨S', sv', Z', F', r, j8, j9⟩ := jd_complement (w := w) (S := S) (sv := sv) (Z := Z) (F := F)
  obtain ⟨d8, P8, hd8, c8, q8⟩ := j8 h hJ.1
  refine v_aload_n C dL_law_711 rfl ?_
  refine v_callV C dL_law_712 vL_159 hJ.1.ob c8 rfl (blt10 hd8) rfl ⟨Nat.ble_eq_true_of_le (by show z.1 ≤ 603072; omega), Nat.ble_eq_true_of_le (by show z.2 ≤ 7157866; omega)⟩ rfl rfl (fun _ => rfl) (fun h1 p1 => ?_)
  dsimp only [Option.toList, List.cons_append, List.nil_append]
  have hP1 := q8 h1 p1
  have hR1 := hR.low (h' := h1) (fun j a b => hP1.gf j (by omega))
  obtain ⟨d9, hd9, c9⟩ := j9 h1 _ hR1
  obtain ⟨u1, o1, -⟩ := hR1.o
  refine v_aload_n C dL_law_715 rfl ?_
  refine v_callV C dL_law_716 vL_162 o1 c9 rfl (blt10 hd9) rfl ⟨Nat.ble_eq_true_of_le (by show z.1 ≤ 603072; omega), Nat.ble_eq_true_of_le (by show z.2 ≤ 7157866; omega)⟩ rfl rfl (fun _ => rfl) (fun h2 hp => ?_)
  dsimp only [Option.toList, List.cons_append, List.nil_append]
  exact v_icmp_eq C dL_law_719 (tgt := 2096) (by decide) (fun _ => K h2 S' sv' Z' F' _ ⟨hP1.top (fun j hj => hp.fr j (.inl (by omega))), ⟨_, hp.low (fun _ _ _ => rfl)⟩, f, (hp.fr 88 (.inr (by decide))).trans ((hP1.gf 88 (by decide)).trans hf)⟩ ⟨by omega, by omega⟩) (fun hne => absurd rfl hne)
theorem lc_leastNumber {X : CT} {o : Oc} {P : Wt → Hp → Prop} (C : Cx X mL_law [] 10 zL o P) {z : Nat × Nat} {w : Wt} {h : Hp} {N i : Nat} {xs : Nat → Int32} {S Z : Sc} {sv : Bool} {F : Sf} (hs : SC X w N xs) (hN : N ≤ 2560) (hi : i + 5 ≤ N) (hz : z.1 + 1 ≤ 603072 ∧ z.2 + 6 ≤ 7157866) (hJ : JI2 h S sv Z F) (K : ∀ h' S' sv' Z' F' z', JI2 h' S' sv' Z' F' → z'.1 ≤ z.1 + 1 ∧ z'.2 ≤ z.2 + 6 → V X z' w h' 2096 (LL i) []) : V X z w h 724 (LL i) [] := by
  obtain ⟨th, hR⟩ := hJ.2.1
  obtain ⟨f, hf⟩ := hJ.2.2
  obtain ⟨S', sv', Z', F', r, j8, j9⟩ := jd_leastNumber (w := w) (S := S) (sv := sv) (Z := Z) (F := F)
  obtain ⟨d8, P8, hd8, c8, q8⟩ := j8 h hJ.1
  refine v_aload_n C dL_law_724 rfl ?_
  refine v_callV C dL_law_725 vL_163 hJ.1.ob c8 rfl (blt10 hd8) rfl ⟨Nat.ble_eq_true_of_le (by show z.1 ≤ 603072; omega), Nat.ble_eq_true_of_le (by show z.2 ≤ 7157866; omega)⟩ rfl rfl (fun _ => rfl) (fun h1 p1 => ?_)
  dsimp only [Option.toList, List.cons_append, List.nil_append]
  have hP1 := q8 h1 p1
  have hR1 := hR.low (h' := h1) (fun j a b => hP1.gf j (by omega))
  obtain ⟨d9, hd9, c9⟩ := j9 h1 _ hR1
  obtain ⟨u1, o1, -⟩ := hR1.o
  refine v_aload_n C dL_law_728 rfl ?_
  refine v_callV C dL_law_729 vL_166 o1 c9 rfl (blt10 hd9) rfl ⟨Nat.ble_eq_true_of_le (by show z.1 ≤ 603072; omega), Nat.ble_eq_true_of_le (by show z.2 ≤ 7157866; omega)⟩ rfl rfl (fun _ => rfl) (fun h2 hp => ?_)
  dsimp only [Option.toList, List.cons_append, List.nil_append]
  refine v_lcmp C dL_law_732 ?_
  exact v_if_eq C dL_law_733 (tgt := 2096) (by decide) (fun _ => K h2 S' sv' Z' F' _ ⟨hP1.top (fun j hj => hp.fr j (.inl (by omega))), ⟨_, hp.low (fun _ _ _ => rfl)⟩, f, (hp.fr 88 (.inr (by decide))).trans ((hP1.gf 88 (by decide)).trans hf)⟩ ⟨by omega, by omega⟩) (fun hne => absurd (cmp_self _) hne)
theorem lc_compose {X : CT} {o : Oc} {P : Wt → Hp → Prop} (C : Cx X mL_law [] 10 zL o P) {z : Nat × Nat} {w : Wt} {h : Hp} {N i : Nat} {xs : Nat → Int32} {S Z : Sc} {sv : Bool} {F : Sf} (hs : SC X w N xs) (hN : N ≤ 2560) (hi : i + 5 ≤ N) (hz : z.1 + 1 ≤ 603072 ∧ z.2 + 6 ≤ 7157866) (hJ : JI2 h S sv Z F) (K : ∀ h' S' sv' Z' F' z', JI2 h' S' sv' Z' F' → z'.1 ≤ z.1 + 1 ∧ z'.2 ≤ z.2 + 6 → V X z' w h' 2096 (LL i) []) : V X z w h 738 (LL i) [] := by
  obtain ⟨th, hR⟩ := hJ.2.1
  obtain ⟨f, hf⟩ := hJ.2.2
  obtain ⟨S', sv', Z', F', o', z', r, y, j8, j9, hr4, hc⟩ := jm_compose hJ.oks (w := w) (S := S) (sv := sv) (Z := Z) (F := F) 
  obtain ⟨d8, P8, hd8, c8, q8⟩ := j8 h hJ.1
  have hz' : z'.1 ≤ 1 ∧ z'.2 ≤ 6 := by rcases hc with ⟨-, -, rfl⟩ | ⟨E, -, -, rfl⟩ <;> decide
  have hJO : JO rwL_compose o' z' r f P8 (RW h S' sv' Z' F' r y.toInt64) := by
    rcases hc with ⟨rfl, rfl, rfl⟩ | ⟨E, rfl, hE, rfl⟩
    · exact .inl ⟨y, rfl, rfl, rfl, fun h1 p1 => ⟨((q8 h1 p1).gf 88 (by decide)).trans hf, rw_ok (q8 h1 p1)⟩⟩
    · exact .inr ⟨E, rfl, rfl, hE, fun h1 p1 => rw_thr (q8 h1 p1) hf (fun e => by subst e; simp [rwL_compose] at hE)⟩
  have cw := xL_compose hJO hJ.1.ob hd8 c8
  refine v_aload_n C dL_law_738 rfl ?_
  refine v_aload_n C dL_law_739 rfl ?_
  refine v_callH C dL_law_740 kL_compose (tj4 12 (by rfl) rfl) cw rfl rfl rfl ⟨by show z.1 + z'.1 ≤ 603072; omega, by show z.2 + z'.2 ≤ 7157866; omega⟩ rfl rfl (fun _ => rfl) (fun h1 R1 => ?_)
  dsimp only [Option.toList, List.cons_append, List.nil_append]
  obtain ⟨hP1, fr1, f1, hf1, hy1⟩ := R1
  have hR1 := hR.low (h' := h1) (fun j a b => fr1 j (by omega) (by omega))
  obtain ⟨d9, hd9, c9⟩ := j9 h1 _ hR1
  obtain ⟨u1, o1, -⟩ := hR1.o
  refine v_istore C dL_law_743 rfl ?_
  dsimp only [sto1, sto2, killL]
  refine v_aload_n C dL_law_745 rfl ?_
  refine v_callV C dL_law_746 vL_169 o1 c9 rfl (blt10 hd9) rfl ⟨Nat.ble_eq_true_of_le (by show z.1 + z'.1 ≤ 603072; omega), Nat.ble_eq_true_of_le (by show z.2 + z'.2 ≤ 7157866; omega)⟩ rfl rfl (fun _ => rfl) (fun h2 hp => ?_)
  dsimp only [Option.toList, List.cons_append, List.nil_append]
  refine v_istore C dL_law_749 rfl ?_
  dsimp only [sto1, sto2, killL]
  refine v_aload_n C dL_law_751 rfl ?_
  obtain ⟨u2, o2, t2, -⟩ := hp.o
  refine v_callV C dL_law_752 vL_122 o2 (k9_thrown o2) rfl rfl rfl ⟨Nat.ble_eq_true_of_le (by show z.1 + z'.1 ≤ 603072; omega), Nat.ble_eq_true_of_le (by show z.2 + z'.2 ≤ 7157866; omega)⟩ rfl rfl (fun _ => rfl) (fun h3 e3 => ?_)
  rw [show h3 = _ from e3]
  dsimp only [Option.toList, List.cons_append, List.nil_append]
  rw [t2]
  have J2 : JI2 h2 S' sv' Z' F' := ⟨hP1.top (fun j hj => hp.fr j (.inl (by omega))), ⟨_, hp.low (fun _ _ _ => rfl)⟩, f1, (hp.fr 88 (.inr (by decide))).trans hf1⟩
  refine v_iload C dL_law_755 rfl ?_
  refine v_icmp_eqN C dL_law_757 (tgt := 762) (by decide) (by omega) (by omega) (fun _ => ?_) (fun hne => absurd rfl hne)
  refine v_iload C dL_law_762 rfl ?_
  refine v_if_neN C dL_law_764 (tgt := 779) (by decide) (by omega) (fun _ => v_goto C dL_law_779 (tgt := 2096) (by decide) (v_forget _ _ _ _ _ _ _ _ (K h2 S' sv' Z' F' _ J2 ⟨by show z.1 + z'.1 ≤ z.1 + 1; omega, by show z.2 + z'.2 ≤ z.2 + 6; omega⟩))) (fun hr0 => ?_)
  refine v_aload_n C dL_law_767 rfl ?_
  refine v_iconst C dL_law_768 (v := nI 0) rfl ?_
  refine v_lald C dL_law_769 ((hp.fr 88 (.inr (by decide))).trans hf1) (by decide) rfl (j := 0) (by decide) (hy1 hr0) ?_
  refine v_iload C dL_law_770 rfl ?_
  refine v_i2l C dL_law_772 ?_
  refine v_lcmp C dL_law_773 ?_
  exact v_if_eq C dL_law_774 (tgt := 779) (by decide) (fun _ => v_goto C dL_law_779 (tgt := 2096) (by decide) (v_forget _ _ _ _ _ _ _ _ (K h2 S' sv' Z' F' _ J2 ⟨by show z.1 + z'.1 ≤ z.1 + 1; omega, by show z.2 + z'.2 ≤ z.2 + 6; omega⟩))) (fun hne => absurd (cmp_self _) hne)
theorem lc_setWord {X : CT} {o : Oc} {P : Wt → Hp → Prop} (C : Cx X mL_law [] 10 zL o P) {z : Nat × Nat} {w : Wt} {h : Hp} {N i : Nat} {xs : Nat → Int32} {S Z : Sc} {sv : Bool} {F : Sf} (hs : SC X w N xs) (hN : N ≤ 2560) (hi : i + 5 ≤ N) (hz : z.1 + 1 ≤ 603072 ∧ z.2 + 6 ≤ 7157866) (hJ : JI2 h S sv Z F) (K : ∀ h' S' sv' Z' F' z', JI2 h' S' sv' Z' F' → z'.1 ≤ z.1 + 1 ∧ z'.2 ≤ z.2 + 6 → V X z' w h' 2096 (LL i) []) : V X z w h 782 (LL i) [] := by
  obtain ⟨th, hR⟩ := hJ.2.1
  obtain ⟨f, hf⟩ := hJ.2.2
  obtain ⟨S', sv', Z', F', o', z', r, y, j8, j9, hr4, hc⟩ := jm_setWord hJ.oks (w := w) (S := S) (sv := sv) (Z := Z) (F := F) (x := xs (i + 1)) (y := xs (i + 2)) (v := xs (i + 3))
  obtain ⟨d8, P8, hd8, c8, q8⟩ := j8 h hJ.1
  have hz' : z'.1 ≤ 1 ∧ z'.2 ≤ 6 := by rcases hc with ⟨-, -, rfl⟩ | ⟨E, -, -, rfl⟩ <;> decide
  have hJO : JO rwL_setWord o' z' r f P8 (RW h S' sv' Z' F' r y.toInt64) := by
    rcases hc with ⟨rfl, rfl, rfl⟩ | ⟨E, rfl, hE, rfl⟩
    · exact .inl ⟨y, rfl, rfl, rfl, fun h1 p1 => ⟨((q8 h1 p1).gf 88 (by decide)).trans hf, rw_ok (q8 h1 p1)⟩⟩
    · exact .inr ⟨E, rfl, rfl, hE, fun h1 p1 => rw_thr (q8 h1 p1) hf (fun e => by subst e; simp [rwL_setWord] at hE)⟩
  have cw := xL_setWord hJO hJ.1.ob hd8 c8
  refine v_aload_n C dL_law_782 rfl ?_
  refine v_aload_n C dL_law_783 rfl ?_
  refine v_iload C dL_law_784 rfl ?_
  refine v_iconst C dL_law_786 (v := nI 1) rfl ?_
  refine v_iaddN C dL_law_787 ?_
  refine v_sld C hs hN (by omega) dL_law_788 ?_
  refine v_aload_n C dL_law_789 rfl ?_
  refine v_iload C dL_law_790 rfl ?_
  refine v_iconst C dL_law_792 (v := nI 2) rfl ?_
  refine v_iaddN C dL_law_793 ?_
  refine v_sld C hs hN (by omega) dL_law_794 ?_
  refine v_aload_n C dL_law_795 rfl ?_
  refine v_iload C dL_law_796 rfl ?_
  refine v_iconst C dL_law_798 (v := nI 3) rfl ?_
  refine v_iaddN C dL_law_799 ?_
  refine v_sld C hs hN (by omega) dL_law_800 ?_
  refine v_aload_n C dL_law_801 rfl ?_
  refine v_callH C dL_law_802 kL_setWord (tj4 31 (by rfl) rfl) cw rfl rfl rfl ⟨by show z.1 + z'.1 ≤ 603072; omega, by show z.2 + z'.2 ≤ 7157866; omega⟩ rfl rfl (fun _ => rfl) (fun h1 R1 => ?_)
  dsimp only [Option.toList, List.cons_append, List.nil_append]
  obtain ⟨hP1, fr1, f1, hf1, hy1⟩ := R1
  have hR1 := hR.low (h' := h1) (fun j a b => fr1 j (by omega) (by omega))
  obtain ⟨d9, hd9, c9⟩ := j9 h1 _ hR1
  obtain ⟨u1, o1, -⟩ := hR1.o
  refine v_istore C dL_law_805 rfl ?_
  dsimp only [sto1, sto2, killL]
  refine v_aload_n C dL_law_807 rfl ?_
  refine v_aload_n C dL_law_808 rfl ?_
  refine v_iload C dL_law_809 rfl ?_
  refine v_iconst C dL_law_811 (v := nI 1) rfl ?_
  refine v_iaddN C dL_law_812 ?_
  refine v_sld C hs hN (by omega) dL_law_813 ?_
  refine v_aload_n C dL_law_814 rfl ?_
  refine v_iload C dL_law_815 rfl ?_
  refine v_iconst C dL_law_817 (v := nI 2) rfl ?_
  refine v_iaddN C dL_law_818 ?_
  refine v_sld C hs hN (by omega) dL_law_819 ?_
  refine v_aload_n C dL_law_820 rfl ?_
  refine v_iload C dL_law_821 rfl ?_
  refine v_iconst C dL_law_823 (v := nI 3) rfl ?_
  refine v_iaddN C dL_law_824 ?_
  refine v_sld C hs hN (by omega) dL_law_825 ?_
  refine v_callV C dL_law_826 vL_173 o1 c9 rfl (blt10 hd9) rfl ⟨Nat.ble_eq_true_of_le (by show z.1 + z'.1 ≤ 603072; omega), Nat.ble_eq_true_of_le (by show z.2 + z'.2 ≤ 7157866; omega)⟩ rfl rfl (fun _ => rfl) (fun h2 hp => ?_)
  dsimp only [Option.toList, List.cons_append, List.nil_append]
  refine v_istore C dL_law_829 rfl ?_
  dsimp only [sto1, sto2, killL]
  refine v_aload_n C dL_law_831 rfl ?_
  obtain ⟨u2, o2, t2, -⟩ := hp.o
  refine v_callV C dL_law_832 vL_122 o2 (k9_thrown o2) rfl rfl rfl ⟨Nat.ble_eq_true_of_le (by show z.1 + z'.1 ≤ 603072; omega), Nat.ble_eq_true_of_le (by show z.2 + z'.2 ≤ 7157866; omega)⟩ rfl rfl (fun _ => rfl) (fun h3 e3 => ?_)
  rw [show h3 = _ from e3]
  dsimp only [Option.toList, List.cons_append, List.nil_append]
  rw [t2]
  have J2 : JI2 h2 S' sv' Z' F' := ⟨hP1.top (fun j hj => hp.fr j (.inl (by omega))), ⟨_, hp.low (fun _ _ _ => rfl)⟩, f1, (hp.fr 88 (.inr (by decide))).trans hf1⟩
  refine v_iload C dL_law_835 rfl ?_
  refine v_icmp_eqN C dL_law_837 (tgt := 842) (by decide) (by omega) (by omega) (fun _ => ?_) (fun hne => absurd rfl hne)
  refine v_iload C dL_law_842 rfl ?_
  refine v_if_neN C dL_law_844 (tgt := 859) (by decide) (by omega) (fun _ => v_goto C dL_law_859 (tgt := 2096) (by decide) (v_forget _ _ _ _ _ _ _ _ (K h2 S' sv' Z' F' _ J2 ⟨by show z.1 + z'.1 ≤ z.1 + 1; omega, by show z.2 + z'.2 ≤ z.2 + 6; omega⟩))) (fun hr0 => ?_)
  refine v_aload_n C dL_law_847 rfl ?_
  refine v_iconst C dL_law_848 (v := nI 0) rfl ?_
  refine v_lald C dL_law_849 ((hp.fr 88 (.inr (by decide))).trans hf1) (by decide) rfl (j := 0) (by decide) (hy1 hr0) ?_
  refine v_iload C dL_law_850 rfl ?_
  refine v_i2l C dL_law_852 ?_
  refine v_lcmp C dL_law_853 ?_
  exact v_if_eq C dL_law_854 (tgt := 859) (by decide) (fun _ => v_goto C dL_law_859 (tgt := 2096) (by decide) (v_forget _ _ _ _ _ _ _ _ (K h2 S' sv' Z' F' _ J2 ⟨by show z.1 + z'.1 ≤ z.1 + 1; omega, by show z.2 + z'.2 ≤ z.2 + 6; omega⟩))) (fun hne => absurd (cmp_self _) hne)
theorem lc_wordLength {X : CT} {o : Oc} {P : Wt → Hp → Prop} (C : Cx X mL_law [] 10 zL o P) {z : Nat × Nat} {w : Wt} {h : Hp} {N i : Nat} {xs : Nat → Int32} {S Z : Sc} {sv : Bool} {F : Sf} (hs : SC X w N xs) (hN : N ≤ 2560) (hi : i + 5 ≤ N) (hz : z.1 + 1 ≤ 603072 ∧ z.2 + 6 ≤ 7157866) (hJ : JI2 h S sv Z F) (K : ∀ h' S' sv' Z' F' z', JI2 h' S' sv' Z' F' → z'.1 ≤ z.1 + 1 ∧ z'.2 ≤ z.2 + 6 → V X z' w h' 2096 (LL i) []) : V X z w h 862 (LL i) [] := by
  obtain ⟨th, hR⟩ := hJ.2.1
  obtain ⟨f, hf⟩ := hJ.2.2
  obtain ⟨S', sv', Z', F', o', z', r, y, j8, j9, hr4, hc⟩ := jm_wordLength (w := w) (S := S) (sv := sv) (Z := Z) (F := F) (x := xs (i + 1))
  obtain ⟨d8, P8, hd8, c8, q8⟩ := j8 h hJ.1
  have hz' : z'.1 ≤ 1 ∧ z'.2 ≤ 6 := by rcases hc with ⟨-, -, rfl⟩ | ⟨E, -, -, rfl⟩ <;> decide
  have hJO : JO rwL_wordLength o' z' r f P8 (RW h S' sv' Z' F' r y.toInt64) := by
    rcases hc with ⟨rfl, rfl, rfl⟩ | ⟨E, rfl, hE, rfl⟩
    · exact .inl ⟨y, rfl, rfl, rfl, fun h1 p1 => ⟨((q8 h1 p1).gf 88 (by decide)).trans hf, rw_ok (q8 h1 p1)⟩⟩
    · exact .inr ⟨E, rfl, rfl, hE, fun h1 p1 => rw_thr (q8 h1 p1) hf (fun e => by subst e; simp [rwL_wordLength] at hE)⟩
  have cw := xL_wordLength hJO hJ.1.ob hd8 c8
  refine v_aload_n C dL_law_862 rfl ?_
  refine v_aload_n C dL_law_863 rfl ?_
  refine v_iload C dL_law_864 rfl ?_
  refine v_iconst C dL_law_866 (v := nI 1) rfl ?_
  refine v_iaddN C dL_law_867 ?_
  refine v_sld C hs hN (by omega) dL_law_868 ?_
  refine v_aload_n C dL_law_869 rfl ?_
  refine v_callH C dL_law_870 kL_wordLength (tj4 48 (by rfl) rfl) cw rfl rfl rfl ⟨by show z.1 + z'.1 ≤ 603072; omega, by show z.2 + z'.2 ≤ 7157866; omega⟩ rfl rfl (fun _ => rfl) (fun h1 R1 => ?_)
  dsimp only [Option.toList, List.cons_append, List.nil_append]
  obtain ⟨hP1, fr1, f1, hf1, hy1⟩ := R1
  have hR1 := hR.low (h' := h1) (fun j a b => fr1 j (by omega) (by omega))
  obtain ⟨d9, hd9, c9⟩ := j9 h1 _ hR1
  obtain ⟨u1, o1, -⟩ := hR1.o
  refine v_istore C dL_law_873 rfl ?_
  dsimp only [sto1, sto2, killL]
  refine v_aload_n C dL_law_875 rfl ?_
  refine v_aload_n C dL_law_876 rfl ?_
  refine v_iload C dL_law_877 rfl ?_
  refine v_iconst C dL_law_879 (v := nI 1) rfl ?_
  refine v_iaddN C dL_law_880 ?_
  refine v_sld C hs hN (by omega) dL_law_881 ?_
  refine v_callV C dL_law_882 vL_176 o1 c9 rfl (blt10 hd9) rfl ⟨Nat.ble_eq_true_of_le (by show z.1 + z'.1 ≤ 603072; omega), Nat.ble_eq_true_of_le (by show z.2 + z'.2 ≤ 7157866; omega)⟩ rfl rfl (fun _ => rfl) (fun h2 hp => ?_)
  dsimp only [Option.toList, List.cons_append, List.nil_append]
  refine v_istore C dL_law_885 rfl ?_
  dsimp only [sto1, sto2, killL]
  refine v_aload_n C dL_law_887 rfl ?_
  obtain ⟨u2, o2, t2, -⟩ := hp.o
  refine v_callV C dL_law_888 vL_122 o2 (k9_thrown o2) rfl rfl rfl ⟨Nat.ble_eq_true_of_le (by show z.1 + z'.1 ≤ 603072; omega), Nat.ble_eq_true_of_le (by show z.2 + z'.2 ≤ 7157866; omega)⟩ rfl rfl (fun _ => rfl) (fun h3 e3 => ?_)
  rw [show h3 = _ from e3]
  dsimp only [Option.toList, List.cons_append, List.nil_append]
  rw [t2]
  have J2 : JI2 h2 S' sv' Z' F' := ⟨hP1.top (fun j hj => hp.fr j (.inl (by omega))), ⟨_, hp.low (fun _ _ _ => rfl)⟩, f1, (hp.fr 88 (.inr (by decide))).trans hf1⟩
  refine v_iload C dL_law_891 rfl ?_
  refine v_icmp_eqN C dL_law_893 (tgt := 898) (by decide) (by omega) (by omega) (fun _ => ?_) (fun hne => absurd rfl hne)
  refine v_iload C dL_law_898 rfl ?_
  refine v_if_neN C dL_law_900 (tgt := 915) (by decide) (by omega) (fun _ => v_goto C dL_law_915 (tgt := 2096) (by decide) (v_forget _ _ _ _ _ _ _ _ (K h2 S' sv' Z' F' _ J2 ⟨by show z.1 + z'.1 ≤ z.1 + 1; omega, by show z.2 + z'.2 ≤ z.2 + 6; omega⟩))) (fun hr0 => ?_)
  refine v_aload_n C dL_law_903 rfl ?_
  refine v_iconst C dL_law_904 (v := nI 0) rfl ?_
  refine v_lald C dL_law_905 ((hp.fr 88 (.inr (by decide))).trans hf1) (by decide) rfl (j := 0) (by decide) (hy1 hr0) ?_
  refine v_iload C dL_law_906 rfl ?_
  refine v_i2l C dL_law_908 ?_
  refine v_lcmp C dL_law_909 ?_
  exact v_if_eq C dL_law_910 (tgt := 915) (by decide) (fun _ => v_goto C dL_law_915 (tgt := 2096) (by decide) (v_forget _ _ _ _ _ _ _ _ (K h2 S' sv' Z' F' _ J2 ⟨by show z.1 + z'.1 ≤ z.1 + 1; omega, by show z.2 + z'.2 ≤ z.2 + 6; omega⟩))) (fun hne => absurd (cmp_self _) hne)
theorem lc_wordIndex {X : CT} {o : Oc} {P : Wt → Hp → Prop} (C : Cx X mL_law [] 10 zL o P) {z : Nat × Nat} {w : Wt} {h : Hp} {N i : Nat} {xs : Nat → Int32} {S Z : Sc} {sv : Bool} {F : Sf} (hs : SC X w N xs) (hN : N ≤ 2560) (hi : i + 5 ≤ N) (hz : z.1 + 1 ≤ 603072 ∧ z.2 + 6 ≤ 7157866) (hJ : JI2 h S sv Z F) (K : ∀ h' S' sv' Z' F' z', JI2 h' S' sv' Z' F' → z'.1 ≤ z.1 + 1 ∧ z'.2 ≤ z.2 + 6 → V X z' w h' 2096 (LL i) []) : V X z w h 918 (LL i) [] := by
  obtain ⟨th, hR⟩ := hJ.2.1
  obtain ⟨f, hf⟩ := hJ.2.2
  obtain ⟨S', sv', Z', F', o', z', r, y, j8, j9, hr4, hc⟩ := jm_wordIndex (w := w) (S := S) (sv := sv) (Z := Z) (F := F) (x := xs (i + 1))
  obtain ⟨d8, P8, hd8, c8, q8⟩ := j8 h hJ.1
  have hz' : z'.1 ≤ 1 ∧ z'.2 ≤ 6 := by rcases hc with ⟨-, -, rfl⟩ | ⟨E, -, -, rfl⟩ <;> decide
  have hJO : JO rwL_wordIndex o' z' r f P8 (RW h S' sv' Z' F' r y.toInt64) := by
    rcases hc with ⟨rfl, rfl, rfl⟩ | ⟨E, rfl, hE, rfl⟩
    · exact .inl ⟨y, rfl, rfl, rfl, fun h1 p1 => ⟨((q8 h1 p1).gf 88 (by decide)).trans hf, rw_ok (q8 h1 p1)⟩⟩
    · exact .inr ⟨E, rfl, rfl, hE, fun h1 p1 => rw_thr (q8 h1 p1) hf (fun e => by subst e; simp [rwL_wordIndex] at hE)⟩
  have cw := xL_wordIndex hJO hJ.1.ob hd8 c8
  refine v_aload_n C dL_law_918 rfl ?_
  refine v_aload_n C dL_law_919 rfl ?_
  refine v_iload C dL_law_920 rfl ?_
  refine v_iconst C dL_law_922 (v := nI 1) rfl ?_
  refine v_iaddN C dL_law_923 ?_
  refine v_sld C hs hN (by omega) dL_law_924 ?_
  refine v_aload_n C dL_law_925 rfl ?_
  refine v_callH C dL_law_926 kL_wordIndex (tj4 55 (by rfl) rfl) cw rfl rfl rfl ⟨by show z.1 + z'.1 ≤ 603072; omega, by show z.2 + z'.2 ≤ 7157866; omega⟩ rfl rfl (fun _ => rfl) (fun h1 R1 => ?_)
  dsimp only [Option.toList, List.cons_append, List.nil_append]
  obtain ⟨hP1, fr1, f1, hf1, hy1⟩ := R1
  have hR1 := hR.low (h' := h1) (fun j a b => fr1 j (by omega) (by omega))
  obtain ⟨d9, hd9, c9⟩ := j9 h1 _ hR1
  obtain ⟨u1, o1, -⟩ := hR1.o
  refine v_istore C dL_law_929 rfl ?_
  dsimp only [sto1, sto2, killL]
  refine v_aload_n C dL_law_931 rfl ?_
  refine v_aload_n C dL_law_932 rfl ?_
  refine v_iload C dL_law_933 rfl ?_
  refine v_iconst C dL_law_935 (v := nI 1) rfl ?_
  refine v_iaddN C dL_law_936 ?_
  refine v_sld C hs hN (by omega) dL_law_937 ?_
  refine v_callV C dL_law_938 vL_179 o1 c9 rfl (blt10 hd9) rfl ⟨Nat.ble_eq_true_of_le (by show z.1 + z'.1 ≤ 603072; omega), Nat.ble_eq_true_of_le (by show z.2 + z'.2 ≤ 7157866; omega)⟩ rfl rfl (fun _ => rfl) (fun h2 hp => ?_)
  dsimp only [Option.toList, List.cons_append, List.nil_append]
  refine v_istore C dL_law_941 rfl ?_
  dsimp only [sto1, sto2, killL]
  refine v_aload_n C dL_law_943 rfl ?_
  obtain ⟨u2, o2, t2, -⟩ := hp.o
  refine v_callV C dL_law_944 vL_122 o2 (k9_thrown o2) rfl rfl rfl ⟨Nat.ble_eq_true_of_le (by show z.1 + z'.1 ≤ 603072; omega), Nat.ble_eq_true_of_le (by show z.2 + z'.2 ≤ 7157866; omega)⟩ rfl rfl (fun _ => rfl) (fun h3 e3 => ?_)
  rw [show h3 = _ from e3]
  dsimp only [Option.toList, List.cons_append, List.nil_append]
  rw [t2]
  have J2 : JI2 h2 S' sv' Z' F' := ⟨hP1.top (fun j hj => hp.fr j (.inl (by omega))), ⟨_, hp.low (fun _ _ _ => rfl)⟩, f1, (hp.fr 88 (.inr (by decide))).trans hf1⟩
  refine v_iload C dL_law_947 rfl ?_
  refine v_icmp_eqN C dL_law_949 (tgt := 954) (by decide) (by omega) (by omega) (fun _ => ?_) (fun hne => absurd rfl hne)
  refine v_iload C dL_law_954 rfl ?_
  refine v_if_neN C dL_law_956 (tgt := 971) (by decide) (by omega) (fun _ => v_goto C dL_law_971 (tgt := 2096) (by decide) (v_forget _ _ _ _ _ _ _ _ (K h2 S' sv' Z' F' _ J2 ⟨by show z.1 + z'.1 ≤ z.1 + 1; omega, by show z.2 + z'.2 ≤ z.2 + 6; omega⟩))) (fun hr0 => ?_)
  refine v_aload_n C dL_law_959 rfl ?_
  refine v_iconst C dL_law_960 (v := nI 0) rfl ?_
  refine v_lald C dL_law_961 ((hp.fr 88 (.inr (by decide))).trans hf1) (by decide) rfl (j := 0) (by decide) (hy1 hr0) ?_
  refine v_iload C dL_law_962 rfl ?_
  refine v_i2l C dL_law_964 ?_
  refine v_lcmp C dL_law_965 ?_
  exact v_if_eq C dL_law_966 (tgt := 971) (by decide) (fun _ => v_goto C dL_law_971 (tgt := 2096) (by decide) (v_forget _ _ _ _ _ _ _ _ (K h2 S' sv' Z' F' _ J2 ⟨by show z.1 + z'.1 ≤ z.1 + 1; omega, by show z.2 + z'.2 ≤ z.2 + 6; omega⟩))) (fun hne => absurd (cmp_self _) hne)
theorem lc_cell {X : CT} {o : Oc} {P : Wt → Hp → Prop} (C : Cx X mL_law [] 10 zL o P) {z : Nat × Nat} {w : Wt} {h : Hp} {N i : Nat} {xs : Nat → Int32} {S Z : Sc} {sv : Bool} {F : Sf} (hs : SC X w N xs) (hN : N ≤ 2560) (hi : i + 5 ≤ N) (hz : z.1 + 1 ≤ 603072 ∧ z.2 + 6 ≤ 7157866) (hJ : JI2 h S sv Z F) (K : ∀ h' S' sv' Z' F' z', JI2 h' S' sv' Z' F' → z'.1 ≤ z.1 + 1 ∧ z'.2 ≤ z.2 + 6 → V X z' w h' 2096 (LL i) []) : V X z w h 974 (LL i) [] := by
  obtain ⟨th, hR⟩ := hJ.2.1
  obtain ⟨f, hf⟩ := hJ.2.2
  obtain ⟨S', sv', Z', F', o', z', r, y, j8, j9, hr4, hc⟩ := jm_cell hJ.oks (w := w) (S := S) (sv := sv) (Z := Z) (F := F) (x := xs (i + 1)) (y := xs (i + 2))
  obtain ⟨d8, P8, hd8, c8, q8⟩ := j8 h hJ.1
  have hz' : z'.1 ≤ 1 ∧ z'.2 ≤ 6 := by rcases hc with ⟨-, -, rfl⟩ | ⟨E, -, -, rfl⟩ <;> decide
  have hJO : JO rwL_cell o' z' r f P8 (RW h S' sv' Z' F' r y.toInt64) := by
    rcases hc with ⟨rfl, rfl, rfl⟩ | ⟨E, rfl, hE, rfl⟩
    · exact .inl ⟨y, rfl, rfl, rfl, fun h1 p1 => ⟨((q8 h1 p1).gf 88 (by decide)).trans hf, rw_ok (q8 h1 p1)⟩⟩
    · exact .inr ⟨E, rfl, rfl, hE, fun h1 p1 => rw_thr (q8 h1 p1) hf (fun e => by subst e; simp [rwL_cell] at hE)⟩
  have cw := xL_cell hJO hJ.1.ob hd8 c8
  refine v_aload_n C dL_law_974 rfl ?_
  refine v_aload_n C dL_law_975 rfl ?_
  refine v_iload C dL_law_976 rfl ?_
  refine v_iconst C dL_law_978 (v := nI 1) rfl ?_
  refine v_iaddN C dL_law_979 ?_
  refine v_sld C hs hN (by omega) dL_law_980 ?_
  refine v_aload_n C dL_law_981 rfl ?_
  refine v_iload C dL_law_982 rfl ?_
  refine v_iconst C dL_law_984 (v := nI 2) rfl ?_
  refine v_iaddN C dL_law_985 ?_
  refine v_sld C hs hN (by omega) dL_law_986 ?_
  refine v_aload_n C dL_law_987 rfl ?_
  refine v_callH C dL_law_988 kL_cell (tj4 62 (by rfl) rfl) cw rfl rfl rfl ⟨by show z.1 + z'.1 ≤ 603072; omega, by show z.2 + z'.2 ≤ 7157866; omega⟩ rfl rfl (fun _ => rfl) (fun h1 R1 => ?_)
  dsimp only [Option.toList, List.cons_append, List.nil_append]
  obtain ⟨hP1, fr1, f1, hf1, hy1⟩ := R1
  have hR1 := hR.low (h' := h1) (fun j a b => fr1 j (by omega) (by omega))
  obtain ⟨d9, hd9, c9⟩ := j9 h1 _ hR1
  obtain ⟨u1, o1, -⟩ := hR1.o
  refine v_istore C dL_law_991 rfl ?_
  dsimp only [sto1, sto2, killL]
  refine v_aload_n C dL_law_993 rfl ?_
  refine v_aload_n C dL_law_994 rfl ?_
  refine v_iload C dL_law_995 rfl ?_
  refine v_iconst C dL_law_997 (v := nI 1) rfl ?_
  refine v_iaddN C dL_law_998 ?_
  refine v_sld C hs hN (by omega) dL_law_999 ?_
  refine v_aload_n C dL_law_1000 rfl ?_
  refine v_iload C dL_law_1001 rfl ?_
  refine v_iconst C dL_law_1003 (v := nI 2) rfl ?_
  refine v_iaddN C dL_law_1004 ?_
  refine v_sld C hs hN (by omega) dL_law_1005 ?_
  refine v_callV C dL_law_1006 vL_182 o1 c9 rfl (blt10 hd9) rfl ⟨Nat.ble_eq_true_of_le (by show z.1 + z'.1 ≤ 603072; omega), Nat.ble_eq_true_of_le (by show z.2 + z'.2 ≤ 7157866; omega)⟩ rfl rfl (fun _ => rfl) (fun h2 hp => ?_)
  dsimp only [Option.toList, List.cons_append, List.nil_append]
  refine v_istore C dL_law_1009 rfl ?_
  dsimp only [sto1, sto2, killL]
  refine v_aload_n C dL_law_1011 rfl ?_
  obtain ⟨u2, o2, t2, -⟩ := hp.o
  refine v_callV C dL_law_1012 vL_122 o2 (k9_thrown o2) rfl rfl rfl ⟨Nat.ble_eq_true_of_le (by show z.1 + z'.1 ≤ 603072; omega), Nat.ble_eq_true_of_le (by show z.2 + z'.2 ≤ 7157866; omega)⟩ rfl rfl (fun _ => rfl) (fun h3 e3 => ?_)
  rw [show h3 = _ from e3]
  dsimp only [Option.toList, List.cons_append, List.nil_append]
  rw [t2]
  have J2 : JI2 h2 S' sv' Z' F' := ⟨hP1.top (fun j hj => hp.fr j (.inl (by omega))), ⟨_, hp.low (fun _ _ _ => rfl)⟩, f1, (hp.fr 88 (.inr (by decide))).trans hf1⟩
  refine v_iload C dL_law_1015 rfl ?_
  refine v_icmp_eqN C dL_law_1017 (tgt := 1022) (by decide) (by omega) (by omega) (fun _ => ?_) (fun hne => absurd rfl hne)
  refine v_iload C dL_law_1022 rfl ?_
  refine v_if_neN C dL_law_1024 (tgt := 1039) (by decide) (by omega) (fun _ => v_goto C dL_law_1039 (tgt := 2096) (by decide) (v_forget _ _ _ _ _ _ _ _ (K h2 S' sv' Z' F' _ J2 ⟨by show z.1 + z'.1 ≤ z.1 + 1; omega, by show z.2 + z'.2 ≤ z.2 + 6; omega⟩))) (fun hr0 => ?_)
  refine v_aload_n C dL_law_1027 rfl ?_
  refine v_iconst C dL_law_1028 (v := nI 0) rfl ?_
  refine v_lald C dL_law_1029 ((hp.fr 88 (.inr (by decide))).trans hf1) (by decide) rfl (j := 0) (by decide) (hy1 hr0) ?_
  refine v_iload C dL_law_1030 rfl ?_
  refine v_i2l C dL_law_1032 ?_
  refine v_lcmp C dL_law_1033 ?_
  exact v_if_eq C dL_law_1034 (tgt := 1039) (by decide) (fun _ => v_goto C dL_law_1039 (tgt := 2096) (by decide) (v_forget _ _ _ _ _ _ _ _ (K h2 S' sv' Z' F' _ J2 ⟨by show z.1 + z'.1 ≤ z.1 + 1; omega, by show z.2 + z'.2 ≤ z.2 + 6; omega⟩))) (fun hne => absurd (cmp_self _) hne)
theorem lc_apply {X : CT} {o : Oc} {P : Wt → Hp → Prop} (C : Cx X mL_law [] 10 zL o P) {z : Nat × Nat} {w : Wt} {h : Hp} {N i : Nat} {xs : Nat → Int32} {S Z : Sc} {sv : Bool} {F : Sf} (hs : SC X w N xs) (hN : N ≤ 2560) (hi : i + 5 ≤ N) (hz : z.1 + 1 ≤ 603072 ∧ z.2 + 6 ≤ 7157866) (hJ : JI2 h S sv Z F) (K : ∀ h' S' sv' Z' F' z', JI2 h' S' sv' Z' F' → z'.1 ≤ z.1 + 1 ∧ z'.2 ≤ z.2 + 6 → V X z' w h' 2096 (LL i) []) : V X z w h 1042 (LL i) [] := by
  obtain ⟨th, hR⟩ := hJ.2.1
  obtain ⟨f, hf⟩ := hJ.2.2
  obtain ⟨S', sv', Z', F', o', z', r, y, j8, j9, hr4, hc⟩ := jm_apply (w := w) (S := S) (sv := sv) (Z := Z) (F := F) (x := xs (i + 1)) (c := decide (xs (i + 2) ≠ 0))
  obtain ⟨d8, P8, hd8, c8, q8⟩ := j8 h hJ.1
  have hz' : z'.1 ≤ 1 ∧ z'.2 ≤ 6 := by rcases hc with ⟨-, -, rfl⟩ | ⟨E, -, -, rfl⟩ <;> decide
  have hJO : JO rwL_apply o' z' r f P8 (RW h S' sv' Z' F' r y.toInt64) := by
    rcases hc with ⟨rfl, rfl, rfl⟩ | ⟨E, rfl, hE, rfl⟩
    · exact .inl ⟨y, rfl, rfl, rfl, fun h1 p1 => ⟨((q8 h1 p1).gf 88 (by decide)).trans hf, rw_ok (q8 h1 p1)⟩⟩
    · exact .inr ⟨E, rfl, rfl, hE, fun h1 p1 => rw_thr (q8 h1 p1) hf (fun e => by subst e; simp [rwL_apply] at hE)⟩
  have cw := xL_apply hJO hJ.1.ob hd8 c8
  refine v_aload_n C dL_law_1042 rfl ?_
  refine v_aload_n C dL_law_1043 rfl ?_
  refine v_iload C dL_law_1044 rfl ?_
  refine v_iconst C dL_law_1046 (v := nI 1) rfl ?_
  refine v_iaddN C dL_law_1047 ?_
  refine v_sld C hs hN (by omega) dL_law_1048 ?_
  refine v_aload_n C dL_law_1049 rfl ?_
  refine v_iload C dL_law_1050 rfl ?_
  refine v_iconst C dL_law_1052 (v := nI 2) rfl ?_
  refine v_iaddN C dL_law_1053 ?_
  refine v_sld C hs hN (by omega) dL_law_1054 ?_
  refine v_bool C dL_law_1055 dL_law_1058 dL_law_1059 dL_law_1062 ?_
  refine v_aload_n C dL_law_1063 rfl ?_
  refine v_callH C dL_law_1064 kL_apply (tj4 74 (by rfl) rfl) cw rfl rfl rfl ⟨by show z.1 + z'.1 ≤ 603072; omega, by show z.2 + z'.2 ≤ 7157866; omega⟩ rfl rfl (fun _ => rfl) (fun h1 R1 => ?_)
  dsimp only [Option.toList, List.cons_append, List.nil_append]
  obtain ⟨hP1, fr1, f1, hf1, hy1⟩ := R1
  have hR1 := hR.low (h' := h1) (fun j a b => fr1 j (by omega) (by omega))
  obtain ⟨d9, hd9, c9⟩ := j9 h1 _ hR1
  obtain ⟨u1, o1, -⟩ := hR1.o
  refine v_istore C dL_law_1067 rfl ?_
  dsimp only [sto1, sto2, killL]
  refine v_aload_n C dL_law_1069 rfl ?_
  refine v_aload_n C dL_law_1070 rfl ?_
  refine v_iload C dL_law_1071 rfl ?_
  refine v_iconst C dL_law_1073 (v := nI 1) rfl ?_
  refine v_iaddN C dL_law_1074 ?_
  refine v_sld C hs hN (by omega) dL_law_1075 ?_
  refine v_aload_n C dL_law_1076 rfl ?_
  refine v_iload C dL_law_1077 rfl ?_
  refine v_iconst C dL_law_1079 (v := nI 2) rfl ?_
  refine v_iaddN C dL_law_1080 ?_
  refine v_sld C hs hN (by omega) dL_law_1081 ?_
  refine v_bool C dL_law_1082 dL_law_1085 dL_law_1086 dL_law_1089 ?_
  refine v_callV C dL_law_1090 vL_186 o1 c9 rfl (blt10 hd9) rfl ⟨Nat.ble_eq_true_of_le (by show z.1 + z'.1 ≤ 603072; omega), Nat.ble_eq_true_of_le (by show z.2 + z'.2 ≤ 7157866; omega)⟩ rfl rfl (fun _ => rfl) (fun h2 hp => ?_)
  dsimp only [Option.toList, List.cons_append, List.nil_append]
  refine v_istore C dL_law_1093 rfl ?_
  dsimp only [sto1, sto2, killL]
  refine v_aload_n C dL_law_1095 rfl ?_
  obtain ⟨u2, o2, t2, -⟩ := hp.o
  refine v_callV C dL_law_1096 vL_122 o2 (k9_thrown o2) rfl rfl rfl ⟨Nat.ble_eq_true_of_le (by show z.1 + z'.1 ≤ 603072; omega), Nat.ble_eq_true_of_le (by show z.2 + z'.2 ≤ 7157866; omega)⟩ rfl rfl (fun _ => rfl) (fun h3 e3 => ?_)
  rw [show h3 = _ from e3]
  dsimp only [Option.toList, List.cons_append, List.nil_append]
  rw [t2]
  have J2 : JI2 h2 S' sv' Z' F' := ⟨hP1.top (fun j hj => hp.fr j (.inl (by omega))), ⟨_, hp.low (fun _ _ _ => rfl)⟩, f1, (hp.fr 88 (.inr (by decide))).trans hf1⟩
  refine v_iload C dL_law_1099 rfl ?_
  refine v_icmp_eqN C dL_law_1101 (tgt := 1106) (by decide) (by omega) (by omega) (fun _ => ?_) (fun hne => absurd rfl hne)
  refine v_iload C dL_law_1106 rfl ?_
  refine v_if_neN C dL_law_1108 (tgt := 1123) (by decide) (by omega) (fun _ => v_goto C dL_law_1123 (tgt := 2096) (by decide) (v_forget _ _ _ _ _ _ _ _ (K h2 S' sv' Z' F' _ J2 ⟨by show z.1 + z'.1 ≤ z.1 + 1; omega, by show z.2 + z'.2 ≤ z.2 + 6; omega⟩))) (fun hr0 => ?_)
  refine v_aload_n C dL_law_1111 rfl ?_
  refine v_iconst C dL_law_1112 (v := nI 0) rfl ?_
  refine v_lald C dL_law_1113 ((hp.fr 88 (.inr (by decide))).trans hf1) (by decide) rfl (j := 0) (by decide) (hy1 hr0) ?_
  refine v_iload C dL_law_1114 rfl ?_
  refine v_i2l C dL_law_1116 ?_
  refine v_lcmp C dL_law_1117 ?_
  exact v_if_eq C dL_law_1118 (tgt := 1123) (by decide) (fun _ => v_goto C dL_law_1123 (tgt := 2096) (by decide) (v_forget _ _ _ _ _ _ _ _ (K h2 S' sv' Z' F' _ J2 ⟨by show z.1 + z'.1 ≤ z.1 + 1; omega, by show z.2 + z'.2 ≤ z.2 + 6; omega⟩))) (fun hne => absurd (cmp_self _) hne)
theorem lc_orbit {X : CT} {o : Oc} {P : Wt → Hp → Prop} (C : Cx X mL_law [] 10 zL o P) {z : Nat × Nat} {w : Wt} {h : Hp} {N i : Nat} {xs : Nat → Int32} {S Z : Sc} {sv : Bool} {F : Sf} (hs : SC X w N xs) (hN : N ≤ 2560) (hi : i + 5 ≤ N) (hz : z.1 + 1 ≤ 603072 ∧ z.2 + 6 ≤ 7157866) (hJ : JI2 h S sv Z F) (K : ∀ h' S' sv' Z' F' z', JI2 h' S' sv' Z' F' → z'.1 ≤ z.1 + 1 ∧ z'.2 ≤ z.2 + 6 → V X z' w h' 2096 (LL i) []) : V X z w h 1126 (LL i) [] := by
  obtain ⟨th, hR⟩ := hJ.2.1
  obtain ⟨f, hf⟩ := hJ.2.2
  obtain ⟨S', sv', Z', F', o', z', r, y, j8, j9, hr4, hc⟩ := jm_orbit hJ.oks (w := w) (S := S) (sv := sv) (Z := Z) (F := F) (x := xs (i + 1)) (y := xs (i + 2))
  obtain ⟨d8, P8, hd8, c8, q8⟩ := j8 h hJ.1
  have hz' : z'.1 ≤ 1 ∧ z'.2 ≤ 6 := by rcases hc with ⟨-, -, rfl⟩ | ⟨E, -, -, rfl⟩ <;> decide
  have hJO : JO rwL_orbit o' z' r f P8 (RW h S' sv' Z' F' r y.toInt64) := by
    rcases hc with ⟨rfl, rfl, rfl⟩ | ⟨E, rfl, hE, rfl⟩
    · exact .inl ⟨y, rfl, rfl, rfl, fun h1 p1 => ⟨((q8 h1 p1).gf 88 (by decide)).trans hf, rw_ok (q8 h1 p1)⟩⟩
    · exact .inr ⟨E, rfl, rfl, hE, fun h1 p1 => rw_thr (q8 h1 p1) hf (fun e => by subst e; simp [rwL_orbit] at hE)⟩
  have cw := xL_orbit hJO hJ.1.ob hd8 c8
  refine v_aload_n C dL_law_1126 rfl ?_
  refine v_aload_n C dL_law_1127 rfl ?_
  refine v_iload C dL_law_1128 rfl ?_
  refine v_iconst C dL_law_1130 (v := nI 1) rfl ?_
  refine v_iaddN C dL_law_1131 ?_
  refine v_sld C hs hN (by omega) dL_law_1132 ?_
  refine v_aload_n C dL_law_1133 rfl ?_
  refine v_iload C dL_law_1134 rfl ?_
  refine v_iconst C dL_law_1136 (v := nI 2) rfl ?_
  refine v_iaddN C dL_law_1137 ?_
  refine v_sld C hs hN (by omega) dL_law_1138 ?_
  refine v_aload_n C dL_law_1139 rfl ?_
  refine v_callH C dL_law_1140 kL_orbit (tj4 86 (by rfl) rfl) cw rfl rfl rfl ⟨by show z.1 + z'.1 ≤ 603072; omega, by show z.2 + z'.2 ≤ 7157866; omega⟩ rfl rfl (fun _ => rfl) (fun h1 R1 => ?_)
  dsimp only [Option.toList, List.cons_append, List.nil_append]
  obtain ⟨hP1, fr1, f1, hf1, hy1⟩ := R1
  have hR1 := hR.low (h' := h1) (fun j a b => fr1 j (by omega) (by omega))
  obtain ⟨d9, hd9, c9⟩ := j9 h1 _ hR1
  obtain ⟨u1, o1, -⟩ := hR1.o
  refine v_istore C dL_law_1143 rfl ?_
  dsimp only [sto1, sto2, killL]
  refine v_aload_n C dL_law_1145 rfl ?_
  refine v_aload_n C dL_law_1146 rfl ?_
  refine v_iload C dL_law_1147 rfl ?_
  refine v_iconst C dL_law_1149 (v := nI 1) rfl ?_
  refine v_iaddN C dL_law_1150 ?_
  refine v_sld C hs hN (by omega) dL_law_1151 ?_
  refine v_aload_n C dL_law_1152 rfl ?_
  refine v_iload C dL_law_1153 rfl ?_
  refine v_iconst C dL_law_1155 (v := nI 2) rfl ?_
  refine v_iaddN C dL_law_1156 ?_
  refine v_sld C hs hN (by omega) dL_law_1157 ?_
  refine v_callV C dL_law_1158 vL_189 o1 c9 rfl (blt10 hd9) rfl ⟨Nat.ble_eq_true_of_le (by show z.1 + z'.1 ≤ 603072; omega), Nat.ble_eq_true_of_le (by show z.2 + z'.2 ≤ 7157866; omega)⟩ rfl rfl (fun _ => rfl) (fun h2 hp => ?_)
  dsimp only [Option.toList, List.cons_append, List.nil_append]
  refine v_istore C dL_law_1161 rfl ?_
  dsimp only [sto1, sto2, killL]
  refine v_aload_n C dL_law_1163 rfl ?_
  obtain ⟨u2, o2, t2, -⟩ := hp.o
  refine v_callV C dL_law_1164 vL_122 o2 (k9_thrown o2) rfl rfl rfl ⟨Nat.ble_eq_true_of_le (by show z.1 + z'.1 ≤ 603072; omega), Nat.ble_eq_true_of_le (by show z.2 + z'.2 ≤ 7157866; omega)⟩ rfl rfl (fun _ => rfl) (fun h3 e3 => ?_)
  rw [show h3 = _ from e3]
  dsimp only [Option.toList, List.cons_append, List.nil_append]
  rw [t2]
  have J2 : JI2 h2 S' sv' Z' F' := ⟨hP1.top (fun j hj => hp.fr j (.inl (by omega))), ⟨_, hp.low (fun _ _ _ => rfl)⟩, f1, (hp.fr 88 (.inr (by decide))).trans hf1⟩
  refine v_iload C dL_law_1167 rfl ?_
  refine v_icmp_eqN C dL_law_1169 (tgt := 1174) (by decide) (by omega) (by omega) (fun _ => ?_) (fun hne => absurd rfl hne)
  refine v_iload C dL_law_1174 rfl ?_
  refine v_if_neN C dL_law_1176 (tgt := 1191) (by decide) (by omega) (fun _ => v_goto C dL_law_1191 (tgt := 2096) (by decide) (v_forget _ _ _ _ _ _ _ _ (K h2 S' sv' Z' F' _ J2 ⟨by show z.1 + z'.1 ≤ z.1 + 1; omega, by show z.2 + z'.2 ≤ z.2 + 6; omega⟩))) (fun hr0 => ?_)
  refine v_aload_n C dL_law_1179 rfl ?_
  refine v_iconst C dL_law_1180 (v := nI 0) rfl ?_
  refine v_lald C dL_law_1181 ((hp.fr 88 (.inr (by decide))).trans hf1) (by decide) rfl (j := 0) (by decide) (hy1 hr0) ?_
  refine v_iload C dL_law_1182 rfl ?_
  refine v_i2l C dL_law_1184 ?_
  refine v_lcmp C dL_law_1185 ?_
  exact v_if_eq C dL_law_1186 (tgt := 1191) (by decide) (fun _ => v_goto C dL_law_1191 (tgt := 2096) (by decide) (v_forget _ _ _ _ _ _ _ _ (K h2 S' sv' Z' F' _ J2 ⟨by show z.1 + z'.1 ≤ z.1 + 1; omega, by show z.2 + z'.2 ≤ z.2 + 6; omega⟩))) (fun hne => absurd (cmp_self _) hne)
theorem lc_preimageCount {X : CT} {o : Oc} {P : Wt → Hp → Prop} (C : Cx X mL_law [] 10 zL o P) {z : Nat × Nat} {w : Wt} {h : Hp} {N i : Nat} {xs : Nat → Int32} {S Z : Sc} {sv : Bool} {F : Sf} (hs : SC X w N xs) (hN : N ≤ 2560) (hi : i + 5 ≤ N) (hz : z.1 + 1 ≤ 603072 ∧ z.2 + 6 ≤ 7157866) (hJ : JI2 h S sv Z F) (K : ∀ h' S' sv' Z' F' z', JI2 h' S' sv' Z' F' → z'.1 ≤ z.1 + 1 ∧ z'.2 ≤ z.2 + 6 → V X z' w h' 2096 (LL i) []) : V X z w h 1194 (LL i) [] := by
  obtain ⟨th, hR⟩ := hJ.2.1
  obtain ⟨f, hf⟩ := hJ.2.2
  obtain ⟨S', sv', Z', F', o', z', r, y, j8, j9, hr4, hc⟩ := jm_preimageCount (w := w) (S := S) (sv := sv) (Z := Z) (F := F) (x := xs (i + 1)) (c := decide (xs (i + 2) ≠ 0))
  obtain ⟨d8, P8, hd8, c8, q8⟩ := j8 h hJ.1
  have hz' : z'.1 ≤ 1 ∧ z'.2 ≤ 6 := by rcases hc with ⟨-, -, rfl⟩ | ⟨E, -, -, rfl⟩ <;> decide
  have hJO : JO rwL_preimageCount o' z' r f P8 (RW h S' sv' Z' F' r y.toInt64) := by
    rcases hc with ⟨rfl, rfl, rfl⟩ | ⟨E, rfl, hE, rfl⟩
    · exact .inl ⟨y, rfl, rfl, rfl, fun h1 p1 => ⟨((q8 h1 p1).gf 88 (by decide)).trans hf, rw_ok (q8 h1 p1)⟩⟩
    · exact .inr ⟨E, rfl, rfl, hE, fun h1 p1 => rw_thr (q8 h1 p1) hf (fun e => by subst e; simp [rwL_preimageCount] at hE)⟩
  have cw := xL_preimageCount hJO hJ.1.ob hd8 c8
  refine v_aload_n C dL_law_1194 rfl ?_
  refine v_aload_n C dL_law_1195 rfl ?_
  refine v_iload C dL_law_1196 rfl ?_
  refine v_iconst C dL_law_1198 (v := nI 1) rfl ?_
  refine v_iaddN C dL_law_1199 ?_
  refine v_sld C hs hN (by omega) dL_law_1200 ?_
  refine v_aload_n C dL_law_1201 rfl ?_
  refine v_iload C dL_law_1202 rfl ?_
  refine v_iconst C dL_law_1204 (v := nI 2) rfl ?_
  refine v_iaddN C dL_law_1205 ?_
  refine v_sld C hs hN (by omega) dL_law_1206 ?_
  refine v_bool C dL_law_1207 dL_law_1210 dL_law_1211 dL_law_1214 ?_
  refine v_aload_n C dL_law_1215 rfl ?_
  refine v_callH C dL_law_1216 kL_preimageCount (tj5 107 (by rfl) rfl) cw rfl rfl rfl ⟨by show z.1 + z'.1 ≤ 603072; omega, by show z.2 + z'.2 ≤ 7157866; omega⟩ rfl rfl (fun _ => rfl) (fun h1 R1 => ?_)
  dsimp only [Option.toList, List.cons_append, List.nil_append]
  obtain ⟨hP1, fr1, f1, hf1, hy1⟩ := R1
  have hR1 := hR.low (h' := h1) (fun j a b => fr1 j (by omega) (by omega))
  obtain ⟨d9, hd9, c9⟩ := j9 h1 _ hR1
  obtain ⟨u1, o1, -⟩ := hR1.o
  refine v_istore C dL_law_1219 rfl ?_
  dsimp only [sto1, sto2, killL]
  refine v_aload_n C dL_law_1221 rfl ?_
  refine v_aload_n C dL_law_1222 rfl ?_
  refine v_iload C dL_law_1223 rfl ?_
  refine v_iconst C dL_law_1225 (v := nI 1) rfl ?_
  refine v_iaddN C dL_law_1226 ?_
  refine v_sld C hs hN (by omega) dL_law_1227 ?_
  refine v_aload_n C dL_law_1228 rfl ?_
  refine v_iload C dL_law_1229 rfl ?_
  refine v_iconst C dL_law_1231 (v := nI 2) rfl ?_
  refine v_iaddN C dL_law_1232 ?_
  refine v_sld C hs hN (by omega) dL_law_1233 ?_
  refine v_bool C dL_law_1234 dL_law_1237 dL_law_1238 dL_law_1241 ?_
  refine v_callV C dL_law_1242 vL_192 o1 c9 rfl (blt10 hd9) rfl ⟨Nat.ble_eq_true_of_le (by show z.1 + z'.1 ≤ 603072; omega), Nat.ble_eq_true_of_le (by show z.2 + z'.2 ≤ 7157866; omega)⟩ rfl rfl (fun _ => rfl) (fun h2 hp => ?_)
  dsimp only [Option.toList, List.cons_append, List.nil_append]
  refine v_istore C dL_law_1245 rfl ?_
  dsimp only [sto1, sto2, killL]
  refine v_aload_n C dL_law_1247 rfl ?_
  obtain ⟨u2, o2, t2, -⟩ := hp.o
  refine v_callV C dL_law_1248 vL_122 o2 (k9_thrown o2) rfl rfl rfl ⟨Nat.ble_eq_true_of_le (by show z.1 + z'.1 ≤ 603072; omega), Nat.ble_eq_true_of_le (by show z.2 + z'.2 ≤ 7157866; omega)⟩ rfl rfl (fun _ => rfl) (fun h3 e3 => ?_)
  rw [show h3 = _ from e3]
  dsimp only [Option.toList, List.cons_append, List.nil_append]
  rw [t2]
  have J2 : JI2 h2 S' sv' Z' F' := ⟨hP1.top (fun j hj => hp.fr j (.inl (by omega))), ⟨_, hp.low (fun _ _ _ => rfl)⟩, f1, (hp.fr 88 (.inr (by decide))).trans hf1⟩
  refine v_iload C dL_law_1251 rfl ?_
  refine v_icmp_eqN C dL_law_1253 (tgt := 1258) (by decide) (by omega) (by omega) (fun _ => ?_) (fun hne => absurd rfl hne)
  refine v_iload C dL_law_1258 rfl ?_
  refine v_if_neN C dL_law_1260 (tgt := 1275) (by decide) (by omega) (fun _ => v_goto C dL_law_1275 (tgt := 2096) (by decide) (v_forget _ _ _ _ _ _ _ _ (K h2 S' sv' Z' F' _ J2 ⟨by show z.1 + z'.1 ≤ z.1 + 1; omega, by show z.2 + z'.2 ≤ z.2 + 6; omega⟩))) (fun hr0 => ?_)
  refine v_aload_n C dL_law_1263 rfl ?_
  refine v_iconst C dL_law_1264 (v := nI 0) rfl ?_
  refine v_lald C dL_law_1265 ((hp.fr 88 (.inr (by decide))).trans hf1) (by decide) rfl (j := 0) (by decide) (hy1 hr0) ?_
  refine v_iload C dL_law_1266 rfl ?_
  refine v_i2l C dL_law_1268 ?_
  refine v_lcmp C dL_law_1269 ?_
  exact v_if_eq C dL_law_1270 (tgt := 1275) (by decide) (fun _ => v_goto C dL_law_1275 (tgt := 2096) (by decide) (v_forget _ _ _ _ _ _ _ _ (K h2 S' sv' Z' F' _ J2 ⟨by show z.1 + z'.1 ≤ z.1 + 1; omega, by show z.2 + z'.2 ≤ z.2 + 6; omega⟩))) (fun hne => absurd (cmp_self _) hne)
theorem lc_preimage {X : CT} {o : Oc} {P : Wt → Hp → Prop} (C : Cx X mL_law [] 10 zL o P) {z : Nat × Nat} {w : Wt} {h : Hp} {N i : Nat} {xs : Nat → Int32} {S Z : Sc} {sv : Bool} {F : Sf} (hs : SC X w N xs) (hN : N ≤ 2560) (hi : i + 5 ≤ N) (hz : z.1 + 1 ≤ 603072 ∧ z.2 + 6 ≤ 7157866) (hJ : JI2 h S sv Z F) (K : ∀ h' S' sv' Z' F' z', JI2 h' S' sv' Z' F' → z'.1 ≤ z.1 + 1 ∧ z'.2 ≤ z.2 + 6 → V X z' w h' 2096 (LL i) []) : V X z w h 1278 (LL i) [] := by
  obtain ⟨th, hR⟩ := hJ.2.1
  obtain ⟨f, hf⟩ := hJ.2.2
  obtain ⟨S', sv', Z', F', o', z', r, y, j8, j9, hr4, hc⟩ := jm_preimage hJ.oks (w := w) (S := S) (sv := sv) (Z := Z) (F := F) (x := xs (i + 1)) (c := decide (xs (i + 2) ≠ 0)) (y := xs (i + 3)) (v := xs (i + 4))
  obtain ⟨d8, P8, hd8, c8, q8⟩ := j8 h hJ.1
  have hz' : z'.1 ≤ 1 ∧ z'.2 ≤ 6 := by rcases hc with ⟨-, -, rfl⟩ | ⟨E, -, -, rfl⟩ <;> decide
  have hJO : JO rwL_preimage o' z' r f P8 (RW h S' sv' Z' F' r y.toInt64) := by
    rcases hc with ⟨rfl, rfl, rfl⟩ | ⟨E, rfl, hE, rfl⟩
    · exact .inl ⟨y, rfl, rfl, rfl, fun h1 p1 => ⟨((q8 h1 p1).gf 88 (by decide)).trans hf, rw_ok (q8 h1 p1)⟩⟩
    · exact .inr ⟨E, rfl, rfl, hE, fun h1 p1 => rw_thr (q8 h1 p1) hf (fun e => by subst e; simp [rwL_preimage] at hE)⟩
  have cw := xL_preimage hJO hJ.1.ob hd8 c8
  refine v_aload_n C dL_law_1278 rfl ?_
  refine v_aload_n C dL_law_1279 rfl ?_
  refine v_iload C dL_law_1280 rfl ?_
  refine v_iconst C dL_law_1282 (v := nI 1) rfl ?_
  refine v_iaddN C dL_law_1283 ?_
  refine v_sld C hs hN (by omega) dL_law_1284 ?_
  refine v_aload_n C dL_law_1285 rfl ?_
  refine v_iload C dL_law_1286 rfl ?_
  refine v_iconst C dL_law_1288 (v := nI 2) rfl ?_
  refine v_iaddN C dL_law_1289 ?_
  refine v_sld C hs hN (by omega) dL_law_1290 ?_
  refine v_bool C dL_law_1291 dL_law_1294 dL_law_1295 dL_law_1298 ?_
  refine v_aload_n C dL_law_1299 rfl ?_
  refine v_iload C dL_law_1300 rfl ?_
  refine v_iconst C dL_law_1302 (v := nI 3) rfl ?_
  refine v_iaddN C dL_law_1303 ?_
  refine v_sld C hs hN (by omega) dL_law_1304 ?_
  refine v_aload_n C dL_law_1305 rfl ?_
  refine v_iload C dL_law_1306 rfl ?_
  refine v_iconst C dL_law_1308 (v := nI 4) rfl ?_
  refine v_iaddN C dL_law_1309 ?_
  refine v_sld C hs hN (by omega) dL_law_1310 ?_
  refine v_aload_n C dL_law_1311 rfl ?_
  refine v_callH C dL_law_1312 kL_preimage (tj5 155 (by rfl) rfl) cw rfl rfl rfl ⟨by show z.1 + z'.1 ≤ 603072; omega, by show z.2 + z'.2 ≤ 7157866; omega⟩ rfl rfl (fun _ => rfl) (fun h1 R1 => ?_)
  dsimp only [Option.toList, List.cons_append, List.nil_append]
  obtain ⟨hP1, fr1, f1, hf1, hy1⟩ := R1
  have hR1 := hR.low (h' := h1) (fun j a b => fr1 j (by omega) (by omega))
  obtain ⟨d9, hd9, c9⟩ := j9 h1 _ hR1
  obtain ⟨u1, o1, -⟩ := hR1.o
  refine v_istore C dL_law_1315 rfl ?_
  dsimp only [sto1, sto2, killL]
  refine v_aload_n C dL_law_1317 rfl ?_
  refine v_aload_n C dL_law_1318 rfl ?_
  refine v_iload C dL_law_1319 rfl ?_
  refine v_iconst C dL_law_1321 (v := nI 1) rfl ?_
  refine v_iaddN C dL_law_1322 ?_
  refine v_sld C hs hN (by omega) dL_law_1323 ?_
  refine v_aload_n C dL_law_1324 rfl ?_
  refine v_iload C dL_law_1325 rfl ?_
  refine v_iconst C dL_law_1327 (v := nI 2) rfl ?_
  refine v_iaddN C dL_law_1328 ?_
  refine v_sld C hs hN (by omega) dL_law_1329 ?_
  refine v_bool C dL_law_1330 dL_law_1333 dL_law_1334 dL_law_1337 ?_
  refine v_aload_n C dL_law_1338 rfl ?_
  refine v_iload C dL_law_1339 rfl ?_
  refine v_iconst C dL_law_1341 (v := nI 3) rfl ?_
  refine v_iaddN C dL_law_1342 ?_
  refine v_sld C hs hN (by omega) dL_law_1343 ?_
  refine v_aload_n C dL_law_1344 rfl ?_
  refine v_iload C dL_law_1345 rfl ?_
  refine v_iconst C dL_law_1347 (v := nI 4) rfl ?_
  refine v_iaddN C dL_law_1348 ?_
  refine v_sld C hs hN (by omega) dL_law_1349 ?_
  refine v_callV C dL_law_1350 vL_196 o1 c9 rfl (blt10 hd9) rfl ⟨Nat.ble_eq_true_of_le (by show z.1 + z'.1 ≤ 603072; omega), Nat.ble_eq_true_of_le (by show z.2 + z'.2 ≤ 7157866; omega)⟩ rfl rfl (fun _ => rfl) (fun h2 hp => ?_)
  dsimp only [Option.toList, List.cons_append, List.nil_append]
  refine v_istore C dL_law_1353 rfl ?_
  dsimp only [sto1, sto2, killL]
  refine v_aload_n C dL_law_1355 rfl ?_
  obtain ⟨u2, o2, t2, -⟩ := hp.o
  refine v_callV C dL_law_1356 vL_122 o2 (k9_thrown o2) rfl rfl rfl ⟨Nat.ble_eq_true_of_le (by show z.1 + z'.1 ≤ 603072; omega), Nat.ble_eq_true_of_le (by show z.2 + z'.2 ≤ 7157866; omega)⟩ rfl rfl (fun _ => rfl) (fun h3 e3 => ?_)
  rw [show h3 = _ from e3]
  dsimp only [Option.toList, List.cons_append, List.nil_append]
  rw [t2]
  have J2 : JI2 h2 S' sv' Z' F' := ⟨hP1.top (fun j hj => hp.fr j (.inl (by omega))), ⟨_, hp.low (fun _ _ _ => rfl)⟩, f1, (hp.fr 88 (.inr (by decide))).trans hf1⟩
  refine v_iload C dL_law_1359 rfl ?_
  refine v_icmp_eqN C dL_law_1361 (tgt := 1366) (by decide) (by omega) (by omega) (fun _ => ?_) (fun hne => absurd rfl hne)
  refine v_iload C dL_law_1366 rfl ?_
  refine v_if_neN C dL_law_1368 (tgt := 1383) (by decide) (by omega) (fun _ => v_goto C dL_law_1383 (tgt := 2096) (by decide) (v_forget _ _ _ _ _ _ _ _ (K h2 S' sv' Z' F' _ J2 ⟨by show z.1 + z'.1 ≤ z.1 + 1; omega, by show z.2 + z'.2 ≤ z.2 + 6; omega⟩))) (fun hr0 => ?_)
  refine v_aload_n C dL_law_1371 rfl ?_
  refine v_iconst C dL_law_1372 (v := nI 0) rfl ?_
  refine v_lald C dL_law_1373 ((hp.fr 88 (.inr (by decide))).trans hf1) (by decide) rfl (j := 0) (by decide) (hy1 hr0) ?_
  refine v_iload C dL_law_1374 rfl ?_
  refine v_i2l C dL_law_1376 ?_
  refine v_lcmp C dL_law_1377 ?_
  exact v_if_eq C dL_law_1378 (tgt := 1383) (by decide) (fun _ => v_goto C dL_law_1383 (tgt := 2096) (by decide) (v_forget _ _ _ _ _ _ _ _ (K h2 S' sv' Z' F' _ J2 ⟨by show z.1 + z'.1 ≤ z.1 + 1; omega, by show z.2 + z'.2 ≤ z.2 + 6; omega⟩))) (fun hne => absurd (cmp_self _) hne)
theorem lc_preimagesBetween {X : CT} {o : Oc} {P : Wt → Hp → Prop} (C : Cx X mL_law [] 10 zL o P) {z : Nat × Nat} {w : Wt} {h : Hp} {N i : Nat} {xs : Nat → Int32} {S Z : Sc} {sv : Bool} {F : Sf} (hs : SC X w N xs) (hN : N ≤ 2560) (hi : i + 5 ≤ N) (hz : z.1 + 1 ≤ 603072 ∧ z.2 + 6 ≤ 7157866) (hJ : JI2 h S sv Z F) (K : ∀ h' S' sv' Z' F' z', JI2 h' S' sv' Z' F' → z'.1 ≤ z.1 + 1 ∧ z'.2 ≤ z.2 + 6 → V X z' w h' 2096 (LL i) []) : V X z w h 1386 (LL i) [] := by
  obtain ⟨th, hR⟩ := hJ.2.1
  obtain ⟨f, hf⟩ := hJ.2.2
  obtain ⟨S', sv', Z', F', o', z', r, y, j8, j9, hr4, hc⟩ := jm_preimagesBetween hJ.oks (w := w) (S := S) (sv := sv) (Z := Z) (F := F) (x := xs (i + 1)) (y := xs (i + 2)) (v := xs (i + 3))
  obtain ⟨d8, P8, hd8, c8, q8⟩ := j8 h hJ.1
  have hz' : z'.1 ≤ 1 ∧ z'.2 ≤ 6 := by rcases hc with ⟨-, -, rfl⟩ | ⟨E, -, -, rfl⟩ <;> decide
  have hJO : JO rwL_preimagesBetween o' z' r f P8 (RW h S' sv' Z' F' r y.toInt64) := by
    rcases hc with ⟨rfl, rfl, rfl⟩ | ⟨E, rfl, hE, rfl⟩
    · exact .inl ⟨y, rfl, rfl, rfl, fun h1 p1 => ⟨((q8 h1 p1).gf 88 (by decide)).trans hf, rw_ok (q8 h1 p1)⟩⟩
    · exact .inr ⟨E, rfl, rfl, hE, fun h1 p1 => rw_thr (q8 h1 p1) hf (fun e => by subst e; simp [rwL_preimagesBetween] at hE)⟩
  have cw := xL_preimagesBetween hJO hJ.1.ob hd8 c8
  refine v_aload_n C dL_law_1386 rfl ?_
  refine v_aload_n C dL_law_1387 rfl ?_
  refine v_iload C dL_law_1388 rfl ?_
  refine v_iconst C dL_law_1390 (v := nI 1) rfl ?_
  refine v_iaddN C dL_law_1391 ?_
  refine v_sld C hs hN (by omega) dL_law_1392 ?_
  refine v_aload_n C dL_law_1393 rfl ?_
  refine v_iload C dL_law_1394 rfl ?_
  refine v_iconst C dL_law_1396 (v := nI 2) rfl ?_
  refine v_iaddN C dL_law_1397 ?_
  refine v_sld C hs hN (by omega) dL_law_1398 ?_
  refine v_aload_n C dL_law_1399 rfl ?_
  refine v_iload C dL_law_1400 rfl ?_
  refine v_iconst C dL_law_1402 (v := nI 3) rfl ?_
  refine v_iaddN C dL_law_1403 ?_
  refine v_sld C hs hN (by omega) dL_law_1404 ?_
  refine v_aload_n C dL_law_1405 rfl ?_
  refine v_callH C dL_law_1406 kL_preimagesBetween (tj5 196 (by rfl) rfl) cw rfl rfl rfl ⟨by show z.1 + z'.1 ≤ 603072; omega, by show z.2 + z'.2 ≤ 7157866; omega⟩ rfl rfl (fun _ => rfl) (fun h1 R1 => ?_)
  dsimp only [Option.toList, List.cons_append, List.nil_append]
  obtain ⟨hP1, fr1, f1, hf1, hy1⟩ := R1
  have hR1 := hR.low (h' := h1) (fun j a b => fr1 j (by omega) (by omega))
  obtain ⟨d9, hd9, c9⟩ := j9 h1 _ hR1
  obtain ⟨u1, o1, -⟩ := hR1.o
  refine v_istore C dL_law_1409 rfl ?_
  dsimp only [sto1, sto2, killL]
  refine v_aload_n C dL_law_1411 rfl ?_
  refine v_aload_n C dL_law_1412 rfl ?_
  refine v_iload C dL_law_1413 rfl ?_
  refine v_iconst C dL_law_1415 (v := nI 1) rfl ?_
  refine v_iaddN C dL_law_1416 ?_
  refine v_sld C hs hN (by omega) dL_law_1417 ?_
  refine v_aload_n C dL_law_1418 rfl ?_
  refine v_iload C dL_law_1419 rfl ?_
  refine v_iconst C dL_law_1421 (v := nI 2) rfl ?_
  refine v_iaddN C dL_law_1422 ?_
  refine v_sld C hs hN (by omega) dL_law_1423 ?_
  refine v_aload_n C dL_law_1424 rfl ?_
  refine v_iload C dL_law_1425 rfl ?_
  refine v_iconst C dL_law_1427 (v := nI 3) rfl ?_
  refine v_iaddN C dL_law_1428 ?_
  refine v_sld C hs hN (by omega) dL_law_1429 ?_
  refine v_callV C dL_law_1430 vL_199 o1 c9 rfl (blt10 hd9) rfl ⟨Nat.ble_eq_true_of_le (by show z.1 + z'.1 ≤ 603072; omega), Nat.ble_eq_true_of_le (by show z.2 + z'.2 ≤ 7157866; omega)⟩ rfl rfl (fun _ => rfl) (fun h2 hp => ?_)
  dsimp only [Option.toList, List.cons_append, List.nil_append]
  refine v_istore C dL_law_1433 rfl ?_
  dsimp only [sto1, sto2, killL]
  refine v_aload_n C dL_law_1435 rfl ?_
  obtain ⟨u2, o2, t2, -⟩ := hp.o
  refine v_callV C dL_law_1436 vL_122 o2 (k9_thrown o2) rfl rfl rfl ⟨Nat.ble_eq_true_of_le (by show z.1 + z'.1 ≤ 603072; omega), Nat.ble_eq_true_of_le (by show z.2 + z'.2 ≤ 7157866; omega)⟩ rfl rfl (fun _ => rfl) (fun h3 e3 => ?_)
  rw [show h3 = _ from e3]
  dsimp only [Option.toList, List.cons_append, List.nil_append]
  rw [t2]
  have J2 : JI2 h2 S' sv' Z' F' := ⟨hP1.top (fun j hj => hp.fr j (.inl (by omega))), ⟨_, hp.low (fun _ _ _ => rfl)⟩, f1, (hp.fr 88 (.inr (by decide))).trans hf1⟩
  refine v_iload C dL_law_1439 rfl ?_
  refine v_icmp_eqN C dL_law_1441 (tgt := 1446) (by decide) (by omega) (by omega) (fun _ => ?_) (fun hne => absurd rfl hne)
  refine v_iload C dL_law_1446 rfl ?_
  refine v_if_neN C dL_law_1448 (tgt := 1463) (by decide) (by omega) (fun _ => v_goto C dL_law_1463 (tgt := 2096) (by decide) (v_forget _ _ _ _ _ _ _ _ (K h2 S' sv' Z' F' _ J2 ⟨by show z.1 + z'.1 ≤ z.1 + 1; omega, by show z.2 + z'.2 ≤ z.2 + 6; omega⟩))) (fun hr0 => ?_)
  refine v_aload_n C dL_law_1451 rfl ?_
  refine v_iconst C dL_law_1452 (v := nI 0) rfl ?_
  refine v_lald C dL_law_1453 ((hp.fr 88 (.inr (by decide))).trans hf1) (by decide) rfl (j := 0) (by decide) (hy1 hr0) ?_
  refine v_iload C dL_law_1454 rfl ?_
  refine v_i2l C dL_law_1456 ?_
  refine v_lcmp C dL_law_1457 ?_
  exact v_if_eq C dL_law_1458 (tgt := 1463) (by decide) (fun _ => v_goto C dL_law_1463 (tgt := 2096) (by decide) (v_forget _ _ _ _ _ _ _ _ (K h2 S' sv' Z' F' _ J2 ⟨by show z.1 + z'.1 ≤ z.1 + 1; omega, by show z.2 + z'.2 ≤ z.2 + 6; omega⟩))) (fun hne => absurd (cmp_self _) hne)
theorem lc_wordsWith {X : CT} {o : Oc} {P : Wt → Hp → Prop} (C : Cx X mL_law [] 10 zL o P) {z : Nat × Nat} {w : Wt} {h : Hp} {N i : Nat} {xs : Nat → Int32} {S Z : Sc} {sv : Bool} {F : Sf} (hs : SC X w N xs) (hN : N ≤ 2560) (hi : i + 5 ≤ N) (hz : z.1 + 1 ≤ 603072 ∧ z.2 + 6 ≤ 7157866) (hJ : JI2 h S sv Z F) (K : ∀ h' S' sv' Z' F' z', JI2 h' S' sv' Z' F' → z'.1 ≤ z.1 + 1 ∧ z'.2 ≤ z.2 + 6 → V X z' w h' 2096 (LL i) []) : V X z w h 1466 (LL i) [] := by
  obtain ⟨th, hR⟩ := hJ.2.1
  obtain ⟨f, hf⟩ := hJ.2.2
  obtain ⟨S', sv', Z', F', o', z', r, y, j8, j9, hr4, hc⟩ := jm_wordsWith (w := w) (S := S) (sv := sv) (Z := Z) (F := F) (x := xs (i + 1)) (y := xs (i + 2))
  obtain ⟨d8, P8, hd8, c8, q8⟩ := j8 h hJ.1
  have hz' : z'.1 ≤ 1 ∧ z'.2 ≤ 6 := by rcases hc with ⟨-, -, rfl⟩ | ⟨E, -, -, rfl⟩ <;> decide
  have hJO : JO rwL_wordsWith o' z' r f P8 (RW h S' sv' Z' F' r y.toInt64) := by
    rcases hc with ⟨rfl, rfl, rfl⟩ | ⟨E, rfl, hE, rfl⟩
    · exact .inl ⟨y, rfl, rfl, rfl, fun h1 p1 => ⟨((q8 h1 p1).gf 88 (by decide)).trans hf, rw_ok (q8 h1 p1)⟩⟩
    · exact .inr ⟨E, rfl, rfl, hE, fun h1 p1 => rw_thr (q8 h1 p1) hf (fun e => by subst e; simp [rwL_wordsWith] at hE)⟩
  have cw := xL_wordsWith hJO hJ.1.ob hd8 c8
  refine v_aload_n C dL_law_1466 rfl ?_
  refine v_aload_n C dL_law_1467 rfl ?_
  refine v_iload C dL_law_1468 rfl ?_
  refine v_iconst C dL_law_1470 (v := nI 1) rfl ?_
  refine v_iaddN C dL_law_1471 ?_
  refine v_sld C hs hN (by omega) dL_law_1472 ?_
  refine v_aload_n C dL_law_1473 rfl ?_
  refine v_iload C dL_law_1474 rfl ?_
  refine v_iconst C dL_law_1476 (v := nI 2) rfl ?_
  refine v_iaddN C dL_law_1477 ?_
  refine v_sld C hs hN (by omega) dL_law_1478 ?_
  refine v_aload_n C dL_law_1479 rfl ?_
  refine v_callH C dL_law_1480 kL_wordsWith (tj5 209 (by rfl) rfl) cw rfl rfl rfl ⟨by show z.1 + z'.1 ≤ 603072; omega, by show z.2 + z'.2 ≤ 7157866; omega⟩ rfl rfl (fun _ => rfl) (fun h1 R1 => ?_)
  dsimp only [Option.toList, List.cons_append, List.nil_append]
  obtain ⟨hP1, fr1, f1, hf1, hy1⟩ := R1
  have hR1 := hR.low (h' := h1) (fun j a b => fr1 j (by omega) (by omega))
  obtain ⟨d9, hd9, c9⟩ := j9 h1 _ hR1
  obtain ⟨u1, o1, -⟩ := hR1.o
  refine v_istore C dL_law_1483 rfl ?_
  dsimp only [sto1, sto2, killL]
  refine v_aload_n C dL_law_1485 rfl ?_
  refine v_aload_n C dL_law_1486 rfl ?_
  refine v_iload C dL_law_1487 rfl ?_
  refine v_iconst C dL_law_1489 (v := nI 1) rfl ?_
  refine v_iaddN C dL_law_1490 ?_
  refine v_sld C hs hN (by omega) dL_law_1491 ?_
  refine v_aload_n C dL_law_1492 rfl ?_
  refine v_iload C dL_law_1493 rfl ?_
  refine v_iconst C dL_law_1495 (v := nI 2) rfl ?_
  refine v_iaddN C dL_law_1496 ?_
  refine v_sld C hs hN (by omega) dL_law_1497 ?_
  refine v_callV C dL_law_1498 vL_202 o1 c9 rfl (blt10 hd9) rfl ⟨Nat.ble_eq_true_of_le (by show z.1 + z'.1 ≤ 603072; omega), Nat.ble_eq_true_of_le (by show z.2 + z'.2 ≤ 7157866; omega)⟩ rfl rfl (fun _ => rfl) (fun h2 hp => ?_)
  dsimp only [Option.toList, List.cons_append, List.nil_append]
  refine v_istore C dL_law_1501 rfl ?_
  dsimp only [sto1, sto2, killL]
  refine v_aload_n C dL_law_1503 rfl ?_
  obtain ⟨u2, o2, t2, -⟩ := hp.o
  refine v_callV C dL_law_1504 vL_122 o2 (k9_thrown o2) rfl rfl rfl ⟨Nat.ble_eq_true_of_le (by show z.1 + z'.1 ≤ 603072; omega), Nat.ble_eq_true_of_le (by show z.2 + z'.2 ≤ 7157866; omega)⟩ rfl rfl (fun _ => rfl) (fun h3 e3 => ?_)
  rw [show h3 = _ from e3]
  dsimp only [Option.toList, List.cons_append, List.nil_append]
  rw [t2]
  have J2 : JI2 h2 S' sv' Z' F' := ⟨hP1.top (fun j hj => hp.fr j (.inl (by omega))), ⟨_, hp.low (fun _ _ _ => rfl)⟩, f1, (hp.fr 88 (.inr (by decide))).trans hf1⟩
  refine v_iload C dL_law_1507 rfl ?_
  refine v_icmp_eqN C dL_law_1509 (tgt := 1514) (by decide) (by omega) (by omega) (fun _ => ?_) (fun hne => absurd rfl hne)
  refine v_iload C dL_law_1514 rfl ?_
  refine v_if_neN C dL_law_1516 (tgt := 1531) (by decide) (by omega) (fun _ => v_goto C dL_law_1531 (tgt := 2096) (by decide) (v_forget _ _ _ _ _ _ _ _ (K h2 S' sv' Z' F' _ J2 ⟨by show z.1 + z'.1 ≤ z.1 + 1; omega, by show z.2 + z'.2 ≤ z.2 + 6; omega⟩))) (fun hr0 => ?_)
  refine v_aload_n C dL_law_1519 rfl ?_
  refine v_iconst C dL_law_1520 (v := nI 0) rfl ?_
  refine v_lald C dL_law_1521 ((hp.fr 88 (.inr (by decide))).trans hf1) (by decide) rfl (j := 0) (by decide) (hy1 hr0) ?_
  refine v_iload C dL_law_1522 rfl ?_
  refine v_i2l C dL_law_1524 ?_
  refine v_lcmp C dL_law_1525 ?_
  exact v_if_eq C dL_law_1526 (tgt := 1531) (by decide) (fun _ => v_goto C dL_law_1531 (tgt := 2096) (by decide) (v_forget _ _ _ _ _ _ _ _ (K h2 S' sv' Z' F' _ J2 ⟨by show z.1 + z'.1 ≤ z.1 + 1; omega, by show z.2 + z'.2 ≤ z.2 + 6; omega⟩))) (fun hne => absurd (cmp_self _) hne)
theorem lc_mostPreimages {X : CT} {o : Oc} {P : Wt → Hp → Prop} (C : Cx X mL_law [] 10 zL o P) {z : Nat × Nat} {w : Wt} {h : Hp} {N i : Nat} {xs : Nat → Int32} {S Z : Sc} {sv : Bool} {F : Sf} (hs : SC X w N xs) (hN : N ≤ 2560) (hi : i + 5 ≤ N) (hz : z.1 + 1 ≤ 603072 ∧ z.2 + 6 ≤ 7157866) (hJ : JI2 h S sv Z F) (K : ∀ h' S' sv' Z' F' z', JI2 h' S' sv' Z' F' → z'.1 ≤ z.1 + 1 ∧ z'.2 ≤ z.2 + 6 → V X z' w h' 2096 (LL i) []) : V X z w h 1534 (LL i) [] := by
  obtain ⟨th, hR⟩ := hJ.2.1
  obtain ⟨f, hf⟩ := hJ.2.2
  obtain ⟨S', sv', Z', F', o', z', r, y, j8, j9, hr4, hc⟩ := jm_mostPreimages (w := w) (S := S) (sv := sv) (Z := Z) (F := F) (x := xs (i + 1))
  obtain ⟨d8, P8, hd8, c8, q8⟩ := j8 h hJ.1
  have hz' : z'.1 ≤ 1 ∧ z'.2 ≤ 6 := by rcases hc with ⟨-, -, rfl⟩ | ⟨E, -, -, rfl⟩ <;> decide
  have hJO : JO rwL_mostPreimages o' z' r f P8 (RW h S' sv' Z' F' r y.toInt64) := by
    rcases hc with ⟨rfl, rfl, rfl⟩ | ⟨E, rfl, hE, rfl⟩
    · exact .inl ⟨y, rfl, rfl, rfl, fun h1 p1 => ⟨((q8 h1 p1).gf 88 (by decide)).trans hf, rw_ok (q8 h1 p1)⟩⟩
    · exact .inr ⟨E, rfl, rfl, hE, fun h1 p1 => rw_thr (q8 h1 p1) hf (fun e => by subst e; simp [rwL_mostPreimages] at hE)⟩
  have cw := xL_mostPreimages hJO hJ.1.ob hd8 c8
  refine v_aload_n C dL_law_1534 rfl ?_
  refine v_aload_n C dL_law_1535 rfl ?_
  refine v_iload C dL_law_1536 rfl ?_
  refine v_iconst C dL_law_1538 (v := nI 1) rfl ?_
  refine v_iaddN C dL_law_1539 ?_
  refine v_sld C hs hN (by omega) dL_law_1540 ?_
  refine v_aload_n C dL_law_1541 rfl ?_
  refine v_callH C dL_law_1542 kL_mostPreimages (tj5 233 (by rfl) rfl) cw rfl rfl rfl ⟨by show z.1 + z'.1 ≤ 603072; omega, by show z.2 + z'.2 ≤ 7157866; omega⟩ rfl rfl (fun _ => rfl) (fun h1 R1 => ?_)
  dsimp only [Option.toList, List.cons_append, List.nil_append]
  obtain ⟨hP1, fr1, f1, hf1, hy1⟩ := R1
  have hR1 := hR.low (h' := h1) (fun j a b => fr1 j (by omega) (by omega))
  obtain ⟨d9, hd9, c9⟩ := j9 h1 _ hR1
  obtain ⟨u1, o1, -⟩ := hR1.o
  refine v_istore C dL_law_1545 rfl ?_
  dsimp only [sto1, sto2, killL]
  refine v_aload_n C dL_law_1547 rfl ?_
  refine v_aload_n C dL_law_1548 rfl ?_
  refine v_iload C dL_law_1549 rfl ?_
  refine v_iconst C dL_law_1551 (v := nI 1) rfl ?_
  refine v_iaddN C dL_law_1552 ?_
  refine v_sld C hs hN (by omega) dL_law_1553 ?_
  refine v_callV C dL_law_1554 vL_205 o1 c9 rfl (blt10 hd9) rfl ⟨Nat.ble_eq_true_of_le (by show z.1 + z'.1 ≤ 603072; omega), Nat.ble_eq_true_of_le (by show z.2 + z'.2 ≤ 7157866; omega)⟩ rfl rfl (fun _ => rfl) (fun h2 hp => ?_)
  dsimp only [Option.toList, List.cons_append, List.nil_append]
  refine v_istore C dL_law_1557 rfl ?_
  dsimp only [sto1, sto2, killL]
  refine v_aload_n C dL_law_1559 rfl ?_
  obtain ⟨u2, o2, t2, -⟩ := hp.o
  refine v_callV C dL_law_1560 vL_122 o2 (k9_thrown o2) rfl rfl rfl ⟨Nat.ble_eq_true_of_le (by show z.1 + z'.1 ≤ 603072; omega), Nat.ble_eq_true_of_le (by show z.2 + z'.2 ≤ 7157866; omega)⟩ rfl rfl (fun _ => rfl) (fun h3 e3 => ?_)
  rw [show h3 = _ from e3]
  dsimp only [Option.toList, List.cons_append, List.nil_append]
  rw [t2]
  have J2 : JI2 h2 S' sv' Z' F' := ⟨hP1.top (fun j hj => hp.fr j (.inl (by omega))), ⟨_, hp.low (fun _ _ _ => rfl)⟩, f1, (hp.fr 88 (.inr (by decide))).trans hf1⟩
  refine v_iload C dL_law_1563 rfl ?_
  refine v_icmp_eqN C dL_law_1565 (tgt := 1570) (by decide) (by omega) (by omega) (fun _ => ?_) (fun hne => absurd rfl hne)
  refine v_iload C dL_law_1570 rfl ?_
  refine v_if_neN C dL_law_1572 (tgt := 1587) (by decide) (by omega) (fun _ => v_goto C dL_law_1587 (tgt := 2096) (by decide) (v_forget _ _ _ _ _ _ _ _ (K h2 S' sv' Z' F' _ J2 ⟨by show z.1 + z'.1 ≤ z.1 + 1; omega, by show z.2 + z'.2 ≤ z.2 + 6; omega⟩))) (fun hr0 => ?_)
  refine v_aload_n C dL_law_1575 rfl ?_
  refine v_iconst C dL_law_1576 (v := nI 0) rfl ?_
  refine v_lald C dL_law_1577 ((hp.fr 88 (.inr (by decide))).trans hf1) (by decide) rfl (j := 0) (by decide) (hy1 hr0) ?_
  refine v_iload C dL_law_1578 rfl ?_
  refine v_i2l C dL_law_1580 ?_
  refine v_lcmp C dL_law_1581 ?_
  exact v_if_eq C dL_law_1582 (tgt := 1587) (by decide) (fun _ => v_goto C dL_law_1587 (tgt := 2096) (by decide) (v_forget _ _ _ _ _ _ _ _ (K h2 S' sv' Z' F' _ J2 ⟨by show z.1 + z'.1 ≤ z.1 + 1; omega, by show z.2 + z'.2 ≤ z.2 + 6; omega⟩))) (fun hne => absurd (cmp_self _) hne)
theorem lc_fixedWords {X : CT} {o : Oc} {P : Wt → Hp → Prop} (C : Cx X mL_law [] 10 zL o P) {z : Nat × Nat} {w : Wt} {h : Hp} {N i : Nat} {xs : Nat → Int32} {S Z : Sc} {sv : Bool} {F : Sf} (hs : SC X w N xs) (hN : N ≤ 2560) (hi : i + 5 ≤ N) (hz : z.1 + 1 ≤ 603072 ∧ z.2 + 6 ≤ 7157866) (hJ : JI2 h S sv Z F) (K : ∀ h' S' sv' Z' F' z', JI2 h' S' sv' Z' F' → z'.1 ≤ z.1 + 1 ∧ z'.2 ≤ z.2 + 6 → V X z' w h' 2096 (LL i) []) : V X z w h 1590 (LL i) [] := by
  obtain ⟨th, hR⟩ := hJ.2.1
  obtain ⟨f, hf⟩ := hJ.2.2
  obtain ⟨S', sv', Z', F', o', z', r, y, j8, j9, hr4, hc⟩ := jm_fixedWords hJ.oks (w := w) (S := S) (sv := sv) (Z := Z) (F := F) (x := xs (i + 1))
  obtain ⟨d8, P8, hd8, c8, q8⟩ := j8 h hJ.1
  have hz' : z'.1 ≤ 1 ∧ z'.2 ≤ 6 := by rcases hc with ⟨-, -, rfl⟩ | ⟨E, -, -, rfl⟩ <;> decide
  have hJO : JO rwL_fixedWords o' z' r f P8 (RW h S' sv' Z' F' r y.toInt64) := by
    rcases hc with ⟨rfl, rfl, rfl⟩ | ⟨E, rfl, hE, rfl⟩
    · exact .inl ⟨y, rfl, rfl, rfl, fun h1 p1 => ⟨((q8 h1 p1).gf 88 (by decide)).trans hf, rw_ok (q8 h1 p1)⟩⟩
    · exact .inr ⟨E, rfl, rfl, hE, fun h1 p1 => rw_thr (q8 h1 p1) hf (fun e => by subst e; simp [rwL_fixedWords] at hE)⟩
  have cw := xL_fixedWords hJO hJ.1.ob hd8 c8
  refine v_aload_n C dL_law_1590 rfl ?_
  refine v_aload_n C dL_law_1591 rfl ?_
  refine v_iload C dL_law_1592 rfl ?_
  refine v_iconst C dL_law_1594 (v := nI 1) rfl ?_
  refine v_iaddN C dL_law_1595 ?_
  refine v_sld C hs hN (by omega) dL_law_1596 ?_
  refine v_aload_n C dL_law_1597 rfl ?_
  refine v_callH C dL_law_1598 kL_fixedWords (tj6 0 (by rfl) rfl) cw rfl rfl rfl ⟨by show z.1 + z'.1 ≤ 603072; omega, by show z.2 + z'.2 ≤ 7157866; omega⟩ rfl rfl (fun _ => rfl) (fun h1 R1 => ?_)
  dsimp only [Option.toList, List.cons_append, List.nil_append]
  obtain ⟨hP1, fr1, f1, hf1, hy1⟩ := R1
  have hR1 := hR.low (h' := h1) (fun j a b => fr1 j (by omega) (by omega))
  obtain ⟨d9, hd9, c9⟩ := j9 h1 _ hR1
  obtain ⟨u1, o1, -⟩ := hR1.o
  refine v_istore C dL_law_1601 rfl ?_
  dsimp only [sto1, sto2, killL]
  refine v_aload_n C dL_law_1603 rfl ?_
  refine v_aload_n C dL_law_1604 rfl ?_
  refine v_iload C dL_law_1605 rfl ?_
  refine v_iconst C dL_law_1607 (v := nI 1) rfl ?_
  refine v_iaddN C dL_law_1608 ?_
  refine v_sld C hs hN (by omega) dL_law_1609 ?_
  refine v_callV C dL_law_1610 vL_208 o1 c9 rfl (blt10 hd9) rfl ⟨Nat.ble_eq_true_of_le (by show z.1 + z'.1 ≤ 603072; omega), Nat.ble_eq_true_of_le (by show z.2 + z'.2 ≤ 7157866; omega)⟩ rfl rfl (fun _ => rfl) (fun h2 hp => ?_)
  dsimp only [Option.toList, List.cons_append, List.nil_append]
  refine v_istore C dL_law_1613 rfl ?_
  dsimp only [sto1, sto2, killL]
  refine v_aload_n C dL_law_1615 rfl ?_
  obtain ⟨u2, o2, t2, -⟩ := hp.o
  refine v_callV C dL_law_1616 vL_122 o2 (k9_thrown o2) rfl rfl rfl ⟨Nat.ble_eq_true_of_le (by show z.1 + z'.1 ≤ 603072; omega), Nat.ble_eq_true_of_le (by show z.2 + z'.2 ≤ 7157866; omega)⟩ rfl rfl (fun _ => rfl) (fun h3 e3 => ?_)
  rw [show h3 = _ from e3]
  dsimp only [Option.toList, List.cons_append, List.nil_append]
  rw [t2]
  have J2 : JI2 h2 S' sv' Z' F' := ⟨hP1.top (fun j hj => hp.fr j (.inl (by omega))), ⟨_, hp.low (fun _ _ _ => rfl)⟩, f1, (hp.fr 88 (.inr (by decide))).trans hf1⟩
  refine v_iload C dL_law_1619 rfl ?_
  refine v_icmp_eqN C dL_law_1621 (tgt := 1626) (by decide) (by omega) (by omega) (fun _ => ?_) (fun hne => absurd rfl hne)
  refine v_iload C dL_law_1626 rfl ?_
  refine v_if_neN C dL_law_1628 (tgt := 1643) (by decide) (by omega) (fun _ => v_goto C dL_law_1643 (tgt := 2096) (by decide) (v_forget _ _ _ _ _ _ _ _ (K h2 S' sv' Z' F' _ J2 ⟨by show z.1 + z'.1 ≤ z.1 + 1; omega, by show z.2 + z'.2 ≤ z.2 + 6; omega⟩))) (fun hr0 => ?_)
  refine v_aload_n C dL_law_1631 rfl ?_
  refine v_iconst C dL_law_1632 (v := nI 0) rfl ?_
  refine v_lald C dL_law_1633 ((hp.fr 88 (.inr (by decide))).trans hf1) (by decide) rfl (j := 0) (by decide) (hy1 hr0) ?_
  refine v_iload C dL_law_1634 rfl ?_
  refine v_i2l C dL_law_1636 ?_
  refine v_lcmp C dL_law_1637 ?_
  exact v_if_eq C dL_law_1638 (tgt := 1643) (by decide) (fun _ => v_goto C dL_law_1643 (tgt := 2096) (by decide) (v_forget _ _ _ _ _ _ _ _ (K h2 S' sv' Z' F' _ J2 ⟨by show z.1 + z'.1 ≤ z.1 + 1; omega, by show z.2 + z'.2 ≤ z.2 + 6; omega⟩))) (fun hne => absurd (cmp_self _) hne)
theorem lc_edge {X : CT} {o : Oc} {P : Wt → Hp → Prop} (C : Cx X mL_law [] 10 zL o P) {z : Nat × Nat} {w : Wt} {h : Hp} {N i : Nat} {xs : Nat → Int32} {S Z : Sc} {sv : Bool} {F : Sf} (hs : SC X w N xs) (hN : N ≤ 2560) (hi : i + 5 ≤ N) (hz : z.1 + 1 ≤ 603072 ∧ z.2 + 6 ≤ 7157866) (hJ : JI2 h S sv Z F) (K : ∀ h' S' sv' Z' F' z', JI2 h' S' sv' Z' F' → z'.1 ≤ z.1 + 1 ∧ z'.2 ≤ z.2 + 6 → V X z' w h' 2096 (LL i) []) : V X z w h 1646 (LL i) [] := by
  obtain ⟨th, hR⟩ := hJ.2.1
  obtain ⟨f, hf⟩ := hJ.2.2
  obtain ⟨S', sv', Z', F', o', z', r, y, j8, j9, hr4, hc⟩ := jm_edge hJ.oks (w := w) (S := S) (sv := sv) (Z := Z) (F := F) (x := xs (i + 1)) (y := xs (i + 2)) (v := xs (i + 3))
  obtain ⟨d8, P8, hd8, c8, q8⟩ := j8 h hJ.1
  have hz' : z'.1 ≤ 1 ∧ z'.2 ≤ 6 := by rcases hc with ⟨-, -, rfl⟩ | ⟨E, -, -, rfl⟩ <;> decide
  have hJO : JO rwL_edge o' z' r f P8 (RW h S' sv' Z' F' r y.toInt64) := by
    rcases hc with ⟨rfl, rfl, rfl⟩ | ⟨E, rfl, hE, rfl⟩
    · exact .inl ⟨y, rfl, rfl, rfl, fun h1 p1 => ⟨((q8 h1 p1).gf 88 (by decide)).trans hf, rw_ok (q8 h1 p1)⟩⟩
    · exact .inr ⟨E, rfl, rfl, hE, fun h1 p1 => rw_thr (q8 h1 p1) hf (fun e => by subst e; simp [rwL_edge] at hE)⟩
  have cw := xL_edge hJO hJ.1.ob hd8 c8
  refine v_aload_n C dL_law_1646 rfl ?_
  refine v_aload_n C dL_law_1647 rfl ?_
  refine v_iload C dL_law_1648 rfl ?_
  refine v_iconst C dL_law_1650 (v := nI 1) rfl ?_
  refine v_iaddN C dL_law_1651 ?_
  refine v_sld C hs hN (by omega) dL_law_1652 ?_
  refine v_aload_n C dL_law_1653 rfl ?_
  refine v_iload C dL_law_1654 rfl ?_
  refine v_iconst C dL_law_1656 (v := nI 2) rfl ?_
  refine v_iaddN C dL_law_1657 ?_
  refine v_sld C hs hN (by omega) dL_law_1658 ?_
  refine v_aload_n C dL_law_1659 rfl ?_
  refine v_iload C dL_law_1660 rfl ?_
  refine v_iconst C dL_law_1662 (v := nI 3) rfl ?_
  refine v_iaddN C dL_law_1663 ?_
  refine v_sld C hs hN (by omega) dL_law_1664 ?_
  refine v_aload_n C dL_law_1665 rfl ?_
  refine v_callH C dL_law_1666 kL_edge (tj6 14 (by rfl) rfl) cw rfl rfl rfl ⟨by show z.1 + z'.1 ≤ 603072; omega, by show z.2 + z'.2 ≤ 7157866; omega⟩ rfl rfl (fun _ => rfl) (fun h1 R1 => ?_)
  dsimp only [Option.toList, List.cons_append, List.nil_append]
  obtain ⟨hP1, fr1, f1, hf1, hy1⟩ := R1
  have hR1 := hR.low (h' := h1) (fun j a b => fr1 j (by omega) (by omega))
  obtain ⟨d9, hd9, c9⟩ := j9 h1 _ hR1
  obtain ⟨u1, o1, -⟩ := hR1.o
  refine v_istore C dL_law_1669 rfl ?_
  dsimp only [sto1, sto2, killL]
  refine v_aload_n C dL_law_1671 rfl ?_
  refine v_aload_n C dL_law_1672 rfl ?_
  refine v_iload C dL_law_1673 rfl ?_
  refine v_iconst C dL_law_1675 (v := nI 1) rfl ?_
  refine v_iaddN C dL_law_1676 ?_
  refine v_sld C hs hN (by omega) dL_law_1677 ?_
  refine v_aload_n C dL_law_1678 rfl ?_
  refine v_iload C dL_law_1679 rfl ?_
  refine v_iconst C dL_law_1681 (v := nI 2) rfl ?_
  refine v_iaddN C dL_law_1682 ?_
  refine v_sld C hs hN (by omega) dL_law_1683 ?_
  refine v_aload_n C dL_law_1684 rfl ?_
  refine v_iload C dL_law_1685 rfl ?_
  refine v_iconst C dL_law_1687 (v := nI 3) rfl ?_
  refine v_iaddN C dL_law_1688 ?_
  refine v_sld C hs hN (by omega) dL_law_1689 ?_
  refine v_callV C dL_law_1690 vL_211 o1 c9 rfl (blt10 hd9) rfl ⟨Nat.ble_eq_true_of_le (by show z.1 + z'.1 ≤ 603072; omega), Nat.ble_eq_true_of_le (by show z.2 + z'.2 ≤ 7157866; omega)⟩ rfl rfl (fun _ => rfl) (fun h2 hp => ?_)
  dsimp only [Option.toList, List.cons_append, List.nil_append]
  refine v_istore C dL_law_1693 rfl ?_
  dsimp only [sto1, sto2, killL]
  refine v_aload_n C dL_law_1695 rfl ?_
  obtain ⟨u2, o2, t2, -⟩ := hp.o
  refine v_callV C dL_law_1696 vL_122 o2 (k9_thrown o2) rfl rfl rfl ⟨Nat.ble_eq_true_of_le (by show z.1 + z'.1 ≤ 603072; omega), Nat.ble_eq_true_of_le (by show z.2 + z'.2 ≤ 7157866; omega)⟩ rfl rfl (fun _ => rfl) (fun h3 e3 => ?_)
  rw [show h3 = _ from e3]
  dsimp only [Option.toList, List.cons_append, List.nil_append]
  rw [t2]
  have J2 : JI2 h2 S' sv' Z' F' := ⟨hP1.top (fun j hj => hp.fr j (.inl (by omega))), ⟨_, hp.low (fun _ _ _ => rfl)⟩, f1, (hp.fr 88 (.inr (by decide))).trans hf1⟩
  refine v_iload C dL_law_1699 rfl ?_
  refine v_icmp_eqN C dL_law_1701 (tgt := 1706) (by decide) (by omega) (by omega) (fun _ => ?_) (fun hne => absurd rfl hne)
  refine v_iload C dL_law_1706 rfl ?_
  refine v_if_neN C dL_law_1708 (tgt := 1723) (by decide) (by omega) (fun _ => v_goto C dL_law_1723 (tgt := 2096) (by decide) (v_forget _ _ _ _ _ _ _ _ (K h2 S' sv' Z' F' _ J2 ⟨by show z.1 + z'.1 ≤ z.1 + 1; omega, by show z.2 + z'.2 ≤ z.2 + 6; omega⟩))) (fun hr0 => ?_)
  refine v_aload_n C dL_law_1711 rfl ?_
  refine v_iconst C dL_law_1712 (v := nI 0) rfl ?_
  refine v_lald C dL_law_1713 ((hp.fr 88 (.inr (by decide))).trans hf1) (by decide) rfl (j := 0) (by decide) (hy1 hr0) ?_
  refine v_iload C dL_law_1714 rfl ?_
  refine v_i2l C dL_law_1716 ?_
  refine v_lcmp C dL_law_1717 ?_
  exact v_if_eq C dL_law_1718 (tgt := 1723) (by decide) (fun _ => v_goto C dL_law_1723 (tgt := 2096) (by decide) (v_forget _ _ _ _ _ _ _ _ (K h2 S' sv' Z' F' _ J2 ⟨by show z.1 + z'.1 ≤ z.1 + 1; omega, by show z.2 + z'.2 ≤ z.2 + 6; omega⟩))) (fun hne => absurd (cmp_self _) hne)
theorem lc_subsets {X : CT} {o : Oc} {P : Wt → Hp → Prop} (C : Cx X mL_law [] 10 zL o P) {z : Nat × Nat} {w : Wt} {h : Hp} {N i : Nat} {xs : Nat → Int32} {S Z : Sc} {sv : Bool} {F : Sf} (hs : SC X w N xs) (hN : N ≤ 2560) (hi : i + 5 ≤ N) (hz : z.1 + 1 ≤ 603072 ∧ z.2 + 6 ≤ 7157866) (hJ : JI2 h S sv Z F) (K : ∀ h' S' sv' Z' F' z', JI2 h' S' sv' Z' F' → z'.1 ≤ z.1 + 1 ∧ z'.2 ≤ z.2 + 6 → V X z' w h' 2096 (LL i) []) : V X z w h 1726 (LL i) [] := by
  obtain ⟨th, hR⟩ := hJ.2.1
  obtain ⟨f, hf⟩ := hJ.2.2
  obtain ⟨e0, S', sv', Z', F', r, j8, j9⟩ := jd_subsets (w := w) (sv := sv) hJ.oks
  obtain ⟨d8, P8, hd8, c8, q8⟩ := j8 h hJ.1
  refine v_aload_n C dL_law_1726 rfl ?_
  refine v_callV C dL_law_1727 vL_212 hJ.1.ob c8 rfl (blt10 hd8) rfl ⟨Nat.ble_eq_true_of_le (by show z.1 ≤ 603072; omega), Nat.ble_eq_true_of_le (by show z.2 ≤ 7157866; omega)⟩ rfl rfl (fun _ => rfl) (fun h1 p1 => ?_)
  dsimp only [Option.toList, List.cons_append, List.nil_append]
  have hP1 := q8 h1 p1
  have hR1 := hR.low (h' := h1) (fun j a b => hP1.gf j (by omega))
  obtain ⟨d9, hd9, c9⟩ := j9 h1 _ hR1
  obtain ⟨u1, o1, -⟩ := hR1.o
  refine v_aload_n C dL_law_1730 rfl ?_
  refine v_callV C dL_law_1731 vL_215 o1 c9 rfl (blt10 hd9) rfl ⟨Nat.ble_eq_true_of_le (by show z.1 ≤ 603072; omega), Nat.ble_eq_true_of_le (by show z.2 ≤ 7157866; omega)⟩ rfl rfl (fun _ => rfl) (fun h2 hp => ?_)
  dsimp only [Option.toList, List.cons_append, List.nil_append]
  exact v_icmp_eq C dL_law_1734 (tgt := 2096) (by decide) (fun _ => K h2 S' sv' Z' F' _ ⟨hP1.top (fun j hj => hp.fr j (.inl (by omega))), ⟨_, hp.low (fun _ _ _ => rfl)⟩, f, (hp.fr 88 (.inr (by decide))).trans ((hP1.gf 88 (by decide)).trans hf)⟩ ⟨by omega, by omega⟩) (fun hne => absurd rfl hne)
theorem lc_orphans {X : CT} {o : Oc} {P : Wt → Hp → Prop} (C : Cx X mL_law [] 10 zL o P) {z : Nat × Nat} {w : Wt} {h : Hp} {N i : Nat} {xs : Nat → Int32} {S Z : Sc} {sv : Bool} {F : Sf} (hs : SC X w N xs) (hN : N ≤ 2560) (hi : i + 5 ≤ N) (hz : z.1 + 1 ≤ 603072 ∧ z.2 + 6 ≤ 7157866) (hJ : JI2 h S sv Z F) (K : ∀ h' S' sv' Z' F' z', JI2 h' S' sv' Z' F' → z'.1 ≤ z.1 + 1 ∧ z'.2 ≤ z.2 + 6 → V X z' w h' 2096 (LL i) []) : V X z w h 1739 (LL i) [] := by
  obtain ⟨th, hR⟩ := hJ.2.1
  obtain ⟨f, hf⟩ := hJ.2.2
  obtain ⟨S', sv', Z', F', o', z', r, y, j8, j9, hr4, hc⟩ := jm_orphans hJ.oks (w := w) (S := S) (sv := sv) (Z := Z) (F := F) (x := xs (i + 1))
  obtain ⟨d8, P8, hd8, c8, q8⟩ := j8 h hJ.1
  have hz' : z'.1 ≤ 1 ∧ z'.2 ≤ 6 := by rcases hc with ⟨-, -, rfl⟩ | ⟨E, -, -, rfl⟩ <;> decide
  have hJO : JO rwL_orphans o' z' r f P8 (RW h S' sv' Z' F' r y.toInt64) := by
    rcases hc with ⟨rfl, rfl, rfl⟩ | ⟨E, rfl, hE, rfl⟩
    · exact .inl ⟨y, rfl, rfl, rfl, fun h1 p1 => ⟨((q8 h1 p1).gf 88 (by decide)).trans hf, rw_ok (q8 h1 p1)⟩⟩
    · exact .inr ⟨E, rfl, rfl, hE, fun h1 p1 => rw_thr (q8 h1 p1) hf (fun e => by subst e; simp [rwL_orphans] at hE)⟩
  have cw := xL_orphans hJO hJ.1.ob hd8 c8
  refine v_aload_n C dL_law_1739 rfl ?_
  refine v_aload_n C dL_law_1740 rfl ?_
  refine v_iload C dL_law_1741 rfl ?_
  refine v_iconst C dL_law_1743 (v := nI 1) rfl ?_
  refine v_iaddN C dL_law_1744 ?_
  refine v_sld C hs hN (by omega) dL_law_1745 ?_
  refine v_aload_n C dL_law_1746 rfl ?_
  refine v_callH C dL_law_1747 kL_orphans (tj6 22 (by rfl) rfl) cw rfl rfl rfl ⟨by show z.1 + z'.1 ≤ 603072; omega, by show z.2 + z'.2 ≤ 7157866; omega⟩ rfl rfl (fun _ => rfl) (fun h1 R1 => ?_)
  dsimp only [Option.toList, List.cons_append, List.nil_append]
  obtain ⟨hP1, fr1, f1, hf1, hy1⟩ := R1
  have hR1 := hR.low (h' := h1) (fun j a b => fr1 j (by omega) (by omega))
  obtain ⟨d9, hd9, c9⟩ := j9 h1 _ hR1
  obtain ⟨u1, o1, -⟩ := hR1.o
  refine v_istore C dL_law_1750 rfl ?_
  dsimp only [sto1, sto2, killL]
  refine v_aload_n C dL_law_1752 rfl ?_
  refine v_aload_n C dL_law_1753 rfl ?_
  refine v_iload C dL_law_1754 rfl ?_
  refine v_iconst C dL_law_1756 (v := nI 1) rfl ?_
  refine v_iaddN C dL_law_1757 ?_
  refine v_sld C hs hN (by omega) dL_law_1758 ?_
  refine v_callV C dL_law_1759 vL_218 o1 c9 rfl (blt10 hd9) rfl ⟨Nat.ble_eq_true_of_le (by show z.1 + z'.1 ≤ 603072; omega), Nat.ble_eq_true_of_le (by show z.2 + z'.2 ≤ 7157866; omega)⟩ rfl rfl (fun _ => rfl) (fun h2 hp => ?_)
  dsimp only [Option.toList, List.cons_append, List.nil_append]
  refine v_istore C dL_law_1762 rfl ?_
  dsimp only [sto1, sto2, killL]
  refine v_aload_n C dL_law_1764 rfl ?_
  obtain ⟨u2, o2, t2, -⟩ := hp.o
  refine v_callV C dL_law_1765 vL_122 o2 (k9_thrown o2) rfl rfl rfl ⟨Nat.ble_eq_true_of_le (by show z.1 + z'.1 ≤ 603072; omega), Nat.ble_eq_true_of_le (by show z.2 + z'.2 ≤ 7157866; omega)⟩ rfl rfl (fun _ => rfl) (fun h3 e3 => ?_)
  rw [show h3 = _ from e3]
  dsimp only [Option.toList, List.cons_append, List.nil_append]
  rw [t2]
  have J2 : JI2 h2 S' sv' Z' F' := ⟨hP1.top (fun j hj => hp.fr j (.inl (by omega))), ⟨_, hp.low (fun _ _ _ => rfl)⟩, f1, (hp.fr 88 (.inr (by decide))).trans hf1⟩
  refine v_iload C dL_law_1768 rfl ?_
  refine v_icmp_eqN C dL_law_1770 (tgt := 1775) (by decide) (by omega) (by omega) (fun _ => ?_) (fun hne => absurd rfl hne)
  refine v_iload C dL_law_1775 rfl ?_
  refine v_if_neN C dL_law_1777 (tgt := 1792) (by decide) (by omega) (fun _ => v_goto C dL_law_1792 (tgt := 2096) (by decide) (v_forget _ _ _ _ _ _ _ _ (K h2 S' sv' Z' F' _ J2 ⟨by show z.1 + z'.1 ≤ z.1 + 1; omega, by show z.2 + z'.2 ≤ z.2 + 6; omega⟩))) (fun hr0 => ?_)
  refine v_aload_n C dL_law_1780 rfl ?_
  refine v_iconst C dL_law_1781 (v := nI 0) rfl ?_
  refine v_lald C dL_law_1782 ((hp.fr 88 (.inr (by decide))).trans hf1) (by decide) rfl (j := 0) (by decide) (hy1 hr0) ?_
  refine v_iload C dL_law_1783 rfl ?_
  refine v_i2l C dL_law_1785 ?_
  refine v_lcmp C dL_law_1786 ?_
  exact v_if_eq C dL_law_1787 (tgt := 1792) (by decide) (fun _ => v_goto C dL_law_1792 (tgt := 2096) (by decide) (v_forget _ _ _ _ _ _ _ _ (K h2 S' sv' Z' F' _ J2 ⟨by show z.1 + z'.1 ≤ z.1 + 1; omega, by show z.2 + z'.2 ≤ z.2 + 6; omega⟩))) (fun hne => absurd (cmp_self _) hne)
theorem lc_shortestOrphan {X : CT} {o : Oc} {P : Wt → Hp → Prop} (C : Cx X mL_law [] 10 zL o P) {z : Nat × Nat} {w : Wt} {h : Hp} {N i : Nat} {xs : Nat → Int32} {S Z : Sc} {sv : Bool} {F : Sf} (hs : SC X w N xs) (hN : N ≤ 2560) (hi : i + 5 ≤ N) (hz : z.1 + 1 ≤ 603072 ∧ z.2 + 6 ≤ 7157866) (hJ : JI2 h S sv Z F) (K : ∀ h' S' sv' Z' F' z', JI2 h' S' sv' Z' F' → z'.1 ≤ z.1 + 1 ∧ z'.2 ≤ z.2 + 6 → V X z' w h' 2096 (LL i) []) : V X z w h 1795 (LL i) [] := by
  obtain ⟨th, hR⟩ := hJ.2.1
  obtain ⟨f, hf⟩ := hJ.2.2
  obtain ⟨S', sv', Z', F', o', z', r, y, j8, j9, hr4, hc⟩ := jm_shortestOrphan hJ.oks (w := w) (S := S) (sv := sv) (Z := Z) (F := F) (x := xs (i + 1))
  obtain ⟨d8, P8, hd8, c8, q8⟩ := j8 h hJ.1
  have hz' : z'.1 ≤ 1 ∧ z'.2 ≤ 6 := by rcases hc with ⟨-, -, rfl⟩ | ⟨E, -, -, rfl⟩ <;> decide
  have hJO : JO rwL_shortestOrphan o' z' r f P8 (RW h S' sv' Z' F' r y.toInt64) := by
    rcases hc with ⟨rfl, rfl, rfl⟩ | ⟨E, rfl, hE, rfl⟩
    · exact .inl ⟨y, rfl, rfl, rfl, fun h1 p1 => ⟨((q8 h1 p1).gf 88 (by decide)).trans hf, rw_ok (q8 h1 p1)⟩⟩
    · exact .inr ⟨E, rfl, rfl, hE, fun h1 p1 => rw_thr (q8 h1 p1) hf (fun e => by subst e; simp [rwL_shortestOrphan] at hE)⟩
  have cw := xL_shortestOrphan hJO hJ.1.ob hd8 c8
  refine v_aload_n C dL_law_1795 rfl ?_
  refine v_aload_n C dL_law_1796 rfl ?_
  refine v_iload C dL_law_1797 rfl ?_
  refine v_iconst C dL_law_1799 (v := nI 1) rfl ?_
  refine v_iaddN C dL_law_1800 ?_
  refine v_sld C hs hN (by omega) dL_law_1801 ?_
  refine v_aload_n C dL_law_1802 rfl ?_
  refine v_callH C dL_law_1803 kL_shortestOrphan (tj6 43 (by rfl) rfl) cw rfl rfl rfl ⟨by show z.1 + z'.1 ≤ 603072; omega, by show z.2 + z'.2 ≤ 7157866; omega⟩ rfl rfl (fun _ => rfl) (fun h1 R1 => ?_)
  dsimp only [Option.toList, List.cons_append, List.nil_append]
  obtain ⟨hP1, fr1, f1, hf1, hy1⟩ := R1
  have hR1 := hR.low (h' := h1) (fun j a b => fr1 j (by omega) (by omega))
  obtain ⟨d9, hd9, c9⟩ := j9 h1 _ hR1
  obtain ⟨u1, o1, -⟩ := hR1.o
  refine v_istore C dL_law_1806 rfl ?_
  dsimp only [sto1, sto2, killL]
  refine v_aload_n C dL_law_1808 rfl ?_
  refine v_aload_n C dL_law_1809 rfl ?_
  refine v_iload C dL_law_1810 rfl ?_
  refine v_iconst C dL_law_1812 (v := nI 1) rfl ?_
  refine v_iaddN C dL_law_1813 ?_
  refine v_sld C hs hN (by omega) dL_law_1814 ?_
  refine v_callV C dL_law_1815 vL_221 o1 c9 rfl (blt10 hd9) rfl ⟨Nat.ble_eq_true_of_le (by show z.1 + z'.1 ≤ 603072; omega), Nat.ble_eq_true_of_le (by show z.2 + z'.2 ≤ 7157866; omega)⟩ rfl rfl (fun _ => rfl) (fun h2 hp => ?_)
  dsimp only [Option.toList, List.cons_append, List.nil_append]
  refine v_istore C dL_law_1818 rfl ?_
  dsimp only [sto1, sto2, killL]
  refine v_aload_n C dL_law_1820 rfl ?_
  obtain ⟨u2, o2, t2, -⟩ := hp.o
  refine v_callV C dL_law_1821 vL_122 o2 (k9_thrown o2) rfl rfl rfl ⟨Nat.ble_eq_true_of_le (by show z.1 + z'.1 ≤ 603072; omega), Nat.ble_eq_true_of_le (by show z.2 + z'.2 ≤ 7157866; omega)⟩ rfl rfl (fun _ => rfl) (fun h3 e3 => ?_)
  rw [show h3 = _ from e3]
  dsimp only [Option.toList, List.cons_append, List.nil_append]
  rw [t2]
  have J2 : JI2 h2 S' sv' Z' F' := ⟨hP1.top (fun j hj => hp.fr j (.inl (by omega))), ⟨_, hp.low (fun _ _ _ => rfl)⟩, f1, (hp.fr 88 (.inr (by decide))).trans hf1⟩
  refine v_iload C dL_law_1824 rfl ?_
  refine v_icmp_eqN C dL_law_1826 (tgt := 1831) (by decide) (by omega) (by omega) (fun _ => ?_) (fun hne => absurd rfl hne)
  refine v_iload C dL_law_1831 rfl ?_
  refine v_if_neN C dL_law_1833 (tgt := 1848) (by decide) (by omega) (fun _ => v_goto C dL_law_1848 (tgt := 2096) (by decide) (v_forget _ _ _ _ _ _ _ _ (K h2 S' sv' Z' F' _ J2 ⟨by show z.1 + z'.1 ≤ z.1 + 1; omega, by show z.2 + z'.2 ≤ z.2 + 6; omega⟩))) (fun hr0 => ?_)
  refine v_aload_n C dL_law_1836 rfl ?_
  refine v_iconst C dL_law_1837 (v := nI 0) rfl ?_
  refine v_lald C dL_law_1838 ((hp.fr 88 (.inr (by decide))).trans hf1) (by decide) rfl (j := 0) (by decide) (hy1 hr0) ?_
  refine v_iload C dL_law_1839 rfl ?_
  refine v_i2l C dL_law_1841 ?_
  refine v_lcmp C dL_law_1842 ?_
  exact v_if_eq C dL_law_1843 (tgt := 1848) (by decide) (fun _ => v_goto C dL_law_1848 (tgt := 2096) (by decide) (v_forget _ _ _ _ _ _ _ _ (K h2 S' sv' Z' F' _ J2 ⟨by show z.1 + z'.1 ≤ z.1 + 1; omega, by show z.2 + z'.2 ≤ z.2 + 6; omega⟩))) (fun hne => absurd (cmp_self _) hne)
theorem lc_has {X : CT} {o : Oc} {P : Wt → Hp → Prop} (C : Cx X mL_law [] 10 zL o P) {z : Nat × Nat} {w : Wt} {h : Hp} {N i : Nat} {xs : Nat → Int32} {S Z : Sc} {sv : Bool} {F : Sf} (hs : SC X w N xs) (hN : N ≤ 2560) (hi : i + 5 ≤ N) (hz : z.1 + 1 ≤ 603072 ∧ z.2 + 6 ≤ 7157866) (hJ : JI2 h S sv Z F) (K : ∀ h' S' sv' Z' F' z', JI2 h' S' sv' Z' F' → z'.1 ≤ z.1 + 1 ∧ z'.2 ≤ z.2 + 6 → V X z' w h' 2096 (LL i) []) : V X z w h 1851 (LL i) [] := by
  obtain ⟨th, hR⟩ := hJ.2.1
  obtain ⟨f, hf⟩ := hJ.2.2
  obtain ⟨S', sv', Z', F', o', z', r, b, j8, j9, hr4, hc⟩ := jm_has hJ.oks (w := w) (S := S) (sv := sv) (Z := Z) (F := F) (x := xs (i + 1))
  obtain ⟨d8, P8, hd8, c8, q8⟩ := j8 h hJ.1
  have hz' : z'.1 ≤ 1 ∧ z'.2 ≤ 6 := by rcases hc with ⟨-, -, rfl⟩ | ⟨E, -, -, rfl⟩ <;> decide
  have hJO : JOB rwL_has o' z' r f P8 (RW h S' sv' Z' F' r (if b then 1 else 0)) := by
    rcases hc with ⟨rfl, rfl, rfl⟩ | ⟨E, rfl, hE, rfl⟩
    · exact .inl ⟨b, rfl, rfl, rfl, fun h1 p1 => ⟨((q8 h1 p1).gf 88 (by decide)).trans hf, rw_ok (q8 h1 p1)⟩⟩
    · exact .inr ⟨E, rfl, rfl, hE, fun h1 p1 => rw_thr (q8 h1 p1) hf (fun e => by subst e; simp [rwL_has] at hE)⟩
  have cw := xL_has hJO hJ.1.ob hd8 c8
  refine v_aload_n C dL_law_1851 rfl ?_
  refine v_aload_n C dL_law_1852 rfl ?_
  refine v_iload C dL_law_1853 rfl ?_
  refine v_iconst C dL_law_1855 (v := nI 1) rfl ?_
  refine v_iaddN C dL_law_1856 ?_
  refine v_sld C hs hN (by omega) dL_law_1857 ?_
  refine v_aload_n C dL_law_1858 rfl ?_
  refine v_callH C dL_law_1859 kL_has (tj6 61 (by rfl) rfl) cw rfl rfl rfl ⟨by show z.1 + z'.1 ≤ 603072; omega, by show z.2 + z'.2 ≤ 7157866; omega⟩ rfl rfl (fun _ => rfl) (fun h1 R1 => ?_)
  dsimp only [Option.toList, List.cons_append, List.nil_append]
  obtain ⟨hP1, fr1, f1, hf1, hy1⟩ := R1
  have hR1 := hR.low (h' := h1) (fun j a b => fr1 j (by omega) (by omega))
  obtain ⟨d9, hd9, c9⟩ := j9 h1 _ hR1
  obtain ⟨u1, o1, -⟩ := hR1.o
  refine v_istore C dL_law_1862 rfl ?_
  dsimp only [sto1, sto2, killL]
  refine v_aload_n C dL_law_1864 rfl ?_
  refine v_aload_n C dL_law_1865 rfl ?_
  refine v_iload C dL_law_1866 rfl ?_
  refine v_iconst C dL_law_1868 (v := nI 1) rfl ?_
  refine v_iaddN C dL_law_1869 ?_
  refine v_sld C hs hN (by omega) dL_law_1870 ?_
  refine v_callV C dL_law_1871 vL_224 o1 c9 rfl (blt10 hd9) rfl ⟨Nat.ble_eq_true_of_le (by show z.1 + z'.1 ≤ 603072; omega), Nat.ble_eq_true_of_le (by show z.2 + z'.2 ≤ 7157866; omega)⟩ rfl rfl (fun _ => rfl) (fun h2 hp => ?_)
  dsimp only [Option.toList, List.cons_append, List.nil_append]
  refine v_istore C dL_law_1874 rfl ?_
  dsimp only [sto1, sto2, killL]
  refine v_aload_n C dL_law_1876 rfl ?_
  obtain ⟨u2, o2, t2, -⟩ := hp.o
  refine v_callV C dL_law_1877 vL_122 o2 (k9_thrown o2) rfl rfl rfl ⟨Nat.ble_eq_true_of_le (by show z.1 + z'.1 ≤ 603072; omega), Nat.ble_eq_true_of_le (by show z.2 + z'.2 ≤ 7157866; omega)⟩ rfl rfl (fun _ => rfl) (fun h3 e3 => ?_)
  rw [show h3 = _ from e3]
  dsimp only [Option.toList, List.cons_append, List.nil_append]
  rw [t2]
  have J2 : JI2 h2 S' sv' Z' F' := ⟨hP1.top (fun j hj => hp.fr j (.inl (by omega))), ⟨_, hp.low (fun _ _ _ => rfl)⟩, f1, (hp.fr 88 (.inr (by decide))).trans hf1⟩
  refine v_iload C dL_law_1880 rfl ?_
  refine v_icmp_eqN C dL_law_1882 (tgt := 1887) (by decide) (by omega) (by omega) (fun _ => ?_) (fun hne => absurd rfl hne)
  refine v_iload C dL_law_1887 rfl ?_
  refine v_if_neN C dL_law_1889 (tgt := 1911) (by decide) (by omega) (fun _ => v_goto C dL_law_1911 (tgt := 2096) (by decide) (v_forget _ _ _ _ _ _ _ _ (K h2 S' sv' Z' F' _ J2 ⟨by show z.1 + z'.1 ≤ z.1 + 1; omega, by show z.2 + z'.2 ≤ z.2 + 6; omega⟩))) (fun hr0 => ?_)
  refine v_aload_n C dL_law_1892 rfl ?_
  refine v_iconst C dL_law_1893 (v := nI 0) rfl ?_
  refine v_lald C dL_law_1894 ((hp.fr 88 (.inr (by decide))).trans hf1) (by decide) rfl (j := 0) (by decide) (hy1 hr0) ?_
  refine v_iload C dL_law_1895 rfl ?_
  refine v_if_eqB C dL_law_1897 (tgt := 1904) (by decide) (fun hb => ?_) (fun hb => ?_)
  · subst hb
    refine v_lconst C dL_law_1904 (v := 0) rfl ?_
    refine v_lcmp C dL_law_1905 ?_
    exact v_if_eq C dL_law_1906 (tgt := 1911) (by decide) (fun _ => v_goto C dL_law_1911 (tgt := 2096) (by decide) (v_forget _ _ _ _ _ _ _ _ (K h2 S' sv' Z' F' _ J2 ⟨by show z.1 + z'.1 ≤ z.1 + 1; omega, by show z.2 + z'.2 ≤ z.2 + 6; omega⟩))) (fun hne => absurd (cmp_self _) hne)
  · subst hb
    refine v_lconst C dL_law_1900 (v := 1) rfl ?_
    refine v_goto C dL_law_1901 (tgt := 1905) (by decide) ?_
    refine v_lcmp C dL_law_1905 ?_
    exact v_if_eq C dL_law_1906 (tgt := 1911) (by decide) (fun _ => v_goto C dL_law_1911 (tgt := 2096) (by decide) (v_forget _ _ _ _ _ _ _ _ (K h2 S' sv' Z' F' _ J2 ⟨by show z.1 + z'.1 ≤ z.1 + 1; omega, by show z.2 + z'.2 ≤ z.2 + 6; omega⟩))) (fun hne => absurd (cmp_self _) hne)
theorem lc_cyclicPairs {X : CT} {o : Oc} {P : Wt → Hp → Prop} (C : Cx X mL_law [] 10 zL o P) {z : Nat × Nat} {w : Wt} {h : Hp} {N i : Nat} {xs : Nat → Int32} {S Z : Sc} {sv : Bool} {F : Sf} (hs : SC X w N xs) (hN : N ≤ 2560) (hi : i + 5 ≤ N) (hz : z.1 + 1 ≤ 603072 ∧ z.2 + 6 ≤ 7157866) (hJ : JI2 h S sv Z F) (K : ∀ h' S' sv' Z' F' z', JI2 h' S' sv' Z' F' → z'.1 ≤ z.1 + 1 ∧ z'.2 ≤ z.2 + 6 → V X z' w h' 2096 (LL i) []) : V X z w h 1914 (LL i) [] := by
  obtain ⟨th, hR⟩ := hJ.2.1
  obtain ⟨f, hf⟩ := hJ.2.2
  obtain ⟨S', sv', Z', F', r, j8, j9⟩ := jd_cyclicPairs (w := w) (S := S) (sv := sv) (Z := Z) (F := F) hJ.oks
  obtain ⟨d8, P8, hd8, c8, q8⟩ := j8 h hJ.1
  refine v_aload_n C dL_law_1914 rfl ?_
  refine v_callV C dL_law_1915 vL_225 hJ.1.ob c8 rfl (blt10 hd8) rfl ⟨Nat.ble_eq_true_of_le (by show z.1 ≤ 603072; omega), Nat.ble_eq_true_of_le (by show z.2 ≤ 7157866; omega)⟩ rfl rfl (fun _ => rfl) (fun h1 p1 => ?_)
  dsimp only [Option.toList, List.cons_append, List.nil_append]
  have hP1 := q8 h1 p1
  have hR1 := hR.low (h' := h1) (fun j a b => hP1.gf j (by omega))
  obtain ⟨d9, hd9, c9⟩ := j9 h1 _ hR1
  obtain ⟨u1, o1, -⟩ := hR1.o
  refine v_aload_n C dL_law_1918 rfl ?_
  refine v_callV C dL_law_1919 vL_228 o1 c9 rfl (blt10 hd9) rfl ⟨Nat.ble_eq_true_of_le (by show z.1 ≤ 603072; omega), Nat.ble_eq_true_of_le (by show z.2 ≤ 7157866; omega)⟩ rfl rfl (fun _ => rfl) (fun h2 hp => ?_)
  dsimp only [Option.toList, List.cons_append, List.nil_append]
  exact v_icmp_eq C dL_law_1922 (tgt := 2096) (by decide) (fun _ => K h2 S' sv' Z' F' _ ⟨hP1.top (fun j hj => hp.fr j (.inl (by omega))), ⟨_, hp.low (fun _ _ _ => rfl)⟩, f, (hp.fr 88 (.inr (by decide))).trans ((hP1.gf 88 (by decide)).trans hf)⟩ ⟨by omega, by omega⟩) (fun hne => absurd rfl hne)
theorem lc_inverse {X : CT} {o : Oc} {P : Wt → Hp → Prop} (C : Cx X mL_law [] 10 zL o P) {z : Nat × Nat} {w : Wt} {h : Hp} {N i : Nat} {xs : Nat → Int32} {S Z : Sc} {sv : Bool} {F : Sf} (hs : SC X w N xs) (hN : N ≤ 2560) (hi : i + 5 ≤ N) (hz : z.1 + 1 ≤ 603072 ∧ z.2 + 6 ≤ 7157866) (hJ : JI2 h S sv Z F) (K : ∀ h' S' sv' Z' F' z', JI2 h' S' sv' Z' F' → z'.1 ≤ z.1 + 1 ∧ z'.2 ≤ z.2 + 6 → V X z' w h' 2096 (LL i) []) : V X z w h 1927 (LL i) [] := by
  obtain ⟨th, hR⟩ := hJ.2.1
  obtain ⟨f, hf⟩ := hJ.2.2
  obtain ⟨S', sv', Z', F', o', z', r, y, j8, j9, hr4, hc⟩ := jm_inverse (w := w) (S := S) (sv := sv) (Z := Z) (F := F) (x := xs (i + 1))
  obtain ⟨d8, P8, hd8, c8, q8⟩ := j8 h hJ.1
  have hz' : z'.1 ≤ 1 ∧ z'.2 ≤ 6 := by rcases hc with ⟨-, -, rfl⟩ | ⟨E, -, -, rfl⟩ <;> decide
  have hJO : JO rwL_inverse o' z' r f P8 (RW h S' sv' Z' F' r y.toInt64) := by
    rcases hc with ⟨rfl, rfl, rfl⟩ | ⟨E, rfl, hE, rfl⟩
    · exact .inl ⟨y, rfl, rfl, rfl, fun h1 p1 => ⟨((q8 h1 p1).gf 88 (by decide)).trans hf, rw_ok (q8 h1 p1)⟩⟩
    · exact .inr ⟨E, rfl, rfl, hE, fun h1 p1 => rw_thr (q8 h1 p1) hf (fun e => by subst e; simp [rwL_inverse] at hE)⟩
  have cw := xL_inverse hJO hJ.1.ob hd8 c8
  refine v_aload_n C dL_law_1927 rfl ?_
  refine v_aload_n C dL_law_1928 rfl ?_
  refine v_iload C dL_law_1929 rfl ?_
  refine v_iconst C dL_law_1931 (v := nI 1) rfl ?_
  refine v_iaddN C dL_law_1932 ?_
  refine v_sld C hs hN (by omega) dL_law_1933 ?_
  refine v_aload_n C dL_law_1934 rfl ?_
  refine v_callH C dL_law_1935 kL_inverse (tj6 86 (by rfl) rfl) cw rfl rfl rfl ⟨by show z.1 + z'.1 ≤ 603072; omega, by show z.2 + z'.2 ≤ 7157866; omega⟩ rfl rfl (fun _ => rfl) (fun h1 R1 => ?_)
  dsimp only [Option.toList, List.cons_append, List.nil_append]
  obtain ⟨hP1, fr1, f1, hf1, hy1⟩ := R1
  have hR1 := hR.low (h' := h1) (fun j a b => fr1 j (by omega) (by omega))
  obtain ⟨d9, hd9, c9⟩ := j9 h1 _ hR1
  obtain ⟨u1, o1, -⟩ := hR1.o
  refine v_istore C dL_law_1938 rfl ?_
  dsimp only [sto1, sto2, killL]
  refine v_aload_n C dL_law_1940 rfl ?_
  refine v_aload_n C dL_law_1941 rfl ?_
  refine v_iload C dL_law_1942 rfl ?_
  refine v_iconst C dL_law_1944 (v := nI 1) rfl ?_
  refine v_iaddN C dL_law_1945 ?_
  refine v_sld C hs hN (by omega) dL_law_1946 ?_
  refine v_callV C dL_law_1947 vL_231 o1 c9 rfl (blt10 hd9) rfl ⟨Nat.ble_eq_true_of_le (by show z.1 + z'.1 ≤ 603072; omega), Nat.ble_eq_true_of_le (by show z.2 + z'.2 ≤ 7157866; omega)⟩ rfl rfl (fun _ => rfl) (fun h2 hp => ?_)
  dsimp only [Option.toList, List.cons_append, List.nil_append]
  refine v_istore C dL_law_1950 rfl ?_
  dsimp only [sto1, sto2, killL]
  refine v_aload_n C dL_law_1952 rfl ?_
  obtain ⟨u2, o2, t2, -⟩ := hp.o
  refine v_callV C dL_law_1953 vL_122 o2 (k9_thrown o2) rfl rfl rfl ⟨Nat.ble_eq_true_of_le (by show z.1 + z'.1 ≤ 603072; omega), Nat.ble_eq_true_of_le (by show z.2 + z'.2 ≤ 7157866; omega)⟩ rfl rfl (fun _ => rfl) (fun h3 e3 => ?_)
  rw [show h3 = _ from e3]
  dsimp only [Option.toList, List.cons_append, List.nil_append]
  rw [t2]
  have J2 : JI2 h2 S' sv' Z' F' := ⟨hP1.top (fun j hj => hp.fr j (.inl (by omega))), ⟨_, hp.low (fun _ _ _ => rfl)⟩, f1, (hp.fr 88 (.inr (by decide))).trans hf1⟩
  refine v_iload C dL_law_1956 rfl ?_
  refine v_icmp_eqN C dL_law_1958 (tgt := 1963) (by decide) (by omega) (by omega) (fun _ => ?_) (fun hne => absurd rfl hne)
  refine v_iload C dL_law_1963 rfl ?_
  refine v_if_neN C dL_law_1965 (tgt := 1980) (by decide) (by omega) (fun _ => v_goto C dL_law_1980 (tgt := 2096) (by decide) (v_forget _ _ _ _ _ _ _ _ (K h2 S' sv' Z' F' _ J2 ⟨by show z.1 + z'.1 ≤ z.1 + 1; omega, by show z.2 + z'.2 ≤ z.2 + 6; omega⟩))) (fun hr0 => ?_)
  refine v_aload_n C dL_law_1968 rfl ?_
  refine v_iconst C dL_law_1969 (v := nI 0) rfl ?_
  refine v_lald C dL_law_1970 ((hp.fr 88 (.inr (by decide))).trans hf1) (by decide) rfl (j := 0) (by decide) (hy1 hr0) ?_
  refine v_iload C dL_law_1971 rfl ?_
  refine v_i2l C dL_law_1973 ?_
  refine v_lcmp C dL_law_1974 ?_
  exact v_if_eq C dL_law_1975 (tgt := 1980) (by decide) (fun _ => v_goto C dL_law_1980 (tgt := 2096) (by decide) (v_forget _ _ _ _ _ _ _ _ (K h2 S' sv' Z' F' _ J2 ⟨by show z.1 + z'.1 ≤ z.1 + 1; omega, by show z.2 + z'.2 ≤ z.2 + 6; omega⟩))) (fun hne => absurd (cmp_self _) hne)
theorem lc_inverseOutput {X : CT} {o : Oc} {P : Wt → Hp → Prop} (C : Cx X mL_law [] 10 zL o P) {z : Nat × Nat} {w : Wt} {h : Hp} {N i : Nat} {xs : Nat → Int32} {S Z : Sc} {sv : Bool} {F : Sf} (hs : SC X w N xs) (hN : N ≤ 2560) (hi : i + 5 ≤ N) (hz : z.1 + 1 ≤ 603072 ∧ z.2 + 6 ≤ 7157866) (hJ : JI2 h S sv Z F) (K : ∀ h' S' sv' Z' F' z', JI2 h' S' sv' Z' F' → z'.1 ≤ z.1 + 1 ∧ z'.2 ≤ z.2 + 6 → V X z' w h' 2096 (LL i) []) : V X z w h 1983 (LL i) [] := by
  obtain ⟨th, hR⟩ := hJ.2.1
  obtain ⟨f, hf⟩ := hJ.2.2
  obtain ⟨S', sv', Z', F', o', z', r, y, j8, j9, hr4, hc⟩ := jm_inverseOutput hJ.oks (w := w) (S := S) (sv := sv) (Z := Z) (F := F) (x := xs (i + 1))
  obtain ⟨d8, P8, hd8, c8, q8⟩ := j8 h hJ.1
  have hz' : z'.1 ≤ 1 ∧ z'.2 ≤ 6 := by rcases hc with ⟨-, -, rfl⟩ | ⟨E, -, -, rfl⟩ <;> decide
  have hJO : JO rwL_inverseOutput o' z' r f P8 (RW h S' sv' Z' F' r y.toInt64) := by
    rcases hc with ⟨rfl, rfl, rfl⟩ | ⟨E, rfl, hE, rfl⟩
    · exact .inl ⟨y, rfl, rfl, rfl, fun h1 p1 => ⟨((q8 h1 p1).gf 88 (by decide)).trans hf, rw_ok (q8 h1 p1)⟩⟩
    · exact .inr ⟨E, rfl, rfl, hE, fun h1 p1 => rw_thr (q8 h1 p1) hf (fun e => by subst e; simp [rwL_inverseOutput] at hE)⟩
  have cw := xL_inverseOutput hJO hJ.1.ob hd8 c8
  refine v_aload_n C dL_law_1983 rfl ?_
  refine v_aload_n C dL_law_1984 rfl ?_
  refine v_iload C dL_law_1985 rfl ?_
  refine v_iconst C dL_law_1987 (v := nI 1) rfl ?_
  refine v_iaddN C dL_law_1988 ?_
  refine v_sld C hs hN (by omega) dL_law_1989 ?_
  refine v_aload_n C dL_law_1990 rfl ?_
  refine v_callH C dL_law_1991 kL_inverseOutput (tj6 122 (by rfl) rfl) cw rfl rfl rfl ⟨by show z.1 + z'.1 ≤ 603072; omega, by show z.2 + z'.2 ≤ 7157866; omega⟩ rfl rfl (fun _ => rfl) (fun h1 R1 => ?_)
  dsimp only [Option.toList, List.cons_append, List.nil_append]
  obtain ⟨hP1, fr1, f1, hf1, hy1⟩ := R1
  have hR1 := hR.low (h' := h1) (fun j a b => fr1 j (by omega) (by omega))
  obtain ⟨d9, hd9, c9⟩ := j9 h1 _ hR1
  obtain ⟨u1, o1, -⟩ := hR1.o
  refine v_istore C dL_law_1994 rfl ?_
  dsimp only [sto1, sto2, killL]
  refine v_aload_n C dL_law_1996 rfl ?_
  refine v_aload_n C dL_law_1997 rfl ?_
  refine v_iload C dL_law_1998 rfl ?_
  refine v_iconst C dL_law_2000 (v := nI 1) rfl ?_
  refine v_iaddN C dL_law_2001 ?_
  refine v_sld C hs hN (by omega) dL_law_2002 ?_
  refine v_callV C dL_law_2003 vL_234 o1 c9 rfl (blt10 hd9) rfl ⟨Nat.ble_eq_true_of_le (by show z.1 + z'.1 ≤ 603072; omega), Nat.ble_eq_true_of_le (by show z.2 + z'.2 ≤ 7157866; omega)⟩ rfl rfl (fun _ => rfl) (fun h2 hp => ?_)
  dsimp only [Option.toList, List.cons_append, List.nil_append]
  refine v_istore C dL_law_2006 rfl ?_
  dsimp only [sto1, sto2, killL]
  refine v_aload_n C dL_law_2008 rfl ?_
  obtain ⟨u2, o2, t2, -⟩ := hp.o
  refine v_callV C dL_law_2009 vL_122 o2 (k9_thrown o2) rfl rfl rfl ⟨Nat.ble_eq_true_of_le (by show z.1 + z'.1 ≤ 603072; omega), Nat.ble_eq_true_of_le (by show z.2 + z'.2 ≤ 7157866; omega)⟩ rfl rfl (fun _ => rfl) (fun h3 e3 => ?_)
  rw [show h3 = _ from e3]
  dsimp only [Option.toList, List.cons_append, List.nil_append]
  rw [t2]
  have J2 : JI2 h2 S' sv' Z' F' := ⟨hP1.top (fun j hj => hp.fr j (.inl (by omega))), ⟨_, hp.low (fun _ _ _ => rfl)⟩, f1, (hp.fr 88 (.inr (by decide))).trans hf1⟩
  refine v_iload C dL_law_2012 rfl ?_
  refine v_icmp_eqN C dL_law_2014 (tgt := 2019) (by decide) (by omega) (by omega) (fun _ => ?_) (fun hne => absurd rfl hne)
  refine v_iload C dL_law_2019 rfl ?_
  refine v_if_neN C dL_law_2021 (tgt := 2036) (by decide) (by omega) (fun _ => v_goto C dL_law_2036 (tgt := 2096) (by decide) (v_forget _ _ _ _ _ _ _ _ (K h2 S' sv' Z' F' _ J2 ⟨by show z.1 + z'.1 ≤ z.1 + 1; omega, by show z.2 + z'.2 ≤ z.2 + 6; omega⟩))) (fun hr0 => ?_)
  refine v_aload_n C dL_law_2024 rfl ?_
  refine v_iconst C dL_law_2025 (v := nI 0) rfl ?_
  refine v_lald C dL_law_2026 ((hp.fr 88 (.inr (by decide))).trans hf1) (by decide) rfl (j := 0) (by decide) (hy1 hr0) ?_
  refine v_iload C dL_law_2027 rfl ?_
  refine v_i2l C dL_law_2029 ?_
  refine v_lcmp C dL_law_2030 ?_
  exact v_if_eq C dL_law_2031 (tgt := 2036) (by decide) (fun _ => v_goto C dL_law_2036 (tgt := 2096) (by decide) (v_forget _ _ _ _ _ _ _ _ (K h2 S' sv' Z' F' _ J2 ⟨by show z.1 + z'.1 ≤ z.1 + 1; omega, by show z.2 + z'.2 ≤ z.2 + 6; omega⟩))) (fun hne => absurd (cmp_self _) hne)
theorem lc_save {X : CT} {o : Oc} {P : Wt → Hp → Prop} (C : Cx X mL_law [] 10 zL o P) {z : Nat × Nat} {w : Wt} {h : Hp} {N i : Nat} {xs : Nat → Int32} {S Z : Sc} {sv : Bool} {F : Sf} (hs : SC X w N xs) (hN : N ≤ 2560) (hi : i + 5 ≤ N) (hz : z.1 + 1 ≤ 603072 ∧ z.2 + 6 ≤ 7157866) (hJ : JI2 h S sv Z F) (K : ∀ h' S' sv' Z' F' z', JI2 h' S' sv' Z' F' → z'.1 ≤ z.1 + 1 ∧ z'.2 ≤ z.2 + 6 → V X z' w h' 2096 (LL i) []) : V X z w h 2039 (LL i) [] := by
  obtain ⟨th, hR⟩ := hJ.2.1
  obtain ⟨f, hf⟩ := hJ.2.2
  obtain ⟨S', sv', Z', F', r, j8, j9⟩ := jd_save (w := w) (S := S) (sv := sv) (Z := Z) (F := F)
  obtain ⟨d8, P8, hd8, c8, q8⟩ := j8 h hJ.1
  refine v_aload_n C dL_law_2039 rfl ?_
  refine v_callV C dL_law_2040 vL_235 hJ.1.ob c8 rfl (blt10 hd8) rfl ⟨Nat.ble_eq_true_of_le (by show z.1 ≤ 603072; omega), Nat.ble_eq_true_of_le (by show z.2 ≤ 7157866; omega)⟩ rfl rfl (fun _ => rfl) (fun h1 p1 => ?_)
  dsimp only [Option.toList, List.cons_append, List.nil_append]
  have hP1 := q8 h1 p1
  have hR1 := hR.low (h' := h1) (fun j a b => hP1.gf j (by omega))
  obtain ⟨d9, hd9, c9⟩ := j9 h1 _ hR1
  obtain ⟨u1, o1, -⟩ := hR1.o
  refine v_aload_n C dL_law_2043 rfl ?_
  refine v_callV C dL_law_2044 vL_238 o1 c9 rfl (blt10 hd9) rfl ⟨Nat.ble_eq_true_of_le (by show z.1 ≤ 603072; omega), Nat.ble_eq_true_of_le (by show z.2 ≤ 7157866; omega)⟩ rfl rfl (fun _ => rfl) (fun h2 hp => ?_)
  dsimp only [Option.toList, List.cons_append, List.nil_append]
  refine v_lcmp C dL_law_2047 ?_
  exact v_if_eq C dL_law_2048 (tgt := 2096) (by decide) (fun _ => K h2 S' sv' Z' F' _ ⟨hP1.top (fun j hj => hp.fr j (.inl (by omega))), ⟨_, hp.low (fun _ _ _ => rfl)⟩, f, (hp.fr 88 (.inr (by decide))).trans ((hP1.gf 88 (by decide)).trans hf)⟩ ⟨by omega, by omega⟩) (fun hne => absurd (cmp_self _) hne)
theorem lc_restore {X : CT} {o : Oc} {P : Wt → Hp → Prop} (C : Cx X mL_law [] 10 zL o P) {z : Nat × Nat} {w : Wt} {h : Hp} {N i : Nat} {xs : Nat → Int32} {S Z : Sc} {sv : Bool} {F : Sf} (hs : SC X w N xs) (hN : N ≤ 2560) (hi : i + 5 ≤ N) (hz : z.1 + 1 ≤ 603072 ∧ z.2 + 6 ≤ 7157866) (hJ : JI2 h S sv Z F) (K : ∀ h' S' sv' Z' F' z', JI2 h' S' sv' Z' F' → z'.1 ≤ z.1 + 1 ∧ z'.2 ≤ z.2 + 6 → V X z' w h' 2096 (LL i) []) : V X z w h 2053 (LL i) [] := by
  obtain ⟨th, hR⟩ := hJ.2.1
  obtain ⟨f, hf⟩ := hJ.2.2
  obtain ⟨S', sv', Z', F', o', z', r, y, j8, j9, hr4, hc⟩ := jm_restore (w := w) (S := S) (sv := sv) (Z := Z) (F := F) 
  obtain ⟨d8, P8, hd8, c8, q8⟩ := j8 h hJ.1
  have hz' : z'.1 ≤ 1 ∧ z'.2 ≤ 6 := by rcases hc with ⟨-, -, rfl⟩ | ⟨E, -, -, rfl⟩ <;> decide
  have hJO : JOL rwL_restore o' z' r f P8 (RW h S' sv' Z' F' r y) := by
    rcases hc with ⟨rfl, rfl, rfl⟩ | ⟨E, rfl, hE, rfl⟩
    · exact .inl ⟨y, rfl, rfl, rfl, fun h1 p1 => ⟨((q8 h1 p1).gf 88 (by decide)).trans hf, rw_ok (q8 h1 p1)⟩⟩
    · exact .inr ⟨E, rfl, rfl, hE, fun h1 p1 => rw_thr (q8 h1 p1) hf (fun e => by subst e; simp [rwL_restore] at hE)⟩
  have cw := xL_restore hJO hJ.1.ob hd8 c8
  refine v_aload_n C dL_law_2053 rfl ?_
  refine v_aload_n C dL_law_2054 rfl ?_
  refine v_callH C dL_law_2055 kL_restore (tj6 135 (by rfl) rfl) cw rfl rfl rfl ⟨by show z.1 + z'.1 ≤ 603072; omega, by show z.2 + z'.2 ≤ 7157866; omega⟩ rfl rfl (fun _ => rfl) (fun h1 R1 => ?_)
  dsimp only [Option.toList, List.cons_append, List.nil_append]
  obtain ⟨hP1, fr1, f1, hf1, hy1⟩ := R1
  have hR1 := hR.low (h' := h1) (fun j a b => fr1 j (by omega) (by omega))
  obtain ⟨d9, hd9, c9⟩ := j9 h1 _ hR1
  obtain ⟨u1, o1, -⟩ := hR1.o
  refine v_istore C dL_law_2058 rfl ?_
  dsimp only [sto1, sto2, killL]
  refine v_aload_n C dL_law_2060 rfl ?_
  refine v_callV C dL_law_2061 vL_241 o1 c9 rfl (blt10 hd9) rfl ⟨Nat.ble_eq_true_of_le (by show z.1 + z'.1 ≤ 603072; omega), Nat.ble_eq_true_of_le (by show z.2 + z'.2 ≤ 7157866; omega)⟩ rfl rfl (fun _ => rfl) (fun h2 hp => ?_)
  dsimp only [Option.toList, List.cons_append, List.nil_append]
  refine v_lstore C dL_law_2064 rfl ?_
  dsimp only [sto1, sto2, killL]
  refine v_aload_n C dL_law_2066 rfl ?_
  obtain ⟨u2, o2, t2, -⟩ := hp.o
  refine v_callV C dL_law_2067 vL_122 o2 (k9_thrown o2) rfl rfl rfl ⟨Nat.ble_eq_true_of_le (by show z.1 + z'.1 ≤ 603072; omega), Nat.ble_eq_true_of_le (by show z.2 + z'.2 ≤ 7157866; omega)⟩ rfl rfl (fun _ => rfl) (fun h3 e3 => ?_)
  rw [show h3 = _ from e3]
  dsimp only [Option.toList, List.cons_append, List.nil_append]
  rw [t2]
  have J2 : JI2 h2 S' sv' Z' F' := ⟨hP1.top (fun j hj => hp.fr j (.inl (by omega))), ⟨_, hp.low (fun _ _ _ => rfl)⟩, f1, (hp.fr 88 (.inr (by decide))).trans hf1⟩
  refine v_iload C dL_law_2070 rfl ?_
  refine v_icmp_eqN C dL_law_2072 (tgt := 2077) (by decide) (by omega) (by omega) (fun _ => ?_) (fun hne => absurd rfl hne)
  refine v_iload C dL_law_2077 rfl ?_
  refine v_if_neN C dL_law_2079 (tgt := 2093) (by decide) (by omega) (fun _ => v_goto C dL_law_2093 (tgt := 2096) (by decide) (v_forget _ _ _ _ _ _ _ _ (K h2 S' sv' Z' F' _ J2 ⟨by show z.1 + z'.1 ≤ z.1 + 1; omega, by show z.2 + z'.2 ≤ z.2 + 6; omega⟩))) (fun hr0 => ?_)
  refine v_aload_n C dL_law_2082 rfl ?_
  refine v_iconst C dL_law_2083 (v := nI 0) rfl ?_
  refine v_lald C dL_law_2084 ((hp.fr 88 (.inr (by decide))).trans hf1) (by decide) rfl (j := 0) (by decide) (hy1 hr0) ?_
  refine v_lload C dL_law_2085 rfl ?_
  refine v_lcmp C dL_law_2087 ?_
  exact v_if_eq C dL_law_2088 (tgt := 2093) (by decide) (fun _ => v_goto C dL_law_2093 (tgt := 2096) (by decide) (v_forget _ _ _ _ _ _ _ _ (K h2 S' sv' Z' F' _ J2 ⟨by show z.1 + z'.1 ≤ z.1 + 1; omega, by show z.2 + z'.2 ≤ z.2 + 6; omega⟩))) (fun hne => absurd (cmp_self _) hne)
