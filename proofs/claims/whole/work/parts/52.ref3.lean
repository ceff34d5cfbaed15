theorem camp_dis {c e : Nat} (hc : isCamp c) (he : isCamp e) (h : c ≠ e) : c + 9 < e ∨ e + 9 < c := by
  rcases hc with rfl | rfl | rfl | rfl | rfl | rfl | rfl <;> rcases he with rfl | rfl | rfl | rfl | rfl | rfl | rfl <;> omega
def hB (k : kT) (n : Nat) : kT := fun x => if 14 ≤ x ∧ (x - 14) % 4 = 1 ∧ (x - 14) / 4 < n then newBt k ((x - 14) / 4) else k x
def hS (k : kT) (n : Nat) : kT := fun x => if 4 ≤ x ∧ x < 14 ∧ x % 2 = 0 ∧ (x - 4) / 2 < n then newSt k ((x - 4) / 2) else hB k (k 0) x
theorem hB_0 (k : kT) : hB k 0 = k := by
  funext x
  unfold hB
  rw [if_neg (by omega)]
theorem hS_0 (k : kT) : hS k 0 = hB k (k 0) := by
  funext x
  unfold hS
  rw [if_neg (by omega)]
theorem hB_low (k : kT) (n : Nat) {x : Nat} (h : x < 14) : hB k n x = k x := by
  unfold hB
  rw [if_neg (by omega)]
theorem hS_low (k : kT) (n : Nat) {x : Nat} (h : x < 4) : hS k n x = k x := by
  unfold hS
  rw [if_neg (by omega), hB_low _ _ (by omega)]
theorem RM_B {a i : Nat} {T : jm_I2} {k : kT} (h : RM a T (hB k i)) (hi : i < 5) : RM a (jm_upd T a (14 + 4 * i + 1) (nI (newBt k i))) (hB k (i + 1)) := by
  intro x hx
  rw [upd_at]
  unfold hB
  by_cases e : x = 14 + 4 * i + 1
  · rw [if_pos ⟨rfl, e⟩, if_pos (by omega), show (x - 14) / 4 = i by omega]
  · rw [if_neg (fun q => e q.2), h x hx]
    unfold hB
    by_cases e2 : 14 ≤ x ∧ (x - 14) % 4 = 1 ∧ (x - 14) / 4 < i
    · rw [if_pos e2, if_pos (by omega)]
    · rw [if_neg e2, if_neg (by omega)]
theorem RM_S {a i : Nat} {T : jm_I2} {k : kT} (h : RM a T (hS k i)) (hi : i < 5) : RM a (jm_upd T a (4 + 2 * i) (nI (newSt k i))) (hS k (i + 1)) := by
  intro x hx
  rw [upd_at]
  unfold hS
  by_cases e : x = 4 + 2 * i
  · rw [if_pos ⟨rfl, e⟩, if_pos (by omega), show (x - 4) / 2 = i by omega]
  · rw [if_neg (fun q => e q.2), h x hx]
    unfold hS
    by_cases e2 : 4 ≤ x ∧ x < 14 ∧ x % 2 = 0 ∧ (x - 4) / 2 < i
    · rw [if_pos e2, if_pos (by omega)]
    · rw [if_neg e2, if_neg (by omega)]
theorem RM_H {a : Nat} {T : jm_I2} {k : kT} (h : RM a T (hS k (k 1))) : RM a (jm_upd T a 3 (nI (k 3 + 1))) (hourA k) := by
  intro x hx
  rw [upd_at]
  unfold hourA
  by_cases e : x = 3
  · rw [if_pos ⟨rfl, e⟩, if_pos e]
  · rw [if_neg (fun q => e q.2), if_neg e, h x hx]
    unfold hS hB
    rfl
theorem pop6_0 : ∀ p, p < 64 → (pop6 p = 0 ↔ p = 0) := by decide +kernel
section
variable {L d : Nat} {Z : Option Value → jm_I2 → Prop}
theorem rh_loop1 {a : Nat} {k : kT} {S : jm_I2} (ha : isRA a) (hM : RM a S k) (hV : KV k) (hZ : ∀ u3 u4, WQ L (d + 4) 166 152 [.ref 128, .ref a, .int (nI (k 0)), u3, u4] [] (fillS S 137 (fun r => nI (newBt k r)) (k 0)) Z) : ∀ i, i ≤ k 0 → ∀ u3 u4, WQ L (d + 4) 166 2 [.ref 128, .ref a, .int (nI i), u3, u4] [] (fillS S 137 (fun r => nI (newBt k r)) i) Z := by
  have hs := ra_sh L ha
  have hm := mod_sh L
  have v0 := hV.1
  have hM' : ∀ i, RM a (fillS S 137 (fun r => nI (newBt k r)) i) k := fun i x hx => by rw [fillS_ne (by omega)]; exact hM x hx
  apply down_ind
  · intro u3 u4
    have e0 := hM' (k 0) 0 (by decide)
    rw [w166_2]
    simp (disch := omega) only [w166_3, w166_4, w166_5, w166_6, hs, hm, ↓neg_vN, lit_nI, nI_leI, nI_ltI, nI_eq, jm_in_nI, nI_clamp, nI_add, n_mul, pk_sub, n_le_t, n_le_f, n_lt_t, n_lt_f, n_eq_t, n_eq_f, true_and, and_true, ne_eq, not_false_eq_true, not_true_eq_false, min_n, max_n, dif_n, n_rem, n_div, or_nI, shl_nI, Option.toList_some, Option.toList_none, List.singleton_append, List.nil_append, if_true, if_false, or_true, true_or, or_false, false_or, and_false, false_and, Bool.false_eq_true, e0]
    exact hZ u3 u4
  · intro i hi ih u3 u4
    refine rh_body ha (hM' i) hV hi (fun u3 u4 => ?_)
    rw [fillS_S S 137 (fun r => nI (newBt k r)) i]
    exact ih u3 u4
theorem rh_loop2 {a : Nat} {k : kT} {S : jm_I2} (ha : isRA a) (hM : RM a S k) (hV : KV k) (hZ : ∀ u3 u4, WQ L (d + 4) 166 228 [.ref 128, .ref a, .int (nI (k 1)), u3, u4] [] (fillS S 138 (fun r => nI (newSt k r)) (k 1)) Z) : ∀ i, i ≤ k 1 → ∀ u3 u4, WQ L (d + 4) 166 154 [.ref 128, .ref a, .int (nI i), u3, u4] [] (fillS S 138 (fun r => nI (newSt k r)) i) Z := by
  have hs := ra_sh L ha
  have hm := mod_sh L
  have v0 := hV.1
  have v1 := hV.2.1
  have hM' : ∀ i, RM a (fillS S 138 (fun r => nI (newSt k r)) i) k := fun i x hx => by rw [fillS_ne (by omega)]; exact hM x hx
  apply down_ind
  · intro u3 u4
    have e0 := hM' (k 1) 1 (by decide)
    rw [w166_154]
    simp (disch := omega) only [w166_155, w166_156, w166_157, w166_158, hs, hm, ↓neg_vN, lit_nI, nI_leI, nI_ltI, nI_eq, jm_in_nI, nI_clamp, nI_add, n_mul, pk_sub, n_le_t, n_le_f, n_lt_t, n_lt_f, n_eq_t, n_eq_f, true_and, and_true, ne_eq, not_false_eq_true, not_true_eq_false, min_n, max_n, dif_n, n_rem, n_div, or_nI, shl_nI, Option.toList_some, Option.toList_none, List.singleton_append, List.nil_append, if_true, if_false, or_true, true_or, or_false, false_or, and_false, false_and, Bool.false_eq_true, e0]
    exact hZ u3 u4
  · intro i hi ih u3 u4
    have e0 := hM' i 1 (by decide)
    obtain ⟨w1, w2⟩ := hV.2.2.2.2.1 i hi
    have hb := bset64 (fun r => kPd k r i) v0
    have hq := pop6_le (bset (fun r => kPd k r i) (k 0))
    have h0 := pop6_0 (bset (fun r => kPd k r i) (k 0)) (by omega)
    have ih' : ∀ v u3 u4, v = newSt k i → WQ L (d + 4) 166 154 [.ref 128, .ref a, .int (nI (i + 1)), u3, u4] [] (jm_upd (fillS S 138 (fun r => nI (newSt k r)) i) 138 i (nI v)) Z := fun v u3 u4 e => by
      rw [e, fillS_S S 138 (fun r => nI (newSt k r)) i]
      exact ih u3 u4
    clear ih
    rw [w166_154]
    by_cases hp : bset (fun r => kPd k r i) (k 0) = 0
    · have hp6 := h0.mpr hp
      by_cases hP : kSt k i + 2 ≤ 20
      · simp (disch := omega) only [w166_155, w166_156, w166_157, w166_158, w166_161, w166_162, w166_163, w166_166, w166_169, w166_170, w166_171, w166_174, w166_175, w166_176, w166_179, w166_180, w166_181, w166_184, w166_185, w166_186, w166_189, w166_190, w166_191, w166_193, w166_194, w166_197, w166_198, w166_200, w166_203, w166_204, w166_207, w166_209, w166_211, w166_214, w166_216, w166_219, w166_221, w166_222, w166_225, hs, hm, ↓neg_vN, lit_nI, nI_leI, nI_ltI, nI_eq, jm_in_nI, nI_clamp, nI_add, n_mul, pk_sub, n_le_t, n_le_f, n_lt_t, n_lt_f, n_eq_t, n_eq_f, true_and, and_true, ne_eq, not_false_eq_true, not_true_eq_false, min_n, max_n, dif_n, n_rem, n_div, or_nI, shl_nI, Option.toList_some, Option.toList_none, List.singleton_append, List.nil_append, if_true, if_false, or_true, true_or, or_false, false_or, and_false, false_and, Bool.false_eq_true, e0, r_rulesOf ha (hM' i) hV, r_bits, hp6, r_strength ha (hM' i)]
        exact ih' _ _ _ (by unfold newSt strV; rw [if_pos hp]; omega)
      · simp (disch := omega) only [w166_155, w166_156, w166_157, w166_158, w166_161, w166_162, w166_163, w166_166, w166_169, w166_170, w166_171, w166_174, w166_175, w166_176, w166_179, w166_180, w166_181, w166_184, w166_185, w166_186, w166_189, w166_190, w166_191, w166_193, w166_194, w166_197, w166_198, w166_200, w166_203, w166_204, w166_207, w166_209, w166_211, w166_214, w166_216, w166_219, w166_221, w166_222, w166_225, hs, hm, ↓neg_vN, lit_nI, nI_leI, nI_ltI, nI_eq, jm_in_nI, nI_clamp, nI_add, n_mul, pk_sub, n_le_t, n_le_f, n_lt_t, n_lt_f, n_eq_t, n_eq_f, true_and, and_true, ne_eq, not_false_eq_true, not_true_eq_false, min_n, max_n, dif_n, n_rem, n_div, or_nI, shl_nI, Option.toList_some, Option.toList_none, List.singleton_append, List.nil_append, if_true, if_false, or_true, true_or, or_false, false_or, and_false, false_and, Bool.false_eq_true, e0, r_rulesOf ha (hM' i) hV, r_bits, hp6, r_strength ha (hM' i)]
        exact ih' _ _ _ (by unfold newSt strV; rw [if_pos hp]; omega)
    · have hp6 : ¬ pop6 (bset (fun r => kPd k r i) (k 0)) = 0 := fun q => hp (h0.mp q)
      by_cases hP : pop6 (bset (fun r => kPd k r i) (k 0)) ≤ kSt k i
      · simp (disch := omega) only [w166_155, w166_156, w166_157, w166_158, w166_161, w166_162, w166_163, w166_166, w166_169, w166_170, w166_171, w166_174, w166_175, w166_176, w166_179, w166_180, w166_181, w166_184, w166_185, w166_186, w166_189, w166_190, w166_191, w166_193, w166_194, w166_197, w166_198, w166_200, w166_203, w166_204, w166_207, w166_209, w166_211, w166_214, w166_216, w166_219, w166_221, w166_222, w166_225, hs, hm, ↓neg_vN, lit_nI, nI_leI, nI_ltI, nI_eq, jm_in_nI, nI_clamp, nI_add, n_mul, pk_sub, n_le_t, n_le_f, n_lt_t, n_lt_f, n_eq_t, n_eq_f, true_and, and_true, ne_eq, not_false_eq_true, not_true_eq_false, min_n, max_n, dif_n, n_rem, n_div, or_nI, shl_nI, Option.toList_some, Option.toList_none, List.singleton_append, List.nil_append, if_true, if_false, or_true, true_or, or_false, false_or, and_false, false_and, Bool.false_eq_true, e0, r_rulesOf ha (hM' i) hV, r_bits, hp6, r_strength ha (hM' i)]
        exact ih' _ _ _ (by unfold newSt strV; rw [if_neg hp]; omega)
      · simp (disch := omega) only [w166_155, w166_156, w166_157, w166_158, w166_161, w166_162, w166_163, w166_166, w166_169, w166_170, w166_171, w166_174, w166_175, w166_176, w166_179, w166_180, w166_181, w166_184, w166_185, w166_186, w166_189, w166_190, w166_191, w166_193, w166_194, w166_197, w166_198, w166_200, w166_203, w166_204, w166_207, w166_209, w166_211, w166_214, w166_216, w166_219, w166_221, w166_222, w166_225, hs, hm, ↓neg_vN, lit_nI, nI_leI, nI_ltI, nI_eq, jm_in_nI, nI_clamp, nI_add, n_mul, pk_sub, n_le_t, n_le_f, n_lt_t, n_lt_f, n_eq_t, n_eq_f, true_and, and_true, ne_eq, not_false_eq_true, not_true_eq_false, min_n, max_n, dif_n, n_rem, n_div, or_nI, shl_nI, Option.toList_some, Option.toList_none, List.singleton_append, List.nil_append, if_true, if_false, or_true, true_or, or_false, false_or, and_false, false_and, Bool.false_eq_true, e0, r_rulesOf ha (hM' i) hV, r_bits, hp6, r_strength ha (hM' i), f_dif]
        exact ih' _ _ _ (by unfold newSt strV; rw [if_neg hp]; omega)
theorem r_hour {a : Nat} {k : kT} {S : jm_I2} (ha : isRA a) (hM : RM a S k) (hV : KV k) (hZ : ∀ T, RM a T (hourA k) → (∀ o, o ≠ a → o ≠ 137 → o ≠ 138 → T o = S o) → Z none T) : CL L (d + 4) 166 [.ref 128, .ref a] S Z := by
  have hs := ra_sh L ha
  have hm := mod_sh L
  have v0 := hV.1
  have v1 := hV.2.1
  simp (disch := omega) only [cl166, w166_0, w166_1, ↓neg_vN, lit_nI, nI_leI, nI_ltI, nI_eq, jm_in_nI, nI_clamp, nI_add, n_mul, pk_sub, n_le_t, n_le_f, n_lt_t, n_lt_f, n_eq_t, n_eq_f, true_and, and_true, ne_eq, not_false_eq_true, not_true_eq_false, min_n, max_n, dif_n, n_rem, n_div, or_nI, shl_nI, Option.toList_some, Option.toList_none, List.singleton_append, List.nil_append, if_true, if_false, or_true, true_or, or_false, false_or, and_false, false_and, Bool.false_eq_true]
  have A := rh_loop1 (L := L) (d := d) (Z := Z) ha hM hV ?_ 0 (Nat.zero_le _)
  · rw [fillS_0] at A
    exact A _ _
  intro u3 u4
  simp (disch := omega) only [w166_152, w166_153, ↓neg_vN, lit_nI, nI_leI, nI_ltI, nI_eq, jm_in_nI, nI_clamp, nI_add, n_mul, pk_sub, n_le_t, n_le_f, n_lt_t, n_lt_f, n_eq_t, n_eq_f, true_and, and_true, ne_eq, not_false_eq_true, not_true_eq_false, min_n, max_n, dif_n, n_rem, n_div, or_nI, shl_nI, Option.toList_some, Option.toList_none, List.singleton_append, List.nil_append, if_true, if_false, or_true, true_or, or_false, false_or, and_false, false_and, Bool.false_eq_true]
  have hM1 : RM a (fillS S 137 (fun r => nI (newBt k r)) (k 0)) k := fun x hx => by rw [fillS_ne (by omega)]; exact hM x hx
  have A := rh_loop2 (L := L) (d := d) (Z := Z) ha hM1 hV ?_ 0 (Nat.zero_le _)
  · rw [fillS_0] at A
    exact A _ _
  intro u3 u4
  simp (disch := omega) only [w166_228, w166_229, ↓neg_vN, lit_nI, nI_leI, nI_ltI, nI_eq, jm_in_nI, nI_clamp, nI_add, n_mul, pk_sub, n_le_t, n_le_f, n_lt_t, n_lt_f, n_eq_t, n_eq_f, true_and, and_true, ne_eq, not_false_eq_true, not_true_eq_false, min_n, max_n, dif_n, n_rem, n_div, or_nI, shl_nI, Option.toList_some, Option.toList_none, List.singleton_append, List.nil_append, if_true, if_false, or_true, true_or, or_false, false_or, and_false, false_and, Bool.false_eq_true]
  generalize hT0 : fillS (fillS S 137 (fun r => nI (newBt k r)) (k 0)) 138 (fun r => nI (newSt k r)) (k 1) = T0
  have f0 : ∀ o, o ≠ 137 → o ≠ 138 → T0 o = S o := fun o h1 h2 => by rw [← hT0, fillS_ne h2, fillS_ne h1]
  have fB : ∀ r, r < k 0 → T0 137 r = nI (newBt k r) := fun r hr => by rw [← hT0, fillS_ne (by decide), fillS_lt hr]
  have fS : ∀ h, h < k 1 → T0 138 h = nI (newSt k h) := fun r hr => by rw [← hT0, fillS_lt hr]
  have hM0 : RM a T0 k := fun x hx => by rw [f0 a (by omega) (by omega)]; exact hM x hx
  clear hT0 hM1
  have l4 : ∀ i, i ≤ k 1 → ∀ T, RM a T (hS k i) → (∀ o, o ≠ a → T o = T0 o) → WQ L (d + 4) 166 257 [.ref 128, .ref a, .int (nI i), u3, u4] [] T Z := by
    apply down_ind
    · intro T hT hf
      have e1 := hT 1 (by decide)
      have e3 := hT 3 (by decide)
      rw [hS_low _ _ (by decide)] at e1 e3
      rw [w166_257]
      simp (disch := omega) only [w166_258, w166_259, w166_260, w166_261, w166_264, w166_265, w166_266, w166_267, w166_268, w166_269, w166_270, w166_271, w166_274, w166_275, w166_276, w166_277, w166_280, w166_283, w166_284, w166_285, w166_286, w166_287, w166_288, w166_289, w166_290, hs, hm, ↓neg_vN, lit_nI, nI_leI, nI_ltI, nI_eq, jm_in_nI, nI_clamp, nI_add, n_mul, pk_sub, n_le_t, n_le_f, n_lt_t, n_lt_f, n_eq_t, n_eq_f, true_and, and_true, ne_eq, not_false_eq_true, not_true_eq_false, min_n, max_n, dif_n, n_rem, n_div, or_nI, shl_nI, Option.toList_some, Option.toList_none, List.singleton_append, List.nil_append, if_true, if_false, or_true, true_or, or_false, false_or, and_false, false_and, Bool.false_eq_true, e1, e3]
      exact hZ _ (RM_H hT) (fun o h1 h2 h3 => by
        funext x
        rw [upd_at, if_neg (fun q => h1 q.1), hf o h1, f0 o h2 h3])
    · intro i hi ih T hT hf
      have e1 := hT 1 (by decide)
      rw [hS_low _ _ (by decide)] at e1
      have e2 : T 138 i = nI (newSt k i) := by rw [hf 138 (by omega), fS i hi]
      rw [w166_257]
      simp (disch := omega) only [w166_258, w166_259, w166_260, w166_261, w166_264, w166_265, w166_266, w166_267, w166_268, w166_269, w166_270, w166_271, w166_274, w166_275, w166_276, w166_277, w166_280, hs, hm, ↓neg_vN, lit_nI, nI_leI, nI_ltI, nI_eq, jm_in_nI, nI_clamp, nI_add, n_mul, pk_sub, n_le_t, n_le_f, n_lt_t, n_lt_f, n_eq_t, n_eq_f, true_and, and_true, ne_eq, not_false_eq_true, not_true_eq_false, min_n, max_n, dif_n, n_rem, n_div, or_nI, shl_nI, Option.toList_some, Option.toList_none, List.singleton_append, List.nil_append, if_true, if_false, or_true, true_or, or_false, false_or, and_false, false_and, Bool.false_eq_true, e1, e2]
      exact ih _ (RM_S hT (by omega)) (fun o h1 => by
        funext x
        rw [upd_at, if_neg (fun q => h1 q.1), hf o h1])
  have l3 : ∀ i, i ≤ k 0 → ∀ T, RM a T (hB k i) → (∀ o, o ≠ a → T o = T0 o) → WQ L (d + 4) 166 230 [.ref 128, .ref a, .int (nI i), u3, u4] [] T Z := by
    apply down_ind
    · intro T hT hf
      have e0 := hT 0 (by decide)
      rw [hB_low _ _ (by decide)] at e0
      rw [w166_230]
      simp (disch := omega) only [w166_231, w166_232, w166_233, w166_234, w166_237, w166_238, w166_239, w166_240, w166_241, w166_244, w166_245, w166_246, w166_249, w166_252, w166_255, w166_256, hs, hm, ↓neg_vN, lit_nI, nI_leI, nI_ltI, nI_eq, jm_in_nI, nI_clamp, nI_add, n_mul, pk_sub, n_le_t, n_le_f, n_lt_t, n_lt_f, n_eq_t, n_eq_f, true_and, and_true, ne_eq, not_false_eq_true, not_true_eq_false, min_n, max_n, dif_n, n_rem, n_div, or_nI, shl_nI, Option.toList_some, Option.toList_none, List.singleton_append, List.nil_append, if_true, if_false, or_true, true_or, or_false, false_or, and_false, false_and, Bool.false_eq_true, e0]
      exact l4 0 (Nat.zero_le _) T (by rw [hS_0]; exact hT) hf
    · intro i hi ih T hT hf
      have e0 := hT 0 (by decide)
      rw [hB_low _ _ (by decide)] at e0
      have e2 : T 137 i = nI (newBt k i) := by rw [hf 137 (by omega), fB i hi]
      rw [w166_230]
      simp (disch := omega) only [w166_231, w166_232, w166_233, w166_234, w166_237, w166_238, w166_239, w166_240, w166_241, w166_244, w166_245, w166_246, w166_249, w166_252, hs, hm, ↓neg_vN, lit_nI, nI_leI, nI_ltI, nI_eq, jm_in_nI, nI_clamp, nI_add, n_mul, pk_sub, n_le_t, n_le_f, n_lt_t, n_lt_f, n_eq_t, n_eq_f, true_and, and_true, ne_eq, not_false_eq_true, not_true_eq_false, min_n, max_n, dif_n, n_rem, n_div, or_nI, shl_nI, Option.toList_some, Option.toList_none, List.singleton_append, List.nil_append, if_true, if_false, or_true, true_or, or_false, false_or, and_false, false_and, Bool.false_eq_true, e0, e2, r_be ha]
      exact ih _ (RM_B hT (by omega)) (fun o h1 => by
        funext x
        rw [upd_at, if_neg (fun q => h1 q.1), hf o h1])
  exact l3 0 (Nat.zero_le _) T0 (by rw [hB_0]; exact hM0) (fun o _ => rfl)
/-- n hours on -/
def hoursA (k : kT) : Nat → kT
  | 0 => k
  | n + 1 => hourA (hoursA k n)
theorem hoursA_low (k : kT) : ∀ n, hoursA k n 0 = k 0 ∧ hoursA k n 1 = k 1 ∧ hoursA k n 2 = k 2 ∧ hoursA k n 3 = k 3 + n
  | 0 => ⟨rfl, rfl, rfl, rfl⟩
  | n + 1 => by
    obtain ⟨h0, h1, h2, h3⟩ := hoursA_low k n
    exact ⟨h0, h1, h2, by show hoursA k n 3 + 1 = _; omega⟩
theorem KV_hours {k : kT} (hV : KV k) : ∀ n, k 3 + n ≤ 100000 → KV (hoursA k n)
  | 0, _ => hV
  | n + 1, h => KV_hour (KV_hours hV n (by omega)) (by rw [(hoursA_low k n).2.2.2]; omega)
theorem r_hoursOf {a n : Nat} {k : kT} {S : jm_I2} (ha : isRA a) (hM : RM a S k) (hV : KV k) (hn : k 3 + n ≤ 100000) (hZ : ∀ T, RM a T (hoursA k n) → (∀ o, o ≠ a → o ≠ 137 → o ≠ 138 → T o = S o) → Z none T) : CL L (d + 5) 167 [.ref 128, .ref a, .int (nI n)] S Z := by
  have hm := mod_sh L
  simp (disch := omega) only [cl167, w167_0, w167_1, ↓neg_vN, lit_nI, nI_leI, nI_ltI, nI_eq, jm_in_nI, nI_clamp, nI_add, n_mul, pk_sub, n_le_t, n_le_f, n_lt_t, n_lt_f, n_eq_t, n_eq_f, true_and, and_true, ne_eq, not_false_eq_true, not_true_eq_false, min_n, max_n, dif_n, n_rem, n_div, or_nI, shl_nI, Option.toList_some, Option.toList_none, List.singleton_append, List.nil_append, if_true, if_false, or_true, true_or, or_false, false_or, and_false, false_and, Bool.false_eq_true]
  have l : ∀ i, i ≤ n → ∀ T, RM a T (hoursA k i) → (∀ o, o ≠ a → o ≠ 137 → o ≠ 138 → T o = S o) → WQ L (d + 5) 167 2 [.ref 128, .ref a, .int (nI n), .int (nI i)] [] T Z := by
    apply down_ind
    · intro T hT hf
      rw [w167_2]
      simp (disch := omega) only [w167_3, w167_4, w167_7, w167_8, w167_9, w167_12, w167_15, w167_18, hm, ↓neg_vN, lit_nI, nI_leI, nI_ltI, nI_eq, jm_in_nI, nI_clamp, nI_add, n_mul, pk_sub, n_le_t, n_le_f, n_lt_t, n_lt_f, n_eq_t, n_eq_f, true_and, and_true, ne_eq, not_false_eq_true, not_true_eq_false, min_n, max_n, dif_n, n_rem, n_div, or_nI, shl_nI, Option.toList_some, Option.toList_none, List.singleton_append, List.nil_append, if_true, if_false, or_true, true_or, or_false, false_or, and_false, false_and, Bool.false_eq_true]
      exact hZ T hT hf
    · intro i hi ih T hT hf
      rw [w167_2]
      simp (disch := omega) only [w167_3, w167_4, w167_7, w167_8, w167_9, w167_12, w167_15, w167_18, hm, ↓neg_vN, lit_nI, nI_leI, nI_ltI, nI_eq, jm_in_nI, nI_clamp, nI_add, n_mul, pk_sub, n_le_t, n_le_f, n_lt_t, n_lt_f, n_eq_t, n_eq_f, true_and, and_true, ne_eq, not_false_eq_true, not_true_eq_false, min_n, max_n, dif_n, n_rem, n_div, or_nI, shl_nI, Option.toList_some, Option.toList_none, List.singleton_append, List.nil_append, if_true, if_false, or_true, true_or, or_false, false_or, and_false, false_and, Bool.false_eq_true]
      refine r_hour ha hT (KV_hours hV i (by omega)) (fun T2 h2 hf2 => ?_)
      simp (disch := omega) only [w167_3, w167_4, w167_7, w167_8, w167_9, w167_12, w167_15, w167_18, hm, ↓neg_vN, lit_nI, nI_leI, nI_ltI, nI_eq, jm_in_nI, nI_clamp, nI_add, n_mul, pk_sub, n_le_t, n_le_f, n_lt_t, n_lt_f, n_eq_t, n_eq_f, true_and, and_true, ne_eq, not_false_eq_true, not_true_eq_false, min_n, max_n, dif_n, n_rem, n_div, or_nI, shl_nI, Option.toList_some, Option.toList_none, List.singleton_append, List.nil_append, if_true, if_false, or_true, true_or, or_false, false_or, and_false, false_and, Bool.false_eq_true]
      exact ih T2 h2 (fun o h1 h3 h4 => by rw [hf2 o h1 h3 h4, hf o h1 h3 h4])
  exact l 0 (Nat.zero_le _) S hM (fun o _ _ _ => rfl)
theorem c_passHours {c n : Nat} {S : jm_I2} {k : kT} (hc : isCamp c) (hX : RX c S k) (hV : KV k) (h1 : 0 < k 1) (hn : k 3 + n ≤ 100000) (hZ : ∀ T, RX c T (hoursA k n) → offC c S T → Z none T) : CL L (d + 3) 19 [.ref c, .int (nI n)] S Z := by
  have hs := camp_sh hc
  simp (disch := omega) only [cl19, w19_0, w19_1, ↓neg_vN, lit_nI, nI_leI, nI_ltI, nI_eq, jm_in_nI, nI_clamp, nI_add, n_mul, pk_sub, n_le_t, n_le_f, n_lt_t, n_lt_f, n_eq_t, n_eq_f, true_and, and_true, ne_eq, not_false_eq_true, not_true_eq_false, min_n, max_n, dif_n, n_rem, n_div, or_nI, shl_nI, Option.toList_some, Option.toList_none, List.singleton_append, List.nil_append, if_true, if_false, or_true, true_or, or_false, false_or, and_false, false_and, Bool.false_eq_true]
  have l : ∀ i, i ≤ n → ∀ T, RX c T (hoursA k i) → offC c S T → WQ L (d + 3) 19 2 [.ref c, .int (nI n), .int (nI i)] [] T Z := by
    apply down_ind
    · intro T hT hf
      rw [w19_2]
      simp (disch := omega) only [w19_3, w19_4, w19_7, w19_8, w19_11, w19_14, w19_17, hs, ↓neg_vN, lit_nI, nI_leI, nI_ltI, nI_eq, jm_in_nI, nI_clamp, nI_add, n_mul, pk_sub, n_le_t, n_le_f, n_lt_t, n_lt_f, n_eq_t, n_eq_f, true_and, and_true, ne_eq, not_false_eq_true, not_true_eq_false, min_n, max_n, dif_n, n_rem, n_div, or_nI, shl_nI, Option.toList_some, Option.toList_none, List.singleton_append, List.nil_append, if_true, if_false, or_true, true_or, or_false, false_or, and_false, false_and, Bool.false_eq_true]
      exact hZ T hT hf
    · intro i hi ih T hT hf
      rw [w19_2]
      simp (disch := omega) only [w19_3, w19_4, w19_7, w19_8, w19_11, w19_14, w19_17, hs, ↓neg_vN, lit_nI, nI_leI, nI_ltI, nI_eq, jm_in_nI, nI_clamp, nI_add, n_mul, pk_sub, n_le_t, n_le_f, n_lt_t, n_lt_f, n_eq_t, n_eq_f, true_and, and_true, ne_eq, not_false_eq_true, not_true_eq_false, min_n, max_n, dif_n, n_rem, n_div, or_nI, shl_nI, Option.toList_some, Option.toList_none, List.singleton_append, List.nil_append, if_true, if_false, or_true, true_or, or_false, false_or, and_false, false_and, Bool.false_eq_true]
      refine c_passHour hc hT (KV_hours hV i (by omega)) (by rw [(hoursA_low k i).2.1]; exact h1) (fun T2 h2 hf2 => ?_)
      simp (disch := omega) only [w19_3, w19_4, w19_7, w19_8, w19_11, w19_14, w19_17, hs, ↓neg_vN, lit_nI, nI_leI, nI_ltI, nI_eq, jm_in_nI, nI_clamp, nI_add, n_mul, pk_sub, n_le_t, n_le_f, n_lt_t, n_lt_f, n_eq_t, n_eq_f, true_and, and_true, ne_eq, not_false_eq_true, not_true_eq_false, min_n, max_n, dif_n, n_rem, n_div, or_nI, shl_nI, Option.toList_some, Option.toList_none, List.singleton_append, List.nil_append, if_true, if_false, or_true, true_or, or_false, false_or, and_false, false_and, Bool.false_eq_true]
      exact ih T2 h2 (fun o ho => by rw [hf2 o ho, hf o ho])
  exact l 0 (Nat.zero_le _) S hX (fun o _ => rfl)
theorem c_become {c e : Nat} {S : jm_I2} {k : kT} (hc : isCamp c) (he : isCamp e) (hce : c ≠ e) (hX : RX e S k) (hV : KV k) (hZ : ∀ T, RX c T k → offC c S T → Z none T) : CL L (d + 1) 15 [.ref c, .ref e] S Z := by
  have hs := camp_sh hc
  have hs2 := camp_sh he
  have hd := camp_dis hc he hce
  simp (disch := first | omega | exact nI_pos (by omega) | (rw [nI_clamp (by omega), nI_clamp (by omega)]; omega)) only [cl15, w15_0, w15_1, w15_2, w15_5, w15_8, w15_9, w15_10, w15_13, w15_16, w15_17, w15_18, w15_21, w15_24, w15_25, w15_26, w15_29, w15_32, w15_33, w15_36, w15_37, w15_38, w15_41, w15_42, w15_43, w15_46, w15_47, w15_50, w15_51, w15_52, w15_55, w15_56, w15_57, w15_60, w15_61, w15_64, w15_65, w15_66, w15_69, w15_70, w15_71, w15_74, w15_75, w15_78, w15_79, w15_80, w15_83, w15_84, w15_85, w15_88, w15_89, w15_92, w15_93, w15_94, w15_97, w15_98, w15_99, w15_102, w15_103, w15_106, w15_107, w15_108, w15_111, w15_112, w15_113, w15_116, hs, hs2, ↓neg_vN, lit_nI, nI_leI, nI_ltI, nI_eq, jm_in_nI, nI_clamp, nI_add, n_mul, pk_sub, n_le_t, n_le_f, n_lt_t, n_lt_f, n_eq_t, n_eq_f, true_and, and_true, ne_eq, not_false_eq_true, not_true_eq_false, min_n, max_n, dif_n, n_rem, n_div, or_nI, shl_nI, Option.toList_some, Option.toList_none, List.singleton_append, List.nil_append, if_true, if_false, or_true, true_or, or_false, false_or, and_false, false_and, Bool.false_eq_true]
  clear hs hs2
  obtain ⟨v0, v1, v2, v3, v4, v5⟩ := hV
  obtain ⟨x0, x1, x2, x3, x4, x5⟩ := hX
  clear v2 v3 v4 v5 hc he hce
  refine hZ _ ⟨?_, ?_, ?_, ?_, fun h hh => ?_, fun r hr => ?_⟩ (fun o ho => ?_) <;> clear hZ
  · simp (disch := omega) only [row_at, upd_at, n_eq_f, n_eq_t, and_true, and_false, if_true, if_false, false_and, x0]
  · simp (disch := omega) only [row_at, upd_at, n_eq_f, n_eq_t, and_true, and_false, if_true, if_false, false_and, x1]
  · simp (disch := omega) only [row_at, upd_at, n_eq_f, n_eq_t, and_true, and_false, if_true, if_false, false_and, x2]
  · simp (disch := omega) only [row_at, upd_at, n_eq_f, n_eq_t, and_true, and_false, if_true, if_false, false_and, x3]
  · obtain ⟨y1, y2⟩ := x4 h hh
    simp (disch := omega) only [row_at, upd_at, n_eq_f, n_eq_t, and_true, and_false, if_true, if_false, false_and, pk_cpy_in, Nat.zero_add, Nat.sub_zero, y1, y2, and_self]
  · obtain ⟨y1, y2, y3, y4⟩ := x5 r hr
    simp (disch := omega) only [row_at, upd_at, n_eq_f, n_eq_t, and_true, and_false, if_true, if_false, false_and, pk_cpy_in, Nat.zero_add, Nat.sub_zero, y1, y2, y3, y4, and_self]
  · funext i
    simp (disch := omega) only [row_at, upd_at, n_eq_f, n_eq_t, and_true, and_false, if_true, if_false, false_and]
theorem r_layThen {k : kT} {S : jm_I2} (hM : RM 132 S k) : CL L d 172 [.ref 128] S Z ↔ Z none (fillS S 134 (fun i => nI (k i)) 34) := by
  have hm := mod_sh L
  have l : ∀ i, i ≤ 34 → (WQ L d 172 2 [.ref 128, .int (nI i)] [] (fillS S 134 (fun i => nI (k i)) i) Z ↔ Z none (fillS S 134 (fun i => nI (k i)) 34)) := by
    apply down_ind
    · rw [w172_2]
      simp (disch := omega) only [w172_3, w172_5, w172_8, w172_9, w172_12, w172_13, w172_14, w172_17, w172_18, w172_19, w172_20, w172_23, w172_26, hm, ↓neg_vN, lit_nI, nI_leI, nI_ltI, nI_eq, jm_in_nI, nI_clamp, nI_add, n_mul, pk_sub, n_le_t, n_le_f, n_lt_t, n_lt_f, n_eq_t, n_eq_f, true_and, and_true, ne_eq, not_false_eq_true, not_true_eq_false, min_n, max_n, dif_n, n_rem, n_div, or_nI, shl_nI, Option.toList_some, Option.toList_none, List.singleton_append, List.nil_append, if_true, if_false, or_true, true_or, or_false, false_or, and_false, false_and, Bool.false_eq_true]
    · intro i hi ih
      have e : fillS S 134 (fun i => nI (k i)) i 132 i = nI (k i) := by rw [fillS_ne (by decide), hM i hi]
      rw [← ih, w172_2, ← fillS_S S 134 (fun i => nI (k i)) i]
      simp (disch := omega) only [w172_3, w172_5, w172_8, w172_9, w172_12, w172_13, w172_14, w172_17, w172_18, w172_19, w172_20, w172_23, w172_26, hm, ↓neg_vN, lit_nI, nI_leI, nI_ltI, nI_eq, jm_in_nI, nI_clamp, nI_add, n_mul, pk_sub, n_le_t, n_le_f, n_lt_t, n_lt_f, n_eq_t, n_eq_f, true_and, and_true, ne_eq, not_false_eq_true, not_true_eq_false, min_n, max_n, dif_n, n_rem, n_div, or_nI, shl_nI, Option.toList_some, Option.toList_none, List.singleton_append, List.nil_append, if_true, if_false, or_true, true_or, or_false, false_or, and_false, false_and, Bool.false_eq_true, e]
  have := l 0 (Nat.zero_le _)
  rw [fillS_0] at this
  simp (disch := omega) only [cl172, w172_0, w172_1, ↓neg_vN, lit_nI, nI_leI, nI_ltI, nI_eq, jm_in_nI, nI_clamp, nI_add, n_mul, pk_sub, n_le_t, n_le_f, n_lt_t, n_lt_f, n_eq_t, n_eq_f, true_and, and_true, ne_eq, not_false_eq_true, not_true_eq_false, min_n, max_n, dif_n, n_rem, n_div, or_nI, shl_nI, Option.toList_some, Option.toList_none, List.singleton_append, List.nil_append, if_true, if_false, or_true, true_or, or_false, false_or, and_false, false_and, Bool.false_eq_true]
  exact this
end
