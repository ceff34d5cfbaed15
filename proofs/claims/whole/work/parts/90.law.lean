/-! ===== the law's loop ===== -/
theorem CL_mono {L d j : Nat} {as : List Value} {S : jm_I2} {Z Z2 : Option Value → jm_I2 → Prop} (h : CL L d j as S Z) (hz : ∀ r T, Z r T → Z2 r T) : CL L d j as S Z2 := by
  obtain ⟨l0, h1, f, r, S', h2, h3⟩ := h
  exact ⟨l0, h1, f, r, S', h2, hz r S' h3⟩
theorem CL_keep {L d j : Nat} {as : List Value} {S : jm_I2} {Z : Option Value → jm_I2 → Prop} (h : CL L d j as S Z) : CL L d j as S (fun r T => Z r T ∧ T jx_S = S jx_S) := by
  obtain ⟨l0, h1, f, r, S', h2, h3⟩ := h
  exact ⟨l0, h1, f, r, S', h2, h3, (jm_run_kp f (show jm_sh.length ≤ jx_S by decide +kernel) h2).1⟩
section
variable {xs : Nat → Int32} {L : Nat} {S : jm_I2} {Z : Option Value → jm_I2 → Prop} {i : Nat}
theorem law_row (hi : i + 6 ≤ L) (hL : L ≤ 384) (hI : Inv xs S) (hZ : ∀ T, Inv xs T → WQ (L + 1) 100 223 1442 [.ref jx_S, .ref 0, .ref 128, .int (nI i)] [] T Z) : WQ (L + 1) 100 223 204 [.ref jx_S, .ref 0, .ref 128, .int (nI i)] [] S Z := by
  obtain ⟨k, hI⟩ := hI
  have ht := top_sh (L + 1)
  have hm := mod_sh (L + 1)
  have hS := sh_S L
  have sx : S jx_S = xs := hI.1.1
  simp (disch := omega) only [w223_204, w223_205, w223_206, w223_207, w223_208, w223_209, w223_210, w223_211, w223_212, w223_213, w223_214, w223_215, w223_216, w223_217, w223_218, w223_219, w223_220, ht, hm, hS, ↓neg_vM, ↓neg_vB, ↓neg_vS, ↓neg_vF, ↓neg_vO, ↓neg_vA, ↓neg_vN, lit_nI, nI_leI, nI_ltI, nI_eq, jm_in_nI, nI_clamp, nI_add, n_mul, pk_sub, n_le_t, n_le_f, n_lt_t, n_lt_f, n_eq_t, n_eq_f, true_and, and_true, ne_eq, not_false_eq_true, not_true_eq_false, min_n, max_n, dif_n, n_rem, n_div, or_nI, shl_nI, Option.toList_some, Option.toList_none, List.singleton_append, List.nil_append, if_true, if_false, or_true, true_or, or_false, false_or, and_false, false_and, Bool.false_eq_true, sx]
  refine CL_mono (CL_keep (p_row (L := L + 1) (d := 90) hI)) (fun r T hz => ?_)
  obtain ⟨⟨v, rfl, hz⟩, tx⟩ := hz
  have tx' : T jx_S = xs := tx.trans sx
  simp (disch := omega) only [w223_223, w223_224, w223_225, w223_226, w223_227, w223_228, w223_229, w223_230, w223_231, w223_232, w223_233, w223_234, w223_235, w223_236, w223_237, w223_238, w223_239, ht, hm, hS, ↓neg_vM, ↓neg_vB, ↓neg_vS, ↓neg_vF, ↓neg_vO, ↓neg_vA, ↓neg_vN, lit_nI, nI_leI, nI_ltI, nI_eq, jm_in_nI, nI_clamp, nI_add, n_mul, pk_sub, n_le_t, n_le_f, n_lt_t, n_lt_f, n_eq_t, n_eq_f, true_and, and_true, ne_eq, not_false_eq_true, not_true_eq_false, min_n, max_n, dif_n, n_rem, n_div, or_nI, shl_nI, Option.toList_some, Option.toList_none, List.singleton_append, List.nil_append, if_true, if_false, or_true, true_or, or_false, false_or, and_false, false_and, Bool.false_eq_true, tx']
  refine CL_mono hz (fun r U hu => ?_)
  obtain ⟨rfl, hu⟩ := hu
  simp (disch := omega) only [w223_242, ↓neg_vM, ↓neg_vB, ↓neg_vS, ↓neg_vF, ↓neg_vO, ↓neg_vA, ↓neg_vN, lit_nI, nI_leI, nI_ltI, nI_eq, jm_in_nI, nI_clamp, nI_add, n_mul, pk_sub, n_le_t, n_le_f, n_lt_t, n_lt_f, n_eq_t, n_eq_f, true_and, and_true, ne_eq, not_false_eq_true, not_true_eq_false, min_n, max_n, dif_n, n_rem, n_div, or_nI, shl_nI, Option.toList_some, Option.toList_none, List.singleton_append, List.nil_append, if_true, if_false, or_true, true_or, or_false, false_or, and_false, false_and, Bool.false_eq_true]
  exact hZ U hu
theorem law_set (hi : i + 6 ≤ L) (hL : L ≤ 384) (hI : Inv xs S) (hZ : ∀ T, Inv xs T → WQ (L + 1) 100 223 1442 [.ref jx_S, .ref 0, .ref 128, .int (nI i)] [] T Z) : WQ (L + 1) 100 223 247 [.ref jx_S, .ref 0, .ref 128, .int (nI i)] [] S Z := by
  obtain ⟨k, hI⟩ := hI
  have ht := top_sh (L + 1)
  have hm := mod_sh (L + 1)
  have hS := sh_S L
  have sx : S jx_S = xs := hI.1.1
  simp (disch := omega) only [w223_247, w223_248, w223_249, w223_250, w223_251, w223_252, w223_253, w223_254, w223_255, w223_256, w223_257, w223_258, w223_259, w223_260, w223_261, w223_262, w223_263, ht, hm, hS, ↓neg_vM, ↓neg_vB, ↓neg_vS, ↓neg_vF, ↓neg_vO, ↓neg_vA, ↓neg_vN, lit_nI, nI_leI, nI_ltI, nI_eq, jm_in_nI, nI_clamp, nI_add, n_mul, pk_sub, n_le_t, n_le_f, n_lt_t, n_lt_f, n_eq_t, n_eq_f, true_and, and_true, ne_eq, not_false_eq_true, not_true_eq_false, min_n, max_n, dif_n, n_rem, n_div, or_nI, shl_nI, Option.toList_some, Option.toList_none, List.singleton_append, List.nil_append, if_true, if_false, or_true, true_or, or_false, false_or, and_false, false_and, Bool.false_eq_true, sx]
  refine CL_mono (CL_keep (p_set (L := L + 1) (d := 90) hI)) (fun r T hz => ?_)
  obtain ⟨⟨v, rfl, hz⟩, tx⟩ := hz
  have tx' : T jx_S = xs := tx.trans sx
  simp (disch := omega) only [w223_266, w223_267, w223_268, w223_269, w223_270, w223_271, w223_272, w223_273, w223_274, w223_275, w223_276, w223_277, w223_278, w223_279, w223_280, w223_281, w223_282, ht, hm, hS, ↓neg_vM, ↓neg_vB, ↓neg_vS, ↓neg_vF, ↓neg_vO, ↓neg_vA, ↓neg_vN, lit_nI, nI_leI, nI_ltI, nI_eq, jm_in_nI, nI_clamp, nI_add, n_mul, pk_sub, n_le_t, n_le_f, n_lt_t, n_lt_f, n_eq_t, n_eq_f, true_and, and_true, ne_eq, not_false_eq_true, not_true_eq_false, min_n, max_n, dif_n, n_rem, n_div, or_nI, shl_nI, Option.toList_some, Option.toList_none, List.singleton_append, List.nil_append, if_true, if_false, or_true, true_or, or_false, false_or, and_false, false_and, Bool.false_eq_true, tx']
  refine CL_mono hz (fun r U hu => ?_)
  obtain ⟨rfl, hu⟩ := hu
  simp (disch := omega) only [w223_285, ↓neg_vM, ↓neg_vB, ↓neg_vS, ↓neg_vF, ↓neg_vO, ↓neg_vA, ↓neg_vN, lit_nI, nI_leI, nI_ltI, nI_eq, jm_in_nI, nI_clamp, nI_add, n_mul, pk_sub, n_le_t, n_le_f, n_lt_t, n_lt_f, n_eq_t, n_eq_f, true_and, and_true, ne_eq, not_false_eq_true, not_true_eq_false, min_n, max_n, dif_n, n_rem, n_div, or_nI, shl_nI, Option.toList_some, Option.toList_none, List.singleton_append, List.nil_append, if_true, if_false, or_true, true_or, or_false, false_or, and_false, false_and, Bool.false_eq_true]
  exact hZ U hu
theorem law_copy (hi : i + 6 ≤ L) (hL : L ≤ 384) (hI : Inv xs S) (hZ : ∀ T, Inv xs T → WQ (L + 1) 100 223 1442 [.ref jx_S, .ref 0, .ref 128, .int (nI i)] [] T Z) : WQ (L + 1) 100 223 290 [.ref jx_S, .ref 0, .ref 128, .int (nI i)] [] S Z := by
  obtain ⟨k, hI⟩ := hI
  have ht := top_sh (L + 1)
  have hm := mod_sh (L + 1)
  have hS := sh_S L
  have sx : S jx_S = xs := hI.1.1
  simp (disch := omega) only [w223_290, w223_291, w223_292, w223_293, w223_294, w223_295, w223_296, w223_297, w223_298, w223_299, w223_300, w223_301, w223_302, w223_303, w223_304, w223_305, w223_306, w223_307, w223_308, w223_309, w223_310, w223_311, w223_312, w223_313, w223_314, w223_315, w223_316, ht, hm, hS, ↓neg_vM, ↓neg_vB, ↓neg_vS, ↓neg_vF, ↓neg_vO, ↓neg_vA, ↓neg_vN, lit_nI, nI_leI, nI_ltI, nI_eq, jm_in_nI, nI_clamp, nI_add, n_mul, pk_sub, n_le_t, n_le_f, n_lt_t, n_lt_f, n_eq_t, n_eq_f, true_and, and_true, ne_eq, not_false_eq_true, not_true_eq_false, min_n, max_n, dif_n, n_rem, n_div, or_nI, shl_nI, Option.toList_some, Option.toList_none, List.singleton_append, List.nil_append, if_true, if_false, or_true, true_or, or_false, false_or, and_false, false_and, Bool.false_eq_true, sx]
  refine CL_mono (CL_keep (p_copy (L := L + 1) (d := 90) hI)) (fun r T hz => ?_)
  obtain ⟨⟨v, rfl, hz⟩, tx⟩ := hz
  have tx' : T jx_S = xs := tx.trans sx
  simp (disch := omega) only [w223_319, w223_320, w223_321, w223_322, w223_323, w223_324, w223_325, w223_326, w223_327, w223_328, w223_329, w223_330, w223_331, w223_332, w223_333, w223_334, w223_335, w223_336, w223_337, w223_338, w223_339, w223_340, w223_341, w223_342, w223_343, w223_344, w223_345, ht, hm, hS, ↓neg_vM, ↓neg_vB, ↓neg_vS, ↓neg_vF, ↓neg_vO, ↓neg_vA, ↓neg_vN, lit_nI, nI_leI, nI_ltI, nI_eq, jm_in_nI, nI_clamp, nI_add, n_mul, pk_sub, n_le_t, n_le_f, n_lt_t, n_lt_f, n_eq_t, n_eq_f, true_and, and_true, ne_eq, not_false_eq_true, not_true_eq_false, min_n, max_n, dif_n, n_rem, n_div, or_nI, shl_nI, Option.toList_some, Option.toList_none, List.singleton_append, List.nil_append, if_true, if_false, or_true, true_or, or_false, false_or, and_false, false_and, Bool.false_eq_true, tx']
  refine CL_mono hz (fun r U hu => ?_)
  obtain ⟨rfl, hu⟩ := hu
  simp (disch := omega) only [w223_348, ↓neg_vM, ↓neg_vB, ↓neg_vS, ↓neg_vF, ↓neg_vO, ↓neg_vA, ↓neg_vN, lit_nI, nI_leI, nI_ltI, nI_eq, jm_in_nI, nI_clamp, nI_add, n_mul, pk_sub, n_le_t, n_le_f, n_lt_t, n_lt_f, n_eq_t, n_eq_f, true_and, and_true, ne_eq, not_false_eq_true, not_true_eq_false, min_n, max_n, dif_n, n_rem, n_div, or_nI, shl_nI, Option.toList_some, Option.toList_none, List.singleton_append, List.nil_append, if_true, if_false, or_true, true_or, or_false, false_or, and_false, false_and, Bool.false_eq_true]
  exact hZ U hu
theorem law_drop (hi : i + 6 ≤ L) (hL : L ≤ 384) (hI : Inv xs S) (hZ : ∀ T, Inv xs T → WQ (L + 1) 100 223 1442 [.ref jx_S, .ref 0, .ref 128, .int (nI i)] [] T Z) : WQ (L + 1) 100 223 353 [.ref jx_S, .ref 0, .ref 128, .int (nI i)] [] S Z := by
  obtain ⟨k, hI⟩ := hI
  have ht := top_sh (L + 1)
  have hm := mod_sh (L + 1)
  have hS := sh_S L
  have sx : S jx_S = xs := hI.1.1
  simp (disch := omega) only [w223_353, w223_354, w223_355, w223_356, w223_357, w223_358, w223_359, ht, hm, hS, ↓neg_vM, ↓neg_vB, ↓neg_vS, ↓neg_vF, ↓neg_vO, ↓neg_vA, ↓neg_vN, lit_nI, nI_leI, nI_ltI, nI_eq, jm_in_nI, nI_clamp, nI_add, n_mul, pk_sub, n_le_t, n_le_f, n_lt_t, n_lt_f, n_eq_t, n_eq_f, true_and, and_true, ne_eq, not_false_eq_true, not_true_eq_false, min_n, max_n, dif_n, n_rem, n_div, or_nI, shl_nI, Option.toList_some, Option.toList_none, List.singleton_append, List.nil_append, if_true, if_false, or_true, true_or, or_false, false_or, and_false, false_and, Bool.false_eq_true, sx]
  refine CL_mono (CL_keep (p_drop (L := L + 1) (d := 90) hI)) (fun r T hz => ?_)
  obtain ⟨⟨v, rfl, hz⟩, tx⟩ := hz
  have tx' : T jx_S = xs := tx.trans sx
  simp (disch := omega) only [w223_362, w223_363, w223_364, w223_365, w223_366, w223_367, w223_368, ht, hm, hS, ↓neg_vM, ↓neg_vB, ↓neg_vS, ↓neg_vF, ↓neg_vO, ↓neg_vA, ↓neg_vN, lit_nI, nI_leI, nI_ltI, nI_eq, jm_in_nI, nI_clamp, nI_add, n_mul, pk_sub, n_le_t, n_le_f, n_lt_t, n_lt_f, n_eq_t, n_eq_f, true_and, and_true, ne_eq, not_false_eq_true, not_true_eq_false, min_n, max_n, dif_n, n_rem, n_div, or_nI, shl_nI, Option.toList_some, Option.toList_none, List.singleton_append, List.nil_append, if_true, if_false, or_true, true_or, or_false, false_or, and_false, false_and, Bool.false_eq_true, tx']
  refine CL_mono hz (fun r U hu => ?_)
  obtain ⟨rfl, hu⟩ := hu
  simp (disch := omega) only [w223_371, ↓neg_vM, ↓neg_vB, ↓neg_vS, ↓neg_vF, ↓neg_vO, ↓neg_vA, ↓neg_vN, lit_nI, nI_leI, nI_ltI, nI_eq, jm_in_nI, nI_clamp, nI_add, n_mul, pk_sub, n_le_t, n_le_f, n_lt_t, n_lt_f, n_eq_t, n_eq_f, true_and, and_true, ne_eq, not_false_eq_true, not_true_eq_false, min_n, max_n, dif_n, n_rem, n_div, or_nI, shl_nI, Option.toList_some, Option.toList_none, List.singleton_append, List.nil_append, if_true, if_false, or_true, true_or, or_false, false_or, and_false, false_and, Bool.false_eq_true]
  exact hZ U hu
theorem law_feed (hi : i + 6 ≤ L) (hL : L ≤ 384) (hI : Inv xs S) (hZ : ∀ T, Inv xs T → WQ (L + 1) 100 223 1442 [.ref jx_S, .ref 0, .ref 128, .int (nI i)] [] T Z) : WQ (L + 1) 100 223 376 [.ref jx_S, .ref 0, .ref 128, .int (nI i)] [] S Z := by
  obtain ⟨k, hI⟩ := hI
  have ht := top_sh (L + 1)
  have hm := mod_sh (L + 1)
  have hS := sh_S L
  have sx : S jx_S = xs := hI.1.1
  simp (disch := omega) only [w223_376, w223_377, w223_378, w223_379, w223_380, w223_381, w223_382, ht, hm, hS, ↓neg_vM, ↓neg_vB, ↓neg_vS, ↓neg_vF, ↓neg_vO, ↓neg_vA, ↓neg_vN, lit_nI, nI_leI, nI_ltI, nI_eq, jm_in_nI, nI_clamp, nI_add, n_mul, pk_sub, n_le_t, n_le_f, n_lt_t, n_lt_f, n_eq_t, n_eq_f, true_and, and_true, ne_eq, not_false_eq_true, not_true_eq_false, min_n, max_n, dif_n, n_rem, n_div, or_nI, shl_nI, Option.toList_some, Option.toList_none, List.singleton_append, List.nil_append, if_true, if_false, or_true, true_or, or_false, false_or, and_false, false_and, Bool.false_eq_true, sx]
  refine CL_mono (CL_keep (p_feed (L := L + 1) (d := 90) hI)) (fun r T hz => ?_)
  obtain ⟨⟨v, rfl, hz⟩, tx⟩ := hz
  have tx' : T jx_S = xs := tx.trans sx
  simp (disch := omega) only [w223_385, w223_386, w223_387, w223_388, w223_389, w223_390, w223_391, ht, hm, hS, ↓neg_vM, ↓neg_vB, ↓neg_vS, ↓neg_vF, ↓neg_vO, ↓neg_vA, ↓neg_vN, lit_nI, nI_leI, nI_ltI, nI_eq, jm_in_nI, nI_clamp, nI_add, n_mul, pk_sub, n_le_t, n_le_f, n_lt_t, n_lt_f, n_eq_t, n_eq_f, true_and, and_true, ne_eq, not_false_eq_true, not_true_eq_false, min_n, max_n, dif_n, n_rem, n_div, or_nI, shl_nI, Option.toList_some, Option.toList_none, List.singleton_append, List.nil_append, if_true, if_false, or_true, true_or, or_false, false_or, and_false, false_and, Bool.false_eq_true, tx']
  refine CL_mono hz (fun r U hu => ?_)
  obtain ⟨rfl, hu⟩ := hu
  simp (disch := omega) only [w223_394, ↓neg_vM, ↓neg_vB, ↓neg_vS, ↓neg_vF, ↓neg_vO, ↓neg_vA, ↓neg_vN, lit_nI, nI_leI, nI_ltI, nI_eq, jm_in_nI, nI_clamp, nI_add, n_mul, pk_sub, n_le_t, n_le_f, n_lt_t, n_lt_f, n_eq_t, n_eq_f, true_and, and_true, ne_eq, not_false_eq_true, not_true_eq_false, min_n, max_n, dif_n, n_rem, n_div, or_nI, shl_nI, Option.toList_some, Option.toList_none, List.singleton_append, List.nil_append, if_true, if_false, or_true, true_or, or_false, false_or, and_false, false_and, Bool.false_eq_true]
  exact hZ U hu
theorem law_camp (hi : i + 6 ≤ L) (hL : L ≤ 384) (hI : Inv xs S) (hZ : ∀ T, Inv xs T → WQ (L + 1) 100 223 1442 [.ref jx_S, .ref 0, .ref 128, .int (nI i)] [] T Z) : WQ (L + 1) 100 223 399 [.ref jx_S, .ref 0, .ref 128, .int (nI i)] [] S Z := by
  obtain ⟨k, hI⟩ := hI
  have ht := top_sh (L + 1)
  have hm := mod_sh (L + 1)
  have hS := sh_S L
  have sx : S jx_S = xs := hI.1.1
  simp (disch := omega) only [w223_399, w223_400, ht, hm, hS, ↓neg_vM, ↓neg_vB, ↓neg_vS, ↓neg_vF, ↓neg_vO, ↓neg_vA, ↓neg_vN, lit_nI, nI_leI, nI_ltI, nI_eq, jm_in_nI, nI_clamp, nI_add, n_mul, pk_sub, n_le_t, n_le_f, n_lt_t, n_lt_f, n_eq_t, n_eq_f, true_and, and_true, ne_eq, not_false_eq_true, not_true_eq_false, min_n, max_n, dif_n, n_rem, n_div, or_nI, shl_nI, Option.toList_some, Option.toList_none, List.singleton_append, List.nil_append, if_true, if_false, or_true, true_or, or_false, false_or, and_false, false_and, Bool.false_eq_true, sx]
  refine CL_mono (CL_keep (p_camp (L := L + 1) (d := 90) hI)) (fun r T hz => ?_)
  obtain ⟨⟨v, rfl, hz⟩, tx⟩ := hz
  have tx' : T jx_S = xs := tx.trans sx
  simp (disch := omega) only [w223_403, w223_404, ht, hm, hS, ↓neg_vM, ↓neg_vB, ↓neg_vS, ↓neg_vF, ↓neg_vO, ↓neg_vA, ↓neg_vN, lit_nI, nI_leI, nI_ltI, nI_eq, jm_in_nI, nI_clamp, nI_add, n_mul, pk_sub, n_le_t, n_le_f, n_lt_t, n_lt_f, n_eq_t, n_eq_f, true_and, and_true, ne_eq, not_false_eq_true, not_true_eq_false, min_n, max_n, dif_n, n_rem, n_div, or_nI, shl_nI, Option.toList_some, Option.toList_none, List.singleton_append, List.nil_append, if_true, if_false, or_true, true_or, or_false, false_or, and_false, false_and, Bool.false_eq_true, tx']
  refine CL_mono hz (fun r U hu => ?_)
  obtain ⟨rfl, hu⟩ := hu
  simp (disch := omega) only [w223_407, ↓neg_vM, ↓neg_vB, ↓neg_vS, ↓neg_vF, ↓neg_vO, ↓neg_vA, ↓neg_vN, lit_nI, nI_leI, nI_ltI, nI_eq, jm_in_nI, nI_clamp, nI_add, n_mul, pk_sub, n_le_t, n_le_f, n_lt_t, n_lt_f, n_eq_t, n_eq_f, true_and, and_true, ne_eq, not_false_eq_true, not_true_eq_false, min_n, max_n, dif_n, n_rem, n_div, or_nI, shl_nI, Option.toList_some, Option.toList_none, List.singleton_append, List.nil_append, if_true, if_false, or_true, true_or, or_false, false_or, and_false, false_and, Bool.false_eq_true]
  exact hZ U hu
theorem law_fault (hi : i + 6 ≤ L) (hL : L ≤ 384) (hI : Inv xs S) (hZ : ∀ T, Inv xs T → WQ (L + 1) 100 223 1442 [.ref jx_S, .ref 0, .ref 128, .int (nI i)] [] T Z) : WQ (L + 1) 100 223 412 [.ref jx_S, .ref 0, .ref 128, .int (nI i)] [] S Z := by
  obtain ⟨k, hI⟩ := hI
  have ht := top_sh (L + 1)
  have hm := mod_sh (L + 1)
  have hS := sh_S L
  have sx : S jx_S = xs := hI.1.1
  simp (disch := omega) only [w223_412, w223_413, ht, hm, hS, ↓neg_vM, ↓neg_vB, ↓neg_vS, ↓neg_vF, ↓neg_vO, ↓neg_vA, ↓neg_vN, lit_nI, nI_leI, nI_ltI, nI_eq, jm_in_nI, nI_clamp, nI_add, n_mul, pk_sub, n_le_t, n_le_f, n_lt_t, n_lt_f, n_eq_t, n_eq_f, true_and, and_true, ne_eq, not_false_eq_true, not_true_eq_false, min_n, max_n, dif_n, n_rem, n_div, or_nI, shl_nI, Option.toList_some, Option.toList_none, List.singleton_append, List.nil_append, if_true, if_false, or_true, true_or, or_false, false_or, and_false, false_and, Bool.false_eq_true, sx]
  refine CL_mono (CL_keep (p_fault (L := L + 1) (d := 94) hI)) (fun r T hz => ?_)
  obtain ⟨⟨v, rfl, hz⟩, tx⟩ := hz
  have tx' : T jx_S = xs := tx.trans sx
  simp (disch := omega) only [w223_416, w223_417, ht, hm, hS, ↓neg_vM, ↓neg_vB, ↓neg_vS, ↓neg_vF, ↓neg_vO, ↓neg_vA, ↓neg_vN, lit_nI, nI_leI, nI_ltI, nI_eq, jm_in_nI, nI_clamp, nI_add, n_mul, pk_sub, n_le_t, n_le_f, n_lt_t, n_lt_f, n_eq_t, n_eq_f, true_and, and_true, ne_eq, not_false_eq_true, not_true_eq_false, min_n, max_n, dif_n, n_rem, n_div, or_nI, shl_nI, Option.toList_some, Option.toList_none, List.singleton_append, List.nil_append, if_true, if_false, or_true, true_or, or_false, false_or, and_false, false_and, Bool.false_eq_true, tx']
  refine CL_mono hz (fun r U hu => ?_)
  obtain ⟨rfl, hu⟩ := hu
  simp (disch := omega) only [w223_420, ↓neg_vM, ↓neg_vB, ↓neg_vS, ↓neg_vF, ↓neg_vO, ↓neg_vA, ↓neg_vN, lit_nI, nI_leI, nI_ltI, nI_eq, jm_in_nI, nI_clamp, nI_add, n_mul, pk_sub, n_le_t, n_le_f, n_lt_t, n_lt_f, n_eq_t, n_eq_f, true_and, and_true, ne_eq, not_false_eq_true, not_true_eq_false, min_n, max_n, dif_n, n_rem, n_div, or_nI, shl_nI, Option.toList_some, Option.toList_none, List.singleton_append, List.nil_append, if_true, if_false, or_true, true_or, or_false, false_or, and_false, false_and, Bool.false_eq_true]
  exact hZ U hu
theorem law_undo (hi : i + 6 ≤ L) (hL : L ≤ 384) (hI : Inv xs S) (hZ : ∀ T, Inv xs T → WQ (L + 1) 100 223 1442 [.ref jx_S, .ref 0, .ref 128, .int (nI i)] [] T Z) : WQ (L + 1) 100 223 425 [.ref jx_S, .ref 0, .ref 128, .int (nI i)] [] S Z := by
  obtain ⟨k, hI⟩ := hI
  have ht := top_sh (L + 1)
  have hm := mod_sh (L + 1)
  have hS := sh_S L
  have sx : S jx_S = xs := hI.1.1
  simp (disch := omega) only [w223_425, w223_426, ht, hm, hS, ↓neg_vM, ↓neg_vB, ↓neg_vS, ↓neg_vF, ↓neg_vO, ↓neg_vA, ↓neg_vN, lit_nI, nI_leI, nI_ltI, nI_eq, jm_in_nI, nI_clamp, nI_add, n_mul, pk_sub, n_le_t, n_le_f, n_lt_t, n_lt_f, n_eq_t, n_eq_f, true_and, and_true, ne_eq, not_false_eq_true, not_true_eq_false, min_n, max_n, dif_n, n_rem, n_div, or_nI, shl_nI, Option.toList_some, Option.toList_none, List.singleton_append, List.nil_append, if_true, if_false, or_true, true_or, or_false, false_or, and_false, false_and, Bool.false_eq_true, sx]
  refine CL_mono (CL_keep (p_undo (L := L + 1) (d := 90) hI)) (fun r T hz => ?_)
  obtain ⟨⟨v, rfl, hz⟩, tx⟩ := hz
  have tx' : T jx_S = xs := tx.trans sx
  simp (disch := omega) only [w223_429, w223_430, ht, hm, hS, ↓neg_vM, ↓neg_vB, ↓neg_vS, ↓neg_vF, ↓neg_vO, ↓neg_vA, ↓neg_vN, lit_nI, nI_leI, nI_ltI, nI_eq, jm_in_nI, nI_clamp, nI_add, n_mul, pk_sub, n_le_t, n_le_f, n_lt_t, n_lt_f, n_eq_t, n_eq_f, true_and, and_true, ne_eq, not_false_eq_true, not_true_eq_false, min_n, max_n, dif_n, n_rem, n_div, or_nI, shl_nI, Option.toList_some, Option.toList_none, List.singleton_append, List.nil_append, if_true, if_false, or_true, true_or, or_false, false_or, and_false, false_and, Bool.false_eq_true, tx']
  refine CL_mono hz (fun r U hu => ?_)
  obtain ⟨rfl, hu⟩ := hu
  simp (disch := omega) only [w223_433, ↓neg_vM, ↓neg_vB, ↓neg_vS, ↓neg_vF, ↓neg_vO, ↓neg_vA, ↓neg_vN, lit_nI, nI_leI, nI_ltI, nI_eq, jm_in_nI, nI_clamp, nI_add, n_mul, pk_sub, n_le_t, n_le_f, n_lt_t, n_lt_f, n_eq_t, n_eq_f, true_and, and_true, ne_eq, not_false_eq_true, not_true_eq_false, min_n, max_n, dif_n, n_rem, n_div, or_nI, shl_nI, Option.toList_some, Option.toList_none, List.singleton_append, List.nil_append, if_true, if_false, or_true, true_or, or_false, false_or, and_false, false_and, Bool.false_eq_true]
  exact hZ U hu
theorem law_hours (hi : i + 6 ≤ L) (hL : L ≤ 384) (hI : Inv xs S) (hZ : ∀ T, Inv xs T → WQ (L + 1) 100 223 1442 [.ref jx_S, .ref 0, .ref 128, .int (nI i)] [] T Z) : WQ (L + 1) 100 223 438 [.ref jx_S, .ref 0, .ref 128, .int (nI i)] [] S Z := by
  obtain ⟨k, hI⟩ := hI
  have ht := top_sh (L + 1)
  have hm := mod_sh (L + 1)
  have hS := sh_S L
  have sx : S jx_S = xs := hI.1.1
  simp (disch := omega) only [w223_438, w223_439, w223_440, w223_441, w223_442, w223_443, w223_444, ht, hm, hS, ↓neg_vM, ↓neg_vB, ↓neg_vS, ↓neg_vF, ↓neg_vO, ↓neg_vA, ↓neg_vN, lit_nI, nI_leI, nI_ltI, nI_eq, jm_in_nI, nI_clamp, nI_add, n_mul, pk_sub, n_le_t, n_le_f, n_lt_t, n_lt_f, n_eq_t, n_eq_f, true_and, and_true, ne_eq, not_false_eq_true, not_true_eq_false, min_n, max_n, dif_n, n_rem, n_div, or_nI, shl_nI, Option.toList_some, Option.toList_none, List.singleton_append, List.nil_append, if_true, if_false, or_true, true_or, or_false, false_or, and_false, false_and, Bool.false_eq_true, sx]
  refine CL_mono (CL_keep (p_hours (L := L + 1) (d := 90) hI)) (fun r T hz => ?_)
  obtain ⟨⟨v, rfl, hz⟩, tx⟩ := hz
  have tx' : T jx_S = xs := tx.trans sx
  simp (disch := omega) only [w223_447, w223_448, w223_449, w223_450, w223_451, w223_452, w223_453, ht, hm, hS, ↓neg_vM, ↓neg_vB, ↓neg_vS, ↓neg_vF, ↓neg_vO, ↓neg_vA, ↓neg_vN, lit_nI, nI_leI, nI_ltI, nI_eq, jm_in_nI, nI_clamp, nI_add, n_mul, pk_sub, n_le_t, n_le_f, n_lt_t, n_lt_f, n_eq_t, n_eq_f, true_and, and_true, ne_eq, not_false_eq_true, not_true_eq_false, min_n, max_n, dif_n, n_rem, n_div, or_nI, shl_nI, Option.toList_some, Option.toList_none, List.singleton_append, List.nil_append, if_true, if_false, or_true, true_or, or_false, false_or, and_false, false_and, Bool.false_eq_true, tx']
  refine CL_mono hz (fun r U hu => ?_)
  obtain ⟨rfl, hu⟩ := hu
  simp (disch := omega) only [w223_456, ↓neg_vM, ↓neg_vB, ↓neg_vS, ↓neg_vF, ↓neg_vO, ↓neg_vA, ↓neg_vN, lit_nI, nI_leI, nI_ltI, nI_eq, jm_in_nI, nI_clamp, nI_add, n_mul, pk_sub, n_le_t, n_le_f, n_lt_t, n_lt_f, n_eq_t, n_eq_f, true_and, and_true, ne_eq, not_false_eq_true, not_true_eq_false, min_n, max_n, dif_n, n_rem, n_div, or_nI, shl_nI, Option.toList_some, Option.toList_none, List.singleton_append, List.nil_append, if_true, if_false, or_true, true_or, or_false, false_or, and_false, false_and, Bool.false_eq_true]
  exact hZ U hu
theorem law_give (hi : i + 6 ≤ L) (hL : L ≤ 384) (hI : Inv xs S) (hZ : ∀ T, Inv xs T → WQ (L + 1) 100 223 1442 [.ref jx_S, .ref 0, .ref 128, .int (nI i)] [] T Z) : WQ (L + 1) 100 223 461 [.ref jx_S, .ref 0, .ref 128, .int (nI i)] [] S Z := by
  obtain ⟨k, hI⟩ := hI
  have ht := top_sh (L + 1)
  have hm := mod_sh (L + 1)
  have hS := sh_S L
  have sx : S jx_S = xs := hI.1.1
  simp (disch := omega) only [w223_461, w223_462, w223_463, w223_464, w223_465, w223_466, w223_467, w223_468, w223_469, w223_470, w223_471, w223_472, ht, hm, hS, ↓neg_vM, ↓neg_vB, ↓neg_vS, ↓neg_vF, ↓neg_vO, ↓neg_vA, ↓neg_vN, lit_nI, nI_leI, nI_ltI, nI_eq, jm_in_nI, nI_clamp, nI_add, n_mul, pk_sub, n_le_t, n_le_f, n_lt_t, n_lt_f, n_eq_t, n_eq_f, true_and, and_true, ne_eq, not_false_eq_true, not_true_eq_false, min_n, max_n, dif_n, n_rem, n_div, or_nI, shl_nI, Option.toList_some, Option.toList_none, List.singleton_append, List.nil_append, if_true, if_false, or_true, true_or, or_false, false_or, and_false, false_and, Bool.false_eq_true, sx]
  refine CL_mono (CL_keep (p_give (L := L + 1) (d := 90) hI)) (fun r T hz => ?_)
  obtain ⟨⟨v, rfl, hz⟩, tx⟩ := hz
  have tx' : T jx_S = xs := tx.trans sx
  simp (disch := omega) only [w223_475, w223_476, w223_477, w223_478, w223_479, w223_480, w223_481, w223_482, w223_483, w223_484, w223_485, w223_486, ht, hm, hS, ↓neg_vM, ↓neg_vB, ↓neg_vS, ↓neg_vF, ↓neg_vO, ↓neg_vA, ↓neg_vN, lit_nI, nI_leI, nI_ltI, nI_eq, jm_in_nI, nI_clamp, nI_add, n_mul, pk_sub, n_le_t, n_le_f, n_lt_t, n_lt_f, n_eq_t, n_eq_f, true_and, and_true, ne_eq, not_false_eq_true, not_true_eq_false, min_n, max_n, dif_n, n_rem, n_div, or_nI, shl_nI, Option.toList_some, Option.toList_none, List.singleton_append, List.nil_append, if_true, if_false, or_true, true_or, or_false, false_or, and_false, false_and, Bool.false_eq_true, tx']
  refine CL_mono hz (fun r U hu => ?_)
  obtain ⟨rfl, hu⟩ := hu
  simp (disch := omega) only [w223_489, ↓neg_vM, ↓neg_vB, ↓neg_vS, ↓neg_vF, ↓neg_vO, ↓neg_vA, ↓neg_vN, lit_nI, nI_leI, nI_ltI, nI_eq, jm_in_nI, nI_clamp, nI_add, n_mul, pk_sub, n_le_t, n_le_f, n_lt_t, n_lt_f, n_eq_t, n_eq_f, true_and, and_true, ne_eq, not_false_eq_true, not_true_eq_false, min_n, max_n, dif_n, n_rem, n_div, or_nI, shl_nI, Option.toList_some, Option.toList_none, List.singleton_append, List.nil_append, if_true, if_false, or_true, true_or, or_false, false_or, and_false, false_and, Bool.false_eq_true]
  exact hZ U hu
theorem law_play (hi : i + 6 ≤ L) (hL : L ≤ 384) (hI : Inv xs S) (hZ : ∀ T, Inv xs T → WQ (L + 1) 100 223 1442 [.ref jx_S, .ref 0, .ref 128, .int (nI i)] [] T Z) : WQ (L + 1) 100 223 494 [.ref jx_S, .ref 0, .ref 128, .int (nI i)] [] S Z := by
  obtain ⟨k, hI⟩ := hI
  have ht := top_sh (L + 1)
  have hm := mod_sh (L + 1)
  have hS := sh_S L
  have sx : S jx_S = xs := hI.1.1
  simp (disch := omega) only [w223_494, w223_495, w223_496, w223_497, w223_498, w223_499, w223_500, w223_501, w223_502, w223_503, w223_504, w223_505, ht, hm, hS, ↓neg_vM, ↓neg_vB, ↓neg_vS, ↓neg_vF, ↓neg_vO, ↓neg_vA, ↓neg_vN, lit_nI, nI_leI, nI_ltI, nI_eq, jm_in_nI, nI_clamp, nI_add, n_mul, pk_sub, n_le_t, n_le_f, n_lt_t, n_lt_f, n_eq_t, n_eq_f, true_and, and_true, ne_eq, not_false_eq_true, not_true_eq_false, min_n, max_n, dif_n, n_rem, n_div, or_nI, shl_nI, Option.toList_some, Option.toList_none, List.singleton_append, List.nil_append, if_true, if_false, or_true, true_or, or_false, false_or, and_false, false_and, Bool.false_eq_true, sx]
  refine CL_mono (CL_keep (p_play (L := L + 1) (d := 90) hI)) (fun r T hz => ?_)
  obtain ⟨⟨v, rfl, hz⟩, tx⟩ := hz
  have tx' : T jx_S = xs := tx.trans sx
  simp (disch := omega) only [w223_508, w223_509, w223_510, w223_511, w223_512, w223_513, w223_514, w223_515, w223_516, w223_517, w223_518, w223_519, ht, hm, hS, ↓neg_vM, ↓neg_vB, ↓neg_vS, ↓neg_vF, ↓neg_vO, ↓neg_vA, ↓neg_vN, lit_nI, nI_leI, nI_ltI, nI_eq, jm_in_nI, nI_clamp, nI_add, n_mul, pk_sub, n_le_t, n_le_f, n_lt_t, n_lt_f, n_eq_t, n_eq_f, true_and, and_true, ne_eq, not_false_eq_true, not_true_eq_false, min_n, max_n, dif_n, n_rem, n_div, or_nI, shl_nI, Option.toList_some, Option.toList_none, List.singleton_append, List.nil_append, if_true, if_false, or_true, true_or, or_false, false_or, and_false, false_and, Bool.false_eq_true, tx']
  refine CL_mono hz (fun r U hu => ?_)
  obtain ⟨rfl, hu⟩ := hu
  simp (disch := omega) only [w223_522, ↓neg_vM, ↓neg_vB, ↓neg_vS, ↓neg_vF, ↓neg_vO, ↓neg_vA, ↓neg_vN, lit_nI, nI_leI, nI_ltI, nI_eq, jm_in_nI, nI_clamp, nI_add, n_mul, pk_sub, n_le_t, n_le_f, n_lt_t, n_lt_f, n_eq_t, n_eq_f, true_and, and_true, ne_eq, not_false_eq_true, not_true_eq_false, min_n, max_n, dif_n, n_rem, n_div, or_nI, shl_nI, Option.toList_some, Option.toList_none, List.singleton_append, List.nil_append, if_true, if_false, or_true, true_or, or_false, false_or, and_false, false_and, Bool.false_eq_true]
  exact hZ U hu
theorem law_soup (hi : i + 6 ≤ L) (hL : L ≤ 384) (hI : Inv xs S) (hZ : ∀ T, Inv xs T → WQ (L + 1) 100 223 1442 [.ref jx_S, .ref 0, .ref 128, .int (nI i)] [] T Z) : WQ (L + 1) 100 223 527 [.ref jx_S, .ref 0, .ref 128, .int (nI i)] [] S Z := by
  obtain ⟨k, hI⟩ := hI
  have ht := top_sh (L + 1)
  have hm := mod_sh (L + 1)
  have hS := sh_S L
  have sx : S jx_S = xs := hI.1.1
  simp (disch := omega) only [w223_527, w223_528, w223_529, w223_530, w223_531, w223_532, w223_533, w223_534, w223_535, w223_536, w223_537, w223_538, ht, hm, hS, ↓neg_vM, ↓neg_vB, ↓neg_vS, ↓neg_vF, ↓neg_vO, ↓neg_vA, ↓neg_vN, lit_nI, nI_leI, nI_ltI, nI_eq, jm_in_nI, nI_clamp, nI_add, n_mul, pk_sub, n_le_t, n_le_f, n_lt_t, n_lt_f, n_eq_t, n_eq_f, true_and, and_true, ne_eq, not_false_eq_true, not_true_eq_false, min_n, max_n, dif_n, n_rem, n_div, or_nI, shl_nI, Option.toList_some, Option.toList_none, List.singleton_append, List.nil_append, if_true, if_false, or_true, true_or, or_false, false_or, and_false, false_and, Bool.false_eq_true, sx]
  refine CL_mono (CL_keep (p_soup (L := L + 1) (d := 90) hI)) (fun r T hz => ?_)
  obtain ⟨⟨v, rfl, hz⟩, tx⟩ := hz
  have tx' : T jx_S = xs := tx.trans sx
  simp (disch := omega) only [w223_541, w223_542, w223_543, w223_544, w223_545, w223_546, w223_547, w223_548, w223_549, w223_550, w223_551, w223_552, ht, hm, hS, ↓neg_vM, ↓neg_vB, ↓neg_vS, ↓neg_vF, ↓neg_vO, ↓neg_vA, ↓neg_vN, lit_nI, nI_leI, nI_ltI, nI_eq, jm_in_nI, nI_clamp, nI_add, n_mul, pk_sub, n_le_t, n_le_f, n_lt_t, n_lt_f, n_eq_t, n_eq_f, true_and, and_true, ne_eq, not_false_eq_true, not_true_eq_false, min_n, max_n, dif_n, n_rem, n_div, or_nI, shl_nI, Option.toList_some, Option.toList_none, List.singleton_append, List.nil_append, if_true, if_false, or_true, true_or, or_false, false_or, and_false, false_and, Bool.false_eq_true, tx']
  refine CL_mono hz (fun r U hu => ?_)
  obtain ⟨rfl, hu⟩ := hu
  simp (disch := omega) only [w223_555, ↓neg_vM, ↓neg_vB, ↓neg_vS, ↓neg_vF, ↓neg_vO, ↓neg_vA, ↓neg_vN, lit_nI, nI_leI, nI_ltI, nI_eq, jm_in_nI, nI_clamp, nI_add, n_mul, pk_sub, n_le_t, n_le_f, n_lt_t, n_lt_f, n_eq_t, n_eq_f, true_and, and_true, ne_eq, not_false_eq_true, not_true_eq_false, min_n, max_n, dif_n, n_rem, n_div, or_nI, shl_nI, Option.toList_some, Option.toList_none, List.singleton_append, List.nil_append, if_true, if_false, or_true, true_or, or_false, false_or, and_false, false_and, Bool.false_eq_true]
  exact hZ U hu
theorem law_bars (hi : i + 6 ≤ L) (hL : L ≤ 384) (hI : Inv xs S) (hZ : ∀ T, Inv xs T → WQ (L + 1) 100 223 1442 [.ref jx_S, .ref 0, .ref 128, .int (nI i)] [] T Z) : WQ (L + 1) 100 223 560 [.ref jx_S, .ref 0, .ref 128, .int (nI i)] [] S Z := by
  obtain ⟨k, hI⟩ := hI
  have ht := top_sh (L + 1)
  have hm := mod_sh (L + 1)
  have hS := sh_S L
  have sx : S jx_S = xs := hI.1.1
  simp (disch := omega) only [w223_560, w223_561, w223_562, w223_563, w223_564, w223_565, w223_566, w223_567, w223_568, w223_569, w223_570, w223_571, ht, hm, hS, ↓neg_vM, ↓neg_vB, ↓neg_vS, ↓neg_vF, ↓neg_vO, ↓neg_vA, ↓neg_vN, lit_nI, nI_leI, nI_ltI, nI_eq, jm_in_nI, nI_clamp, nI_add, n_mul, pk_sub, n_le_t, n_le_f, n_lt_t, n_lt_f, n_eq_t, n_eq_f, true_and, and_true, ne_eq, not_false_eq_true, not_true_eq_false, min_n, max_n, dif_n, n_rem, n_div, or_nI, shl_nI, Option.toList_some, Option.toList_none, List.singleton_append, List.nil_append, if_true, if_false, or_true, true_or, or_false, false_or, and_false, false_and, Bool.false_eq_true, sx]
  refine CL_mono (CL_keep (p_bars (L := L + 1) (d := 90) hI)) (fun r T hz => ?_)
  obtain ⟨⟨v, rfl, hz⟩, tx⟩ := hz
  have tx' : T jx_S = xs := tx.trans sx
  simp (disch := omega) only [w223_574, w223_575, w223_576, w223_577, w223_578, w223_579, w223_580, w223_581, w223_582, w223_583, w223_584, w223_585, ht, hm, hS, ↓neg_vM, ↓neg_vB, ↓neg_vS, ↓neg_vF, ↓neg_vO, ↓neg_vA, ↓neg_vN, lit_nI, nI_leI, nI_ltI, nI_eq, jm_in_nI, nI_clamp, nI_add, n_mul, pk_sub, n_le_t, n_le_f, n_lt_t, n_lt_f, n_eq_t, n_eq_f, true_and, and_true, ne_eq, not_false_eq_true, not_true_eq_false, min_n, max_n, dif_n, n_rem, n_div, or_nI, shl_nI, Option.toList_some, Option.toList_none, List.singleton_append, List.nil_append, if_true, if_false, or_true, true_or, or_false, false_or, and_false, false_and, Bool.false_eq_true, tx']
  refine CL_mono hz (fun r U hu => ?_)
  obtain ⟨rfl, hu⟩ := hu
  simp (disch := omega) only [w223_588, ↓neg_vM, ↓neg_vB, ↓neg_vS, ↓neg_vF, ↓neg_vO, ↓neg_vA, ↓neg_vN, lit_nI, nI_leI, nI_ltI, nI_eq, jm_in_nI, nI_clamp, nI_add, n_mul, pk_sub, n_le_t, n_le_f, n_lt_t, n_lt_f, n_eq_t, n_eq_f, true_and, and_true, ne_eq, not_false_eq_true, not_true_eq_false, min_n, max_n, dif_n, n_rem, n_div, or_nI, shl_nI, Option.toList_some, Option.toList_none, List.singleton_append, List.nil_append, if_true, if_false, or_true, true_or, or_false, false_or, and_false, false_and, Bool.false_eq_true]
  exact hZ U hu
theorem law_rule (hi : i + 6 ≤ L) (hL : L ≤ 384) (hI : Inv xs S) (hZ : ∀ T, Inv xs T → WQ (L + 1) 100 223 1442 [.ref jx_S, .ref 0, .ref 128, .int (nI i)] [] T Z) : WQ (L + 1) 100 223 593 [.ref jx_S, .ref 0, .ref 128, .int (nI i)] [] S Z := by
  obtain ⟨k, hI⟩ := hI
  have ht := top_sh (L + 1)
  have hm := mod_sh (L + 1)
  have hS := sh_S L
  have sx : S jx_S = xs := hI.1.1
  simp (disch := omega) only [w223_593, w223_594, w223_595, w223_596, w223_597, w223_598, w223_599, w223_600, w223_601, w223_602, w223_603, w223_604, ht, hm, hS, ↓neg_vM, ↓neg_vB, ↓neg_vS, ↓neg_vF, ↓neg_vO, ↓neg_vA, ↓neg_vN, lit_nI, nI_leI, nI_ltI, nI_eq, jm_in_nI, nI_clamp, nI_add, n_mul, pk_sub, n_le_t, n_le_f, n_lt_t, n_lt_f, n_eq_t, n_eq_f, true_and, and_true, ne_eq, not_false_eq_true, not_true_eq_false, min_n, max_n, dif_n, n_rem, n_div, or_nI, shl_nI, Option.toList_some, Option.toList_none, List.singleton_append, List.nil_append, if_true, if_false, or_true, true_or, or_false, false_or, and_false, false_and, Bool.false_eq_true, sx]
  refine CL_mono (CL_keep (p_rule (L := L + 1) (d := 90) hI)) (fun r T hz => ?_)
  obtain ⟨⟨v, rfl, hz⟩, tx⟩ := hz
  have tx' : T jx_S = xs := tx.trans sx
  simp (disch := omega) only [w223_607, w223_608, w223_609, w223_610, w223_611, w223_612, w223_613, w223_614, w223_615, w223_616, w223_617, w223_618, ht, hm, hS, ↓neg_vM, ↓neg_vB, ↓neg_vS, ↓neg_vF, ↓neg_vO, ↓neg_vA, ↓neg_vN, lit_nI, nI_leI, nI_ltI, nI_eq, jm_in_nI, nI_clamp, nI_add, n_mul, pk_sub, n_le_t, n_le_f, n_lt_t, n_lt_f, n_eq_t, n_eq_f, true_and, and_true, ne_eq, not_false_eq_true, not_true_eq_false, min_n, max_n, dif_n, n_rem, n_div, or_nI, shl_nI, Option.toList_some, Option.toList_none, List.singleton_append, List.nil_append, if_true, if_false, or_true, true_or, or_false, false_or, and_false, false_and, Bool.false_eq_true, tx']
  refine CL_mono hz (fun r U hu => ?_)
  obtain ⟨rfl, hu⟩ := hu
  simp (disch := omega) only [w223_621, ↓neg_vM, ↓neg_vB, ↓neg_vS, ↓neg_vF, ↓neg_vO, ↓neg_vA, ↓neg_vN, lit_nI, nI_leI, nI_ltI, nI_eq, jm_in_nI, nI_clamp, nI_add, n_mul, pk_sub, n_le_t, n_le_f, n_lt_t, n_lt_f, n_eq_t, n_eq_f, true_and, and_true, ne_eq, not_false_eq_true, not_true_eq_false, min_n, max_n, dif_n, n_rem, n_div, or_nI, shl_nI, Option.toList_some, Option.toList_none, List.singleton_append, List.nil_append, if_true, if_false, or_true, true_or, or_false, false_or, and_false, false_and, Bool.false_eq_true]
  exact hZ U hu
theorem law_hand (hi : i + 6 ≤ L) (hL : L ≤ 384) (hI : Inv xs S) (hZ : ∀ T, Inv xs T → WQ (L + 1) 100 223 1442 [.ref jx_S, .ref 0, .ref 128, .int (nI i)] [] T Z) : WQ (L + 1) 100 223 626 [.ref jx_S, .ref 0, .ref 128, .int (nI i)] [] S Z := by
  obtain ⟨k, hI⟩ := hI
  have ht := top_sh (L + 1)
  have hm := mod_sh (L + 1)
  have hS := sh_S L
  have sx : S jx_S = xs := hI.1.1
  simp (disch := omega) only [w223_626, w223_627, w223_628, w223_629, w223_630, w223_631, w223_632, w223_633, w223_634, w223_635, w223_636, w223_637, ht, hm, hS, ↓neg_vM, ↓neg_vB, ↓neg_vS, ↓neg_vF, ↓neg_vO, ↓neg_vA, ↓neg_vN, lit_nI, nI_leI, nI_ltI, nI_eq, jm_in_nI, nI_clamp, nI_add, n_mul, pk_sub, n_le_t, n_le_f, n_lt_t, n_lt_f, n_eq_t, n_eq_f, true_and, and_true, ne_eq, not_false_eq_true, not_true_eq_false, min_n, max_n, dif_n, n_rem, n_div, or_nI, shl_nI, Option.toList_some, Option.toList_none, List.singleton_append, List.nil_append, if_true, if_false, or_true, true_or, or_false, false_or, and_false, false_and, Bool.false_eq_true, sx]
  refine CL_mono (CL_keep (p_hand (L := L + 1) (d := 90) hI)) (fun r T hz => ?_)
  obtain ⟨⟨v, rfl, hz⟩, tx⟩ := hz
  have tx' : T jx_S = xs := tx.trans sx
  simp (disch := omega) only [w223_640, w223_641, w223_642, w223_643, w223_644, w223_645, w223_646, w223_647, w223_648, w223_649, w223_650, w223_651, ht, hm, hS, ↓neg_vM, ↓neg_vB, ↓neg_vS, ↓neg_vF, ↓neg_vO, ↓neg_vA, ↓neg_vN, lit_nI, nI_leI, nI_ltI, nI_eq, jm_in_nI, nI_clamp, nI_add, n_mul, pk_sub, n_le_t, n_le_f, n_lt_t, n_lt_f, n_eq_t, n_eq_f, true_and, and_true, ne_eq, not_false_eq_true, not_true_eq_false, min_n, max_n, dif_n, n_rem, n_div, or_nI, shl_nI, Option.toList_some, Option.toList_none, List.singleton_append, List.nil_append, if_true, if_false, or_true, true_or, or_false, false_or, and_false, false_and, Bool.false_eq_true, tx']
  refine CL_mono hz (fun r U hu => ?_)
  obtain ⟨rfl, hu⟩ := hu
  simp (disch := omega) only [w223_654, ↓neg_vM, ↓neg_vB, ↓neg_vS, ↓neg_vF, ↓neg_vO, ↓neg_vA, ↓neg_vN, lit_nI, nI_leI, nI_ltI, nI_eq, jm_in_nI, nI_clamp, nI_add, n_mul, pk_sub, n_le_t, n_le_f, n_lt_t, n_lt_f, n_eq_t, n_eq_f, true_and, and_true, ne_eq, not_false_eq_true, not_true_eq_false, min_n, max_n, dif_n, n_rem, n_div, or_nI, shl_nI, Option.toList_some, Option.toList_none, List.singleton_append, List.nil_append, if_true, if_false, or_true, true_or, or_false, false_or, and_false, false_and, Bool.false_eq_true]
  exact hZ U hu
theorem law_stand (hi : i + 6 ≤ L) (hL : L ≤ 384) (hI : Inv xs S) (hZ : ∀ T, Inv xs T → WQ (L + 1) 100 223 1442 [.ref jx_S, .ref 0, .ref 128, .int (nI i)] [] T Z) : WQ (L + 1) 100 223 659 [.ref jx_S, .ref 0, .ref 128, .int (nI i)] [] S Z := by
  obtain ⟨k, hI⟩ := hI
  have ht := top_sh (L + 1)
  have hm := mod_sh (L + 1)
  have hS := sh_S L
  have sx : S jx_S = xs := hI.1.1
  simp (disch := omega) only [w223_659, w223_660, w223_661, w223_662, w223_663, w223_664, w223_665, ht, hm, hS, ↓neg_vM, ↓neg_vB, ↓neg_vS, ↓neg_vF, ↓neg_vO, ↓neg_vA, ↓neg_vN, lit_nI, nI_leI, nI_ltI, nI_eq, jm_in_nI, nI_clamp, nI_add, n_mul, pk_sub, n_le_t, n_le_f, n_lt_t, n_lt_f, n_eq_t, n_eq_f, true_and, and_true, ne_eq, not_false_eq_true, not_true_eq_false, min_n, max_n, dif_n, n_rem, n_div, or_nI, shl_nI, Option.toList_some, Option.toList_none, List.singleton_append, List.nil_append, if_true, if_false, or_true, true_or, or_false, false_or, and_false, false_and, Bool.false_eq_true, sx]
  refine CL_mono (CL_keep (p_stand (L := L + 1) (d := 90) hI)) (fun r T hz => ?_)
  obtain ⟨⟨v, rfl, hz⟩, tx⟩ := hz
  have tx' : T jx_S = xs := tx.trans sx
  simp (disch := omega) only [w223_668, w223_669, w223_670, w223_671, w223_672, w223_673, w223_674, ht, hm, hS, ↓neg_vM, ↓neg_vB, ↓neg_vS, ↓neg_vF, ↓neg_vO, ↓neg_vA, ↓neg_vN, lit_nI, nI_leI, nI_ltI, nI_eq, jm_in_nI, nI_clamp, nI_add, n_mul, pk_sub, n_le_t, n_le_f, n_lt_t, n_lt_f, n_eq_t, n_eq_f, true_and, and_true, ne_eq, not_false_eq_true, not_true_eq_false, min_n, max_n, dif_n, n_rem, n_div, or_nI, shl_nI, Option.toList_some, Option.toList_none, List.singleton_append, List.nil_append, if_true, if_false, or_true, true_or, or_false, false_or, and_false, false_and, Bool.false_eq_true, tx']
  refine CL_mono hz (fun r U hu => ?_)
  obtain ⟨rfl, hu⟩ := hu
  simp (disch := omega) only [w223_677, ↓neg_vM, ↓neg_vB, ↓neg_vS, ↓neg_vF, ↓neg_vO, ↓neg_vA, ↓neg_vN, lit_nI, nI_leI, nI_ltI, nI_eq, jm_in_nI, nI_clamp, nI_add, n_mul, pk_sub, n_le_t, n_le_f, n_lt_t, n_lt_f, n_eq_t, n_eq_f, true_and, and_true, ne_eq, not_false_eq_true, not_true_eq_false, min_n, max_n, dif_n, n_rem, n_div, or_nI, shl_nI, Option.toList_some, Option.toList_none, List.singleton_append, List.nil_append, if_true, if_false, or_true, true_or, or_false, false_or, and_false, false_and, Bool.false_eq_true]
  exact hZ U hu
theorem law_ahead (hi : i + 6 ≤ L) (hL : L ≤ 384) (hI : Inv xs S) (hZ : ∀ T, Inv xs T → WQ (L + 1) 100 223 1442 [.ref jx_S, .ref 0, .ref 128, .int (nI i)] [] T Z) : WQ (L + 1) 100 223 682 [.ref jx_S, .ref 0, .ref 128, .int (nI i)] [] S Z := by
  obtain ⟨k, hI⟩ := hI
  have ht := top_sh (L + 1)
  have hm := mod_sh (L + 1)
  have hS := sh_S L
  have sx : S jx_S = xs := hI.1.1
  simp (disch := omega) only [w223_682, w223_683, w223_684, w223_685, w223_686, w223_687, w223_688, w223_689, w223_690, w223_691, w223_692, w223_693, ht, hm, hS, ↓neg_vM, ↓neg_vB, ↓neg_vS, ↓neg_vF, ↓neg_vO, ↓neg_vA, ↓neg_vN, lit_nI, nI_leI, nI_ltI, nI_eq, jm_in_nI, nI_clamp, nI_add, n_mul, pk_sub, n_le_t, n_le_f, n_lt_t, n_lt_f, n_eq_t, n_eq_f, true_and, and_true, ne_eq, not_false_eq_true, not_true_eq_false, min_n, max_n, dif_n, n_rem, n_div, or_nI, shl_nI, Option.toList_some, Option.toList_none, List.singleton_append, List.nil_append, if_true, if_false, or_true, true_or, or_false, false_or, and_false, false_and, Bool.false_eq_true, sx]
  refine CL_mono (CL_keep (p_ahead (L := L + 1) (d := 90) hI)) (fun r T hz => ?_)
  obtain ⟨⟨v, rfl, hz⟩, tx⟩ := hz
  have tx' : T jx_S = xs := tx.trans sx
  simp (disch := omega) only [w223_696, w223_697, w223_698, w223_699, w223_700, w223_701, w223_702, w223_703, w223_704, w223_705, w223_706, w223_707, ht, hm, hS, ↓neg_vM, ↓neg_vB, ↓neg_vS, ↓neg_vF, ↓neg_vO, ↓neg_vA, ↓neg_vN, lit_nI, nI_leI, nI_ltI, nI_eq, jm_in_nI, nI_clamp, nI_add, n_mul, pk_sub, n_le_t, n_le_f, n_lt_t, n_lt_f, n_eq_t, n_eq_f, true_and, and_true, ne_eq, not_false_eq_true, not_true_eq_false, min_n, max_n, dif_n, n_rem, n_div, or_nI, shl_nI, Option.toList_some, Option.toList_none, List.singleton_append, List.nil_append, if_true, if_false, or_true, true_or, or_false, false_or, and_false, false_and, Bool.false_eq_true, tx']
  refine CL_mono hz (fun r U hu => ?_)
  obtain ⟨rfl, hu⟩ := hu
  simp (disch := omega) only [w223_710, ↓neg_vM, ↓neg_vB, ↓neg_vS, ↓neg_vF, ↓neg_vO, ↓neg_vA, ↓neg_vN, lit_nI, nI_leI, nI_ltI, nI_eq, jm_in_nI, nI_clamp, nI_add, n_mul, pk_sub, n_le_t, n_le_f, n_lt_t, n_lt_f, n_eq_t, n_eq_f, true_and, and_true, ne_eq, not_false_eq_true, not_true_eq_false, min_n, max_n, dif_n, n_rem, n_div, or_nI, shl_nI, Option.toList_some, Option.toList_none, List.singleton_append, List.nil_append, if_true, if_false, or_true, true_or, or_false, false_or, and_false, false_and, Bool.false_eq_true]
  exact hZ U hu
theorem law_strong (hi : i + 6 ≤ L) (hL : L ≤ 384) (hI : Inv xs S) (hZ : ∀ T, Inv xs T → WQ (L + 1) 100 223 1442 [.ref jx_S, .ref 0, .ref 128, .int (nI i)] [] T Z) : WQ (L + 1) 100 223 715 [.ref jx_S, .ref 0, .ref 128, .int (nI i)] [] S Z := by
  obtain ⟨k, hI⟩ := hI
  have ht := top_sh (L + 1)
  have hm := mod_sh (L + 1)
  have hS := sh_S L
  have sx : S jx_S = xs := hI.1.1
  simp (disch := omega) only [w223_715, w223_716, w223_717, w223_718, w223_719, w223_720, w223_721, w223_722, w223_723, w223_724, w223_725, w223_726, ht, hm, hS, ↓neg_vM, ↓neg_vB, ↓neg_vS, ↓neg_vF, ↓neg_vO, ↓neg_vA, ↓neg_vN, lit_nI, nI_leI, nI_ltI, nI_eq, jm_in_nI, nI_clamp, nI_add, n_mul, pk_sub, n_le_t, n_le_f, n_lt_t, n_lt_f, n_eq_t, n_eq_f, true_and, and_true, ne_eq, not_false_eq_true, not_true_eq_false, min_n, max_n, dif_n, n_rem, n_div, or_nI, shl_nI, Option.toList_some, Option.toList_none, List.singleton_append, List.nil_append, if_true, if_false, or_true, true_or, or_false, false_or, and_false, false_and, Bool.false_eq_true, sx]
  refine CL_mono (CL_keep (p_strong (L := L + 1) (d := 90) hI)) (fun r T hz => ?_)
  obtain ⟨⟨v, rfl, hz⟩, tx⟩ := hz
  have tx' : T jx_S = xs := tx.trans sx
  simp (disch := omega) only [w223_729, w223_730, w223_731, w223_732, w223_733, w223_734, w223_735, w223_736, w223_737, w223_738, w223_739, w223_740, ht, hm, hS, ↓neg_vM, ↓neg_vB, ↓neg_vS, ↓neg_vF, ↓neg_vO, ↓neg_vA, ↓neg_vN, lit_nI, nI_leI, nI_ltI, nI_eq, jm_in_nI, nI_clamp, nI_add, n_mul, pk_sub, n_le_t, n_le_f, n_lt_t, n_lt_f, n_eq_t, n_eq_f, true_and, and_true, ne_eq, not_false_eq_true, not_true_eq_false, min_n, max_n, dif_n, n_rem, n_div, or_nI, shl_nI, Option.toList_some, Option.toList_none, List.singleton_append, List.nil_append, if_true, if_false, or_true, true_or, or_false, false_or, and_false, false_and, Bool.false_eq_true, tx']
  refine CL_mono hz (fun r U hu => ?_)
  obtain ⟨rfl, hu⟩ := hu
  simp (disch := omega) only [w223_743, ↓neg_vM, ↓neg_vB, ↓neg_vS, ↓neg_vF, ↓neg_vO, ↓neg_vA, ↓neg_vN, lit_nI, nI_leI, nI_ltI, nI_eq, jm_in_nI, nI_clamp, nI_add, n_mul, pk_sub, n_le_t, n_le_f, n_lt_t, n_lt_f, n_eq_t, n_eq_f, true_and, and_true, ne_eq, not_false_eq_true, not_true_eq_false, min_n, max_n, dif_n, n_rem, n_div, or_nI, shl_nI, Option.toList_some, Option.toList_none, List.singleton_append, List.nil_append, if_true, if_false, or_true, true_or, or_false, false_or, and_false, false_and, Bool.false_eq_true]
  exact hZ U hu
theorem law_barred (hi : i + 6 ≤ L) (hL : L ≤ 384) (hI : Inv xs S) (hZ : ∀ T, Inv xs T → WQ (L + 1) 100 223 1442 [.ref jx_S, .ref 0, .ref 128, .int (nI i)] [] T Z) : WQ (L + 1) 100 223 748 [.ref jx_S, .ref 0, .ref 128, .int (nI i)] [] S Z := by
  obtain ⟨k, hI⟩ := hI
  have ht := top_sh (L + 1)
  have hm := mod_sh (L + 1)
  have hS := sh_S L
  have sx : S jx_S = xs := hI.1.1
  simp (disch := omega) only [w223_748, w223_749, w223_750, w223_751, w223_752, w223_753, w223_754, ht, hm, hS, ↓neg_vM, ↓neg_vB, ↓neg_vS, ↓neg_vF, ↓neg_vO, ↓neg_vA, ↓neg_vN, lit_nI, nI_leI, nI_ltI, nI_eq, jm_in_nI, nI_clamp, nI_add, n_mul, pk_sub, n_le_t, n_le_f, n_lt_t, n_lt_f, n_eq_t, n_eq_f, true_and, and_true, ne_eq, not_false_eq_true, not_true_eq_false, min_n, max_n, dif_n, n_rem, n_div, or_nI, shl_nI, Option.toList_some, Option.toList_none, List.singleton_append, List.nil_append, if_true, if_false, or_true, true_or, or_false, false_or, and_false, false_and, Bool.false_eq_true, sx]
  refine CL_mono (CL_keep (p_barred (L := L + 1) (d := 90) hI)) (fun r T hz => ?_)
  obtain ⟨⟨v, rfl, hz⟩, tx⟩ := hz
  have tx' : T jx_S = xs := tx.trans sx
  simp (disch := omega) only [w223_757, w223_758, w223_759, w223_760, w223_761, w223_762, w223_763, ht, hm, hS, ↓neg_vM, ↓neg_vB, ↓neg_vS, ↓neg_vF, ↓neg_vO, ↓neg_vA, ↓neg_vN, lit_nI, nI_leI, nI_ltI, nI_eq, jm_in_nI, nI_clamp, nI_add, n_mul, pk_sub, n_le_t, n_le_f, n_lt_t, n_lt_f, n_eq_t, n_eq_f, true_and, and_true, ne_eq, not_false_eq_true, not_true_eq_false, min_n, max_n, dif_n, n_rem, n_div, or_nI, shl_nI, Option.toList_some, Option.toList_none, List.singleton_append, List.nil_append, if_true, if_false, or_true, true_or, or_false, false_or, and_false, false_and, Bool.false_eq_true, tx']
  refine CL_mono hz (fun r U hu => ?_)
  obtain ⟨rfl, hu⟩ := hu
  simp (disch := omega) only [w223_766, ↓neg_vM, ↓neg_vB, ↓neg_vS, ↓neg_vF, ↓neg_vO, ↓neg_vA, ↓neg_vN, lit_nI, nI_leI, nI_ltI, nI_eq, jm_in_nI, nI_clamp, nI_add, n_mul, pk_sub, n_le_t, n_le_f, n_lt_t, n_lt_f, n_eq_t, n_eq_f, true_and, and_true, ne_eq, not_false_eq_true, not_true_eq_false, min_n, max_n, dif_n, n_rem, n_div, or_nI, shl_nI, Option.toList_some, Option.toList_none, List.singleton_append, List.nil_append, if_true, if_false, or_true, true_or, or_false, false_or, and_false, false_and, Bool.false_eq_true]
  exact hZ U hu
theorem law_when (hi : i + 6 ≤ L) (hL : L ≤ 384) (hI : Inv xs S) (hZ : ∀ T, Inv xs T → WQ (L + 1) 100 223 1442 [.ref jx_S, .ref 0, .ref 128, .int (nI i)] [] T Z) : WQ (L + 1) 100 223 771 [.ref jx_S, .ref 0, .ref 128, .int (nI i)] [] S Z := by
  obtain ⟨k, hI⟩ := hI
  have ht := top_sh (L + 1)
  have hm := mod_sh (L + 1)
  have hS := sh_S L
  have sx : S jx_S = xs := hI.1.1
  simp (disch := omega) only [w223_771, w223_772, w223_773, w223_774, w223_775, w223_776, w223_777, ht, hm, hS, ↓neg_vM, ↓neg_vB, ↓neg_vS, ↓neg_vF, ↓neg_vO, ↓neg_vA, ↓neg_vN, lit_nI, nI_leI, nI_ltI, nI_eq, jm_in_nI, nI_clamp, nI_add, n_mul, pk_sub, n_le_t, n_le_f, n_lt_t, n_lt_f, n_eq_t, n_eq_f, true_and, and_true, ne_eq, not_false_eq_true, not_true_eq_false, min_n, max_n, dif_n, n_rem, n_div, or_nI, shl_nI, Option.toList_some, Option.toList_none, List.singleton_append, List.nil_append, if_true, if_false, or_true, true_or, or_false, false_or, and_false, false_and, Bool.false_eq_true, sx]
  refine CL_mono (CL_keep (p_when (L := L + 1) (d := 90) hI)) (fun r T hz => ?_)
  obtain ⟨⟨v, rfl, hz⟩, tx⟩ := hz
  have tx' : T jx_S = xs := tx.trans sx
  simp (disch := omega) only [w223_780, w223_781, w223_782, w223_783, w223_784, w223_785, w223_786, ht, hm, hS, ↓neg_vM, ↓neg_vB, ↓neg_vS, ↓neg_vF, ↓neg_vO, ↓neg_vA, ↓neg_vN, lit_nI, nI_leI, nI_ltI, nI_eq, jm_in_nI, nI_clamp, nI_add, n_mul, pk_sub, n_le_t, n_le_f, n_lt_t, n_lt_f, n_eq_t, n_eq_f, true_and, and_true, ne_eq, not_false_eq_true, not_true_eq_false, min_n, max_n, dif_n, n_rem, n_div, or_nI, shl_nI, Option.toList_some, Option.toList_none, List.singleton_append, List.nil_append, if_true, if_false, or_true, true_or, or_false, false_or, and_false, false_and, Bool.false_eq_true, tx']
  refine CL_mono hz (fun r U hu => ?_)
  obtain ⟨rfl, hu⟩ := hu
  simp (disch := omega) only [w223_789, ↓neg_vM, ↓neg_vB, ↓neg_vS, ↓neg_vF, ↓neg_vO, ↓neg_vA, ↓neg_vN, lit_nI, nI_leI, nI_ltI, nI_eq, jm_in_nI, nI_clamp, nI_add, n_mul, pk_sub, n_le_t, n_le_f, n_lt_t, n_lt_f, n_eq_t, n_eq_f, true_and, and_true, ne_eq, not_false_eq_true, not_true_eq_false, min_n, max_n, dif_n, n_rem, n_div, or_nI, shl_nI, Option.toList_some, Option.toList_none, List.singleton_append, List.nil_append, if_true, if_false, or_true, true_or, or_false, false_or, and_false, false_and, Bool.false_eq_true]
  exact hZ U hu
theorem law_first (hi : i + 6 ≤ L) (hL : L ≤ 384) (hI : Inv xs S) (hZ : ∀ T, Inv xs T → WQ (L + 1) 100 223 1442 [.ref jx_S, .ref 0, .ref 128, .int (nI i)] [] T Z) : WQ (L + 1) 100 223 794 [.ref jx_S, .ref 0, .ref 128, .int (nI i)] [] S Z := by
  obtain ⟨k, hI⟩ := hI
  have ht := top_sh (L + 1)
  have hm := mod_sh (L + 1)
  have hS := sh_S L
  have sx : S jx_S = xs := hI.1.1
  simp (disch := omega) only [w223_794, w223_795, w223_796, w223_797, w223_798, w223_799, w223_800, ht, hm, hS, ↓neg_vM, ↓neg_vB, ↓neg_vS, ↓neg_vF, ↓neg_vO, ↓neg_vA, ↓neg_vN, lit_nI, nI_leI, nI_ltI, nI_eq, jm_in_nI, nI_clamp, nI_add, n_mul, pk_sub, n_le_t, n_le_f, n_lt_t, n_lt_f, n_eq_t, n_eq_f, true_and, and_true, ne_eq, not_false_eq_true, not_true_eq_false, min_n, max_n, dif_n, n_rem, n_div, or_nI, shl_nI, Option.toList_some, Option.toList_none, List.singleton_append, List.nil_append, if_true, if_false, or_true, true_or, or_false, false_or, and_false, false_and, Bool.false_eq_true, sx]
  refine CL_mono (CL_keep (p_first (L := L + 1) (d := 90) hI)) (fun r T hz => ?_)
  obtain ⟨⟨v, rfl, hz⟩, tx⟩ := hz
  have tx' : T jx_S = xs := tx.trans sx
  simp (disch := omega) only [w223_803, w223_804, w223_805, w223_806, w223_807, w223_808, w223_809, ht, hm, hS, ↓neg_vM, ↓neg_vB, ↓neg_vS, ↓neg_vF, ↓neg_vO, ↓neg_vA, ↓neg_vN, lit_nI, nI_leI, nI_ltI, nI_eq, jm_in_nI, nI_clamp, nI_add, n_mul, pk_sub, n_le_t, n_le_f, n_lt_t, n_lt_f, n_eq_t, n_eq_f, true_and, and_true, ne_eq, not_false_eq_true, not_true_eq_false, min_n, max_n, dif_n, n_rem, n_div, or_nI, shl_nI, Option.toList_some, Option.toList_none, List.singleton_append, List.nil_append, if_true, if_false, or_true, true_or, or_false, false_or, and_false, false_and, Bool.false_eq_true, tx']
  refine CL_mono hz (fun r U hu => ?_)
  obtain ⟨rfl, hu⟩ := hu
  simp (disch := omega) only [w223_812, ↓neg_vM, ↓neg_vB, ↓neg_vS, ↓neg_vF, ↓neg_vO, ↓neg_vA, ↓neg_vN, lit_nI, nI_leI, nI_ltI, nI_eq, jm_in_nI, nI_clamp, nI_add, n_mul, pk_sub, n_le_t, n_le_f, n_lt_t, n_lt_f, n_eq_t, n_eq_f, true_and, and_true, ne_eq, not_false_eq_true, not_true_eq_false, min_n, max_n, dif_n, n_rem, n_div, or_nI, shl_nI, Option.toList_some, Option.toList_none, List.singleton_append, List.nil_append, if_true, if_false, or_true, true_or, or_false, false_or, and_false, false_and, Bool.false_eq_true]
  exact hZ U hu
theorem law_hands (hi : i + 6 ≤ L) (hL : L ≤ 384) (hI : Inv xs S) (hZ : ∀ T, Inv xs T → WQ (L + 1) 100 223 1442 [.ref jx_S, .ref 0, .ref 128, .int (nI i)] [] T Z) : WQ (L + 1) 100 223 817 [.ref jx_S, .ref 0, .ref 128, .int (nI i)] [] S Z := by
  obtain ⟨k, hI⟩ := hI
  have ht := top_sh (L + 1)
  have hm := mod_sh (L + 1)
  have hS := sh_S L
  have sx : S jx_S = xs := hI.1.1
  simp (disch := omega) only [w223_817, w223_818, w223_819, w223_820, w223_821, w223_822, w223_823, w223_824, w223_825, w223_826, w223_827, w223_828, w223_829, w223_830, w223_831, w223_832, w223_833, ht, hm, hS, ↓neg_vM, ↓neg_vB, ↓neg_vS, ↓neg_vF, ↓neg_vO, ↓neg_vA, ↓neg_vN, lit_nI, nI_leI, nI_ltI, nI_eq, jm_in_nI, nI_clamp, nI_add, n_mul, pk_sub, n_le_t, n_le_f, n_lt_t, n_lt_f, n_eq_t, n_eq_f, true_and, and_true, ne_eq, not_false_eq_true, not_true_eq_false, min_n, max_n, dif_n, n_rem, n_div, or_nI, shl_nI, Option.toList_some, Option.toList_none, List.singleton_append, List.nil_append, if_true, if_false, or_true, true_or, or_false, false_or, and_false, false_and, Bool.false_eq_true, sx]
  refine CL_mono (CL_keep (p_hands (L := L + 1) (d := 90) hI)) (fun r T hz => ?_)
  obtain ⟨⟨v, rfl, hz⟩, tx⟩ := hz
  have tx' : T jx_S = xs := tx.trans sx
  simp (disch := omega) only [w223_836, w223_837, w223_838, w223_839, w223_840, w223_841, w223_842, w223_843, w223_844, w223_845, w223_846, w223_847, w223_848, w223_849, w223_850, w223_851, w223_852, ht, hm, hS, ↓neg_vM, ↓neg_vB, ↓neg_vS, ↓neg_vF, ↓neg_vO, ↓neg_vA, ↓neg_vN, lit_nI, nI_leI, nI_ltI, nI_eq, jm_in_nI, nI_clamp, nI_add, n_mul, pk_sub, n_le_t, n_le_f, n_lt_t, n_lt_f, n_eq_t, n_eq_f, true_and, and_true, ne_eq, not_false_eq_true, not_true_eq_false, min_n, max_n, dif_n, n_rem, n_div, or_nI, shl_nI, Option.toList_some, Option.toList_none, List.singleton_append, List.nil_append, if_true, if_false, or_true, true_or, or_false, false_or, and_false, false_and, Bool.false_eq_true, tx']
  refine CL_mono hz (fun r U hu => ?_)
  obtain ⟨rfl, hu⟩ := hu
  simp (disch := omega) only [w223_855, ↓neg_vM, ↓neg_vB, ↓neg_vS, ↓neg_vF, ↓neg_vO, ↓neg_vA, ↓neg_vN, lit_nI, nI_leI, nI_ltI, nI_eq, jm_in_nI, nI_clamp, nI_add, n_mul, pk_sub, n_le_t, n_le_f, n_lt_t, n_lt_f, n_eq_t, n_eq_f, true_and, and_true, ne_eq, not_false_eq_true, not_true_eq_false, min_n, max_n, dif_n, n_rem, n_div, or_nI, shl_nI, Option.toList_some, Option.toList_none, List.singleton_append, List.nil_append, if_true, if_false, or_true, true_or, or_false, false_or, and_false, false_and, Bool.false_eq_true]
  exact hZ U hu
theorem law_rota (hi : i + 6 ≤ L) (hL : L ≤ 384) (hI : Inv xs S) (hZ : ∀ T, Inv xs T → WQ (L + 1) 100 223 1442 [.ref jx_S, .ref 0, .ref 128, .int (nI i)] [] T Z) : WQ (L + 1) 100 223 860 [.ref jx_S, .ref 0, .ref 128, .int (nI i)] [] S Z := by
  obtain ⟨k, hI⟩ := hI
  have ht := top_sh (L + 1)
  have hm := mod_sh (L + 1)
  have hS := sh_S L
  have sx : S jx_S = xs := hI.1.1
  simp (disch := omega) only [w223_860, w223_861, w223_862, w223_863, w223_864, w223_865, w223_866, w223_867, w223_868, w223_869, w223_870, w223_871, ht, hm, hS, ↓neg_vM, ↓neg_vB, ↓neg_vS, ↓neg_vF, ↓neg_vO, ↓neg_vA, ↓neg_vN, lit_nI, nI_leI, nI_ltI, nI_eq, jm_in_nI, nI_clamp, nI_add, n_mul, pk_sub, n_le_t, n_le_f, n_lt_t, n_lt_f, n_eq_t, n_eq_f, true_and, and_true, ne_eq, not_false_eq_true, not_true_eq_false, min_n, max_n, dif_n, n_rem, n_div, or_nI, shl_nI, Option.toList_some, Option.toList_none, List.singleton_append, List.nil_append, if_true, if_false, or_true, true_or, or_false, false_or, and_false, false_and, Bool.false_eq_true, sx]
  refine CL_mono (CL_keep (p_rota (L := L + 1) (d := 90) hI)) (fun r T hz => ?_)
  obtain ⟨⟨v, rfl, hz⟩, tx⟩ := hz
  have tx' : T jx_S = xs := tx.trans sx
  simp (disch := omega) only [w223_874, w223_875, w223_876, w223_877, w223_878, w223_879, w223_880, w223_881, w223_882, w223_883, w223_884, w223_885, ht, hm, hS, ↓neg_vM, ↓neg_vB, ↓neg_vS, ↓neg_vF, ↓neg_vO, ↓neg_vA, ↓neg_vN, lit_nI, nI_leI, nI_ltI, nI_eq, jm_in_nI, nI_clamp, nI_add, n_mul, pk_sub, n_le_t, n_le_f, n_lt_t, n_lt_f, n_eq_t, n_eq_f, true_and, and_true, ne_eq, not_false_eq_true, not_true_eq_false, min_n, max_n, dif_n, n_rem, n_div, or_nI, shl_nI, Option.toList_some, Option.toList_none, List.singleton_append, List.nil_append, if_true, if_false, or_true, true_or, or_false, false_or, and_false, false_and, Bool.false_eq_true, tx']
  refine CL_mono hz (fun r U hu => ?_)
  obtain ⟨rfl, hu⟩ := hu
  simp (disch := omega) only [w223_888, ↓neg_vM, ↓neg_vB, ↓neg_vS, ↓neg_vF, ↓neg_vO, ↓neg_vA, ↓neg_vN, lit_nI, nI_leI, nI_ltI, nI_eq, jm_in_nI, nI_clamp, nI_add, n_mul, pk_sub, n_le_t, n_le_f, n_lt_t, n_lt_f, n_eq_t, n_eq_f, true_and, and_true, ne_eq, not_false_eq_true, not_true_eq_false, min_n, max_n, dif_n, n_rem, n_div, or_nI, shl_nI, Option.toList_some, Option.toList_none, List.singleton_append, List.nil_append, if_true, if_false, or_true, true_or, or_false, false_or, and_false, false_and, Bool.false_eq_true]
  exact hZ U hu
theorem law_cover (hi : i + 6 ≤ L) (hL : L ≤ 384) (hI : Inv xs S) (hZ : ∀ T, Inv xs T → WQ (L + 1) 100 223 1442 [.ref jx_S, .ref 0, .ref 128, .int (nI i)] [] T Z) : WQ (L + 1) 100 223 893 [.ref jx_S, .ref 0, .ref 128, .int (nI i)] [] S Z := by
  obtain ⟨k, hI⟩ := hI
  have ht := top_sh (L + 1)
  have hm := mod_sh (L + 1)
  have hS := sh_S L
  have sx : S jx_S = xs := hI.1.1
  simp (disch := omega) only [w223_893, w223_894, w223_895, w223_896, w223_897, w223_898, w223_899, w223_900, w223_901, w223_902, w223_903, w223_904, ht, hm, hS, ↓neg_vM, ↓neg_vB, ↓neg_vS, ↓neg_vF, ↓neg_vO, ↓neg_vA, ↓neg_vN, lit_nI, nI_leI, nI_ltI, nI_eq, jm_in_nI, nI_clamp, nI_add, n_mul, pk_sub, n_le_t, n_le_f, n_lt_t, n_lt_f, n_eq_t, n_eq_f, true_and, and_true, ne_eq, not_false_eq_true, not_true_eq_false, min_n, max_n, dif_n, n_rem, n_div, or_nI, shl_nI, Option.toList_some, Option.toList_none, List.singleton_append, List.nil_append, if_true, if_false, or_true, true_or, or_false, false_or, and_false, false_and, Bool.false_eq_true, sx]
  refine CL_mono (CL_keep (p_cover (L := L + 1) (d := 90) hI)) (fun r T hz => ?_)
  obtain ⟨⟨v, rfl, hz⟩, tx⟩ := hz
  have tx' : T jx_S = xs := tx.trans sx
  simp (disch := omega) only [w223_907, w223_908, w223_909, w223_910, w223_911, w223_912, w223_913, w223_914, w223_915, w223_916, w223_917, w223_918, ht, hm, hS, ↓neg_vM, ↓neg_vB, ↓neg_vS, ↓neg_vF, ↓neg_vO, ↓neg_vA, ↓neg_vN, lit_nI, nI_leI, nI_ltI, nI_eq, jm_in_nI, nI_clamp, nI_add, n_mul, pk_sub, n_le_t, n_le_f, n_lt_t, n_lt_f, n_eq_t, n_eq_f, true_and, and_true, ne_eq, not_false_eq_true, not_true_eq_false, min_n, max_n, dif_n, n_rem, n_div, or_nI, shl_nI, Option.toList_some, Option.toList_none, List.singleton_append, List.nil_append, if_true, if_false, or_true, true_or, or_false, false_or, and_false, false_and, Bool.false_eq_true, tx']
  refine CL_mono hz (fun r U hu => ?_)
  obtain ⟨rfl, hu⟩ := hu
  simp (disch := omega) only [w223_921, ↓neg_vM, ↓neg_vB, ↓neg_vS, ↓neg_vF, ↓neg_vO, ↓neg_vA, ↓neg_vN, lit_nI, nI_leI, nI_ltI, nI_eq, jm_in_nI, nI_clamp, nI_add, n_mul, pk_sub, n_le_t, n_le_f, n_lt_t, n_lt_f, n_eq_t, n_eq_f, true_and, and_true, ne_eq, not_false_eq_true, not_true_eq_false, min_n, max_n, dif_n, n_rem, n_div, or_nI, shl_nI, Option.toList_some, Option.toList_none, List.singleton_append, List.nil_append, if_true, if_false, or_true, true_or, or_false, false_or, and_false, false_and, Bool.false_eq_true]
  exact hZ U hu
theorem law_fall (hi : i + 6 ≤ L) (hL : L ≤ 384) (hI : Inv xs S) (hZ : ∀ T, Inv xs T → WQ (L + 1) 100 223 1442 [.ref jx_S, .ref 0, .ref 128, .int (nI i)] [] T Z) : WQ (L + 1) 100 223 926 [.ref jx_S, .ref 0, .ref 128, .int (nI i)] [] S Z := by
  obtain ⟨k, hI⟩ := hI
  have ht := top_sh (L + 1)
  have hm := mod_sh (L + 1)
  have hS := sh_S L
  have sx : S jx_S = xs := hI.1.1
  simp (disch := omega) only [w223_926, w223_927, w223_928, w223_929, w223_930, w223_931, w223_932, ht, hm, hS, ↓neg_vM, ↓neg_vB, ↓neg_vS, ↓neg_vF, ↓neg_vO, ↓neg_vA, ↓neg_vN, lit_nI, nI_leI, nI_ltI, nI_eq, jm_in_nI, nI_clamp, nI_add, n_mul, pk_sub, n_le_t, n_le_f, n_lt_t, n_lt_f, n_eq_t, n_eq_f, true_and, and_true, ne_eq, not_false_eq_true, not_true_eq_false, min_n, max_n, dif_n, n_rem, n_div, or_nI, shl_nI, Option.toList_some, Option.toList_none, List.singleton_append, List.nil_append, if_true, if_false, or_true, true_or, or_false, false_or, and_false, false_and, Bool.false_eq_true, sx]
  refine CL_mono (CL_keep (p_fall (L := L + 1) (d := 90) hI)) (fun r T hz => ?_)
  obtain ⟨⟨v, rfl, hz⟩, tx⟩ := hz
  have tx' : T jx_S = xs := tx.trans sx
  simp (disch := omega) only [w223_935, w223_936, w223_937, w223_938, w223_939, w223_940, w223_941, ht, hm, hS, ↓neg_vM, ↓neg_vB, ↓neg_vS, ↓neg_vF, ↓neg_vO, ↓neg_vA, ↓neg_vN, lit_nI, nI_leI, nI_ltI, nI_eq, jm_in_nI, nI_clamp, nI_add, n_mul, pk_sub, n_le_t, n_le_f, n_lt_t, n_lt_f, n_eq_t, n_eq_f, true_and, and_true, ne_eq, not_false_eq_true, not_true_eq_false, min_n, max_n, dif_n, n_rem, n_div, or_nI, shl_nI, Option.toList_some, Option.toList_none, List.singleton_append, List.nil_append, if_true, if_false, or_true, true_or, or_false, false_or, and_false, false_and, Bool.false_eq_true, tx']
  refine CL_mono hz (fun r U hu => ?_)
  obtain ⟨rfl, hu⟩ := hu
  simp (disch := omega) only [w223_944, ↓neg_vM, ↓neg_vB, ↓neg_vS, ↓neg_vF, ↓neg_vO, ↓neg_vA, ↓neg_vN, lit_nI, nI_leI, nI_ltI, nI_eq, jm_in_nI, nI_clamp, nI_add, n_mul, pk_sub, n_le_t, n_le_f, n_lt_t, n_lt_f, n_eq_t, n_eq_f, true_and, and_true, ne_eq, not_false_eq_true, not_true_eq_false, min_n, max_n, dif_n, n_rem, n_div, or_nI, shl_nI, Option.toList_some, Option.toList_none, List.singleton_append, List.nil_append, if_true, if_false, or_true, true_or, or_false, false_or, and_false, false_and, Bool.false_eq_true]
  exact hZ U hu
theorem law_byTurns (hi : i + 6 ≤ L) (hL : L ≤ 384) (hI : Inv xs S) (hZ : ∀ T, Inv xs T → WQ (L + 1) 100 223 1442 [.ref jx_S, .ref 0, .ref 128, .int (nI i)] [] T Z) : WQ (L + 1) 100 223 949 [.ref jx_S, .ref 0, .ref 128, .int (nI i)] [] S Z := by
  obtain ⟨k, hI⟩ := hI
  have ht := top_sh (L + 1)
  have hm := mod_sh (L + 1)
  have hS := sh_S L
  have sx : S jx_S = xs := hI.1.1
  simp (disch := omega) only [w223_949, w223_950, w223_951, w223_952, w223_953, w223_954, w223_955, w223_956, w223_957, w223_958, w223_959, w223_960, w223_961, w223_962, w223_963, w223_964, w223_965, ht, hm, hS, ↓neg_vM, ↓neg_vB, ↓neg_vS, ↓neg_vF, ↓neg_vO, ↓neg_vA, ↓neg_vN, lit_nI, nI_leI, nI_ltI, nI_eq, jm_in_nI, nI_clamp, nI_add, n_mul, pk_sub, n_le_t, n_le_f, n_lt_t, n_lt_f, n_eq_t, n_eq_f, true_and, and_true, ne_eq, not_false_eq_true, not_true_eq_false, min_n, max_n, dif_n, n_rem, n_div, or_nI, shl_nI, Option.toList_some, Option.toList_none, List.singleton_append, List.nil_append, if_true, if_false, or_true, true_or, or_false, false_or, and_false, false_and, Bool.false_eq_true, sx]
  refine CL_mono (CL_keep (p_byTurns (L := L + 1) (d := 89) hI)) (fun r T hz => ?_)
  obtain ⟨⟨v, rfl, hz⟩, tx⟩ := hz
  have tx' : T jx_S = xs := tx.trans sx
  simp (disch := omega) only [w223_968, w223_969, w223_970, w223_971, w223_972, w223_973, w223_974, w223_975, w223_976, w223_977, w223_978, w223_979, w223_980, w223_981, w223_982, w223_983, w223_984, ht, hm, hS, ↓neg_vM, ↓neg_vB, ↓neg_vS, ↓neg_vF, ↓neg_vO, ↓neg_vA, ↓neg_vN, lit_nI, nI_leI, nI_ltI, nI_eq, jm_in_nI, nI_clamp, nI_add, n_mul, pk_sub, n_le_t, n_le_f, n_lt_t, n_lt_f, n_eq_t, n_eq_f, true_and, and_true, ne_eq, not_false_eq_true, not_true_eq_false, min_n, max_n, dif_n, n_rem, n_div, or_nI, shl_nI, Option.toList_some, Option.toList_none, List.singleton_append, List.nil_append, if_true, if_false, or_true, true_or, or_false, false_or, and_false, false_and, Bool.false_eq_true, tx']
  refine CL_mono hz (fun r U hu => ?_)
  obtain ⟨rfl, hu⟩ := hu
  simp (disch := omega) only [w223_987, ↓neg_vM, ↓neg_vB, ↓neg_vS, ↓neg_vF, ↓neg_vO, ↓neg_vA, ↓neg_vN, lit_nI, nI_leI, nI_ltI, nI_eq, jm_in_nI, nI_clamp, nI_add, n_mul, pk_sub, n_le_t, n_le_f, n_lt_t, n_lt_f, n_eq_t, n_eq_f, true_and, and_true, ne_eq, not_false_eq_true, not_true_eq_false, min_n, max_n, dif_n, n_rem, n_div, or_nI, shl_nI, Option.toList_some, Option.toList_none, List.singleton_append, List.nil_append, if_true, if_false, or_true, true_or, or_false, false_or, and_false, false_and, Bool.false_eq_true]
  exact hZ U hu
theorem law_share (hi : i + 6 ≤ L) (hL : L ≤ 384) (hI : Inv xs S) (hZ : ∀ T, Inv xs T → WQ (L + 1) 100 223 1442 [.ref jx_S, .ref 0, .ref 128, .int (nI i)] [] T Z) : WQ (L + 1) 100 223 992 [.ref jx_S, .ref 0, .ref 128, .int (nI i)] [] S Z := by
  obtain ⟨k, hI⟩ := hI
  have ht := top_sh (L + 1)
  have hm := mod_sh (L + 1)
  have hS := sh_S L
  have sx : S jx_S = xs := hI.1.1
  simp (disch := omega) only [w223_992, w223_993, w223_994, w223_995, w223_996, w223_997, w223_998, w223_999, w223_1000, w223_1001, w223_1002, w223_1003, ht, hm, hS, ↓neg_vM, ↓neg_vB, ↓neg_vS, ↓neg_vF, ↓neg_vO, ↓neg_vA, ↓neg_vN, lit_nI, nI_leI, nI_ltI, nI_eq, jm_in_nI, nI_clamp, nI_add, n_mul, pk_sub, n_le_t, n_le_f, n_lt_t, n_lt_f, n_eq_t, n_eq_f, true_and, and_true, ne_eq, not_false_eq_true, not_true_eq_false, min_n, max_n, dif_n, n_rem, n_div, or_nI, shl_nI, Option.toList_some, Option.toList_none, List.singleton_append, List.nil_append, if_true, if_false, or_true, true_or, or_false, false_or, and_false, false_and, Bool.false_eq_true, sx]
  refine CL_mono (CL_keep (p_share (L := L + 1) (d := 90) hI)) (fun r T hz => ?_)
  obtain ⟨⟨v, rfl, hz⟩, tx⟩ := hz
  have tx' : T jx_S = xs := tx.trans sx
  simp (disch := omega) only [w223_1006, w223_1007, w223_1008, w223_1009, w223_1010, w223_1011, w223_1012, w223_1013, w223_1014, w223_1015, w223_1016, w223_1017, ht, hm, hS, ↓neg_vM, ↓neg_vB, ↓neg_vS, ↓neg_vF, ↓neg_vO, ↓neg_vA, ↓neg_vN, lit_nI, nI_leI, nI_ltI, nI_eq, jm_in_nI, nI_clamp, nI_add, n_mul, pk_sub, n_le_t, n_le_f, n_lt_t, n_lt_f, n_eq_t, n_eq_f, true_and, and_true, ne_eq, not_false_eq_true, not_true_eq_false, min_n, max_n, dif_n, n_rem, n_div, or_nI, shl_nI, Option.toList_some, Option.toList_none, List.singleton_append, List.nil_append, if_true, if_false, or_true, true_or, or_false, false_or, and_false, false_and, Bool.false_eq_true, tx']
  refine CL_mono hz (fun r U hu => ?_)
  obtain ⟨rfl, hu⟩ := hu
  simp (disch := omega) only [w223_1020, ↓neg_vM, ↓neg_vB, ↓neg_vS, ↓neg_vF, ↓neg_vO, ↓neg_vA, ↓neg_vN, lit_nI, nI_leI, nI_ltI, nI_eq, jm_in_nI, nI_clamp, nI_add, n_mul, pk_sub, n_le_t, n_le_f, n_lt_t, n_lt_f, n_eq_t, n_eq_f, true_and, and_true, ne_eq, not_false_eq_true, not_true_eq_false, min_n, max_n, dif_n, n_rem, n_div, or_nI, shl_nI, Option.toList_some, Option.toList_none, List.singleton_append, List.nil_append, if_true, if_false, or_true, true_or, or_false, false_or, and_false, false_and, Bool.false_eq_true]
  exact hZ U hu
theorem law_who (hi : i + 6 ≤ L) (hL : L ≤ 384) (hI : Inv xs S) (hZ : ∀ T, Inv xs T → WQ (L + 1) 100 223 1442 [.ref jx_S, .ref 0, .ref 128, .int (nI i)] [] T Z) : WQ (L + 1) 100 223 1025 [.ref jx_S, .ref 0, .ref 128, .int (nI i)] [] S Z := by
  obtain ⟨k, hI⟩ := hI
  have ht := top_sh (L + 1)
  have hm := mod_sh (L + 1)
  have hS := sh_S L
  have sx : S jx_S = xs := hI.1.1
  simp (disch := omega) only [w223_1025, w223_1026, w223_1027, w223_1028, w223_1029, w223_1030, w223_1031, w223_1032, w223_1033, w223_1034, w223_1035, w223_1036, w223_1037, w223_1038, w223_1039, w223_1040, w223_1041, w223_1042, w223_1043, w223_1044, w223_1045, w223_1046, w223_1047, w223_1048, w223_1049, w223_1050, w223_1051, ht, hm, hS, ↓neg_vM, ↓neg_vB, ↓neg_vS, ↓neg_vF, ↓neg_vO, ↓neg_vA, ↓neg_vN, lit_nI, nI_leI, nI_ltI, nI_eq, jm_in_nI, nI_clamp, nI_add, n_mul, pk_sub, n_le_t, n_le_f, n_lt_t, n_lt_f, n_eq_t, n_eq_f, true_and, and_true, ne_eq, not_false_eq_true, not_true_eq_false, min_n, max_n, dif_n, n_rem, n_div, or_nI, shl_nI, Option.toList_some, Option.toList_none, List.singleton_append, List.nil_append, if_true, if_false, or_true, true_or, or_false, false_or, and_false, false_and, Bool.false_eq_true, sx]
  refine CL_mono (CL_keep (p_who (L := L + 1) (d := 90) hI)) (fun r T hz => ?_)
  obtain ⟨⟨v, rfl, hz⟩, tx⟩ := hz
  have tx' : T jx_S = xs := tx.trans sx
  simp (disch := omega) only [w223_1054, w223_1055, w223_1056, w223_1057, w223_1058, w223_1059, w223_1060, w223_1061, w223_1062, w223_1063, w223_1064, w223_1065, w223_1066, w223_1067, w223_1068, w223_1069, w223_1070, w223_1071, w223_1072, w223_1073, w223_1074, w223_1075, w223_1076, w223_1077, w223_1078, w223_1079, w223_1080, ht, hm, hS, ↓neg_vM, ↓neg_vB, ↓neg_vS, ↓neg_vF, ↓neg_vO, ↓neg_vA, ↓neg_vN, lit_nI, nI_leI, nI_ltI, nI_eq, jm_in_nI, nI_clamp, nI_add, n_mul, pk_sub, n_le_t, n_le_f, n_lt_t, n_lt_f, n_eq_t, n_eq_f, true_and, and_true, ne_eq, not_false_eq_true, not_true_eq_false, min_n, max_n, dif_n, n_rem, n_div, or_nI, shl_nI, Option.toList_some, Option.toList_none, List.singleton_append, List.nil_append, if_true, if_false, or_true, true_or, or_false, false_or, and_false, false_and, Bool.false_eq_true, tx']
  refine CL_mono hz (fun r U hu => ?_)
  obtain ⟨rfl, hu⟩ := hu
  simp (disch := omega) only [w223_1083, ↓neg_vM, ↓neg_vB, ↓neg_vS, ↓neg_vF, ↓neg_vO, ↓neg_vA, ↓neg_vN, lit_nI, nI_leI, nI_ltI, nI_eq, jm_in_nI, nI_clamp, nI_add, n_mul, pk_sub, n_le_t, n_le_f, n_lt_t, n_lt_f, n_eq_t, n_eq_f, true_and, and_true, ne_eq, not_false_eq_true, not_true_eq_false, min_n, max_n, dif_n, n_rem, n_div, or_nI, shl_nI, Option.toList_some, Option.toList_none, List.singleton_append, List.nil_append, if_true, if_false, or_true, true_or, or_false, false_or, and_false, false_and, Bool.false_eq_true]
  exact hZ U hu
theorem law_felt (hi : i + 6 ≤ L) (hL : L ≤ 384) (hI : Inv xs S) (hZ : ∀ T, Inv xs T → WQ (L + 1) 100 223 1442 [.ref jx_S, .ref 0, .ref 128, .int (nI i)] [] T Z) : WQ (L + 1) 100 223 1088 [.ref jx_S, .ref 0, .ref 128, .int (nI i)] [] S Z := by
  obtain ⟨k, hI⟩ := hI
  have ht := top_sh (L + 1)
  have hm := mod_sh (L + 1)
  have hS := sh_S L
  have sx : S jx_S = xs := hI.1.1
  simp (disch := omega) only [w223_1088, w223_1089, w223_1090, w223_1091, w223_1092, w223_1093, w223_1094, w223_1095, w223_1096, w223_1097, w223_1098, w223_1099, w223_1100, w223_1101, w223_1102, w223_1103, w223_1104, w223_1105, w223_1106, w223_1107, w223_1108, w223_1109, w223_1110, w223_1111, w223_1112, w223_1113, w223_1114, ht, hm, hS, ↓neg_vM, ↓neg_vB, ↓neg_vS, ↓neg_vF, ↓neg_vO, ↓neg_vA, ↓neg_vN, lit_nI, nI_leI, nI_ltI, nI_eq, jm_in_nI, nI_clamp, nI_add, n_mul, pk_sub, n_le_t, n_le_f, n_lt_t, n_lt_f, n_eq_t, n_eq_f, true_and, and_true, ne_eq, not_false_eq_true, not_true_eq_false, min_n, max_n, dif_n, n_rem, n_div, or_nI, shl_nI, Option.toList_some, Option.toList_none, List.singleton_append, List.nil_append, if_true, if_false, or_true, true_or, or_false, false_or, and_false, false_and, Bool.false_eq_true, sx]
  refine CL_mono (CL_keep (p_felt (L := L + 1) (d := 90) hI)) (fun r T hz => ?_)
  obtain ⟨⟨v, rfl, hz⟩, tx⟩ := hz
  have tx' : T jx_S = xs := tx.trans sx
  simp (disch := omega) only [w223_1117, w223_1118, w223_1119, w223_1120, w223_1121, w223_1122, w223_1123, w223_1124, w223_1125, w223_1126, w223_1127, w223_1128, w223_1129, w223_1130, w223_1131, w223_1132, w223_1133, w223_1134, w223_1135, w223_1136, w223_1137, w223_1138, w223_1139, w223_1140, w223_1141, w223_1142, w223_1143, ht, hm, hS, ↓neg_vM, ↓neg_vB, ↓neg_vS, ↓neg_vF, ↓neg_vO, ↓neg_vA, ↓neg_vN, lit_nI, nI_leI, nI_ltI, nI_eq, jm_in_nI, nI_clamp, nI_add, n_mul, pk_sub, n_le_t, n_le_f, n_lt_t, n_lt_f, n_eq_t, n_eq_f, true_and, and_true, ne_eq, not_false_eq_true, not_true_eq_false, min_n, max_n, dif_n, n_rem, n_div, or_nI, shl_nI, Option.toList_some, Option.toList_none, List.singleton_append, List.nil_append, if_true, if_false, or_true, true_or, or_false, false_or, and_false, false_and, Bool.false_eq_true, tx']
  refine CL_mono hz (fun r U hu => ?_)
  obtain ⟨rfl, hu⟩ := hu
  simp (disch := omega) only [w223_1146, ↓neg_vM, ↓neg_vB, ↓neg_vS, ↓neg_vF, ↓neg_vO, ↓neg_vA, ↓neg_vN, lit_nI, nI_leI, nI_ltI, nI_eq, jm_in_nI, nI_clamp, nI_add, n_mul, pk_sub, n_le_t, n_le_f, n_lt_t, n_lt_f, n_eq_t, n_eq_f, true_and, and_true, ne_eq, not_false_eq_true, not_true_eq_false, min_n, max_n, dif_n, n_rem, n_div, or_nI, shl_nI, Option.toList_some, Option.toList_none, List.singleton_append, List.nil_append, if_true, if_false, or_true, true_or, or_false, false_or, and_false, false_and, Bool.false_eq_true]
  exact hZ U hu
theorem law_sleep (hi : i + 6 ≤ L) (hL : L ≤ 384) (hI : Inv xs S) (hZ : ∀ T, Inv xs T → WQ (L + 1) 100 223 1442 [.ref jx_S, .ref 0, .ref 128, .int (nI i)] [] T Z) : WQ (L + 1) 100 223 1151 [.ref jx_S, .ref 0, .ref 128, .int (nI i)] [] S Z := by
  obtain ⟨k, hI⟩ := hI
  have ht := top_sh (L + 1)
  have hm := mod_sh (L + 1)
  have hS := sh_S L
  have sx : S jx_S = xs := hI.1.1
  simp (disch := omega) only [w223_1151, w223_1152, w223_1153, w223_1154, w223_1155, w223_1156, w223_1157, w223_1158, w223_1159, w223_1160, w223_1161, w223_1162, w223_1163, w223_1164, w223_1165, w223_1166, w223_1167, w223_1168, w223_1169, w223_1170, w223_1171, w223_1172, ht, hm, hS, ↓neg_vM, ↓neg_vB, ↓neg_vS, ↓neg_vF, ↓neg_vO, ↓neg_vA, ↓neg_vN, lit_nI, nI_leI, nI_ltI, nI_eq, jm_in_nI, nI_clamp, nI_add, n_mul, pk_sub, n_le_t, n_le_f, n_lt_t, n_lt_f, n_eq_t, n_eq_f, true_and, and_true, ne_eq, not_false_eq_true, not_true_eq_false, min_n, max_n, dif_n, n_rem, n_div, or_nI, shl_nI, Option.toList_some, Option.toList_none, List.singleton_append, List.nil_append, if_true, if_false, or_true, true_or, or_false, false_or, and_false, false_and, Bool.false_eq_true, sx]
  refine CL_mono (CL_keep (p_sleep (L := L + 1) (d := 90) hI)) (fun r T hz => ?_)
  obtain ⟨⟨v, rfl, hz⟩, tx⟩ := hz
  have tx' : T jx_S = xs := tx.trans sx
  simp (disch := omega) only [w223_1175, w223_1176, w223_1177, w223_1178, w223_1179, w223_1180, w223_1181, w223_1182, w223_1183, w223_1184, w223_1185, w223_1186, w223_1187, w223_1188, w223_1189, w223_1190, w223_1191, w223_1192, w223_1193, w223_1194, w223_1195, w223_1196, ht, hm, hS, ↓neg_vM, ↓neg_vB, ↓neg_vS, ↓neg_vF, ↓neg_vO, ↓neg_vA, ↓neg_vN, lit_nI, nI_leI, nI_ltI, nI_eq, jm_in_nI, nI_clamp, nI_add, n_mul, pk_sub, n_le_t, n_le_f, n_lt_t, n_lt_f, n_eq_t, n_eq_f, true_and, and_true, ne_eq, not_false_eq_true, not_true_eq_false, min_n, max_n, dif_n, n_rem, n_div, or_nI, shl_nI, Option.toList_some, Option.toList_none, List.singleton_append, List.nil_append, if_true, if_false, or_true, true_or, or_false, false_or, and_false, false_and, Bool.false_eq_true, tx']
  refine CL_mono hz (fun r U hu => ?_)
  obtain ⟨rfl, hu⟩ := hu
  simp (disch := omega) only [w223_1199, w223_1200, ↓neg_vM, ↓neg_vB, ↓neg_vS, ↓neg_vF, ↓neg_vO, ↓neg_vA, ↓neg_vN, lit_nI, nI_leI, nI_ltI, nI_eq, jm_in_nI, nI_clamp, nI_add, n_mul, pk_sub, n_le_t, n_le_f, n_lt_t, n_lt_f, n_eq_t, n_eq_f, true_and, and_true, ne_eq, not_false_eq_true, not_true_eq_false, min_n, max_n, dif_n, n_rem, n_div, or_nI, shl_nI, Option.toList_some, Option.toList_none, List.singleton_append, List.nil_append, if_true, if_false, or_true, true_or, or_false, false_or, and_false, false_and, Bool.false_eq_true, lg_eq0]
  exact hZ U hu
theorem law_drawn (hi : i + 6 ≤ L) (hL : L ≤ 384) (hI : Inv xs S) (hZ : ∀ T, Inv xs T → WQ (L + 1) 100 223 1442 [.ref jx_S, .ref 0, .ref 128, .int (nI i)] [] T Z) : WQ (L + 1) 100 223 1205 [.ref jx_S, .ref 0, .ref 128, .int (nI i)] [] S Z := by
  obtain ⟨k, hI⟩ := hI
  have ht := top_sh (L + 1)
  have hm := mod_sh (L + 1)
  have hS := sh_S L
  have sx : S jx_S = xs := hI.1.1
  simp (disch := omega) only [w223_1205, w223_1206, w223_1207, w223_1208, w223_1209, w223_1210, w223_1211, w223_1212, w223_1213, w223_1214, w223_1215, w223_1216, w223_1217, w223_1218, w223_1219, w223_1220, w223_1221, ht, hm, hS, ↓neg_vM, ↓neg_vB, ↓neg_vS, ↓neg_vF, ↓neg_vO, ↓neg_vA, ↓neg_vN, lit_nI, nI_leI, nI_ltI, nI_eq, jm_in_nI, nI_clamp, nI_add, n_mul, pk_sub, n_le_t, n_le_f, n_lt_t, n_lt_f, n_eq_t, n_eq_f, true_and, and_true, ne_eq, not_false_eq_true, not_true_eq_false, min_n, max_n, dif_n, n_rem, n_div, or_nI, shl_nI, Option.toList_some, Option.toList_none, List.singleton_append, List.nil_append, if_true, if_false, or_true, true_or, or_false, false_or, and_false, false_and, Bool.false_eq_true, sx]
  refine CL_mono (CL_keep (p_drawn (L := L + 1) (d := 90) hI)) (fun r T hz => ?_)
  obtain ⟨⟨v, rfl, hz⟩, tx⟩ := hz
  have tx' : T jx_S = xs := tx.trans sx
  simp (disch := omega) only [w223_1224, w223_1225, w223_1226, w223_1227, w223_1228, w223_1229, w223_1230, w223_1231, w223_1232, w223_1233, w223_1234, w223_1235, w223_1236, w223_1237, w223_1238, w223_1239, w223_1240, ht, hm, hS, ↓neg_vM, ↓neg_vB, ↓neg_vS, ↓neg_vF, ↓neg_vO, ↓neg_vA, ↓neg_vN, lit_nI, nI_leI, nI_ltI, nI_eq, jm_in_nI, nI_clamp, nI_add, n_mul, pk_sub, n_le_t, n_le_f, n_lt_t, n_lt_f, n_eq_t, n_eq_f, true_and, and_true, ne_eq, not_false_eq_true, not_true_eq_false, min_n, max_n, dif_n, n_rem, n_div, or_nI, shl_nI, Option.toList_some, Option.toList_none, List.singleton_append, List.nil_append, if_true, if_false, or_true, true_or, or_false, false_or, and_false, false_and, Bool.false_eq_true, tx']
  refine CL_mono hz (fun r U hu => ?_)
  obtain ⟨rfl, hu⟩ := hu
  simp (disch := omega) only [w223_1243, ↓neg_vM, ↓neg_vB, ↓neg_vS, ↓neg_vF, ↓neg_vO, ↓neg_vA, ↓neg_vN, lit_nI, nI_leI, nI_ltI, nI_eq, jm_in_nI, nI_clamp, nI_add, n_mul, pk_sub, n_le_t, n_le_f, n_lt_t, n_lt_f, n_eq_t, n_eq_f, true_and, and_true, ne_eq, not_false_eq_true, not_true_eq_false, min_n, max_n, dif_n, n_rem, n_div, or_nI, shl_nI, Option.toList_some, Option.toList_none, List.singleton_append, List.nil_append, if_true, if_false, or_true, true_or, or_false, false_or, and_false, false_and, Bool.false_eq_true]
  exact hZ U hu
theorem law_image (hi : i + 6 ≤ L) (hL : L ≤ 384) (hI : Inv xs S) (hZ : ∀ T, Inv xs T → WQ (L + 1) 100 223 1442 [.ref jx_S, .ref 0, .ref 128, .int (nI i)] [] T Z) : WQ (L + 1) 100 223 1248 [.ref jx_S, .ref 0, .ref 128, .int (nI i)] [] S Z := by
  obtain ⟨k, hI⟩ := hI
  have ht := top_sh (L + 1)
  have hm := mod_sh (L + 1)
  have hS := sh_S L
  have sx : S jx_S = xs := hI.1.1
  simp (disch := omega) only [w223_1248, w223_1249, w223_1250, w223_1251, w223_1252, w223_1253, w223_1254, ht, hm, hS, ↓neg_vM, ↓neg_vB, ↓neg_vS, ↓neg_vF, ↓neg_vO, ↓neg_vA, ↓neg_vN, lit_nI, nI_leI, nI_ltI, nI_eq, jm_in_nI, nI_clamp, nI_add, n_mul, pk_sub, n_le_t, n_le_f, n_lt_t, n_lt_f, n_eq_t, n_eq_f, true_and, and_true, ne_eq, not_false_eq_true, not_true_eq_false, min_n, max_n, dif_n, n_rem, n_div, or_nI, shl_nI, Option.toList_some, Option.toList_none, List.singleton_append, List.nil_append, if_true, if_false, or_true, true_or, or_false, false_or, and_false, false_and, Bool.false_eq_true, sx]
  refine CL_mono (CL_keep (p_image (L := L + 1) (d := 90) hI)) (fun r T hz => ?_)
  obtain ⟨⟨v, rfl, hz⟩, tx⟩ := hz
  have tx' : T jx_S = xs := tx.trans sx
  simp (disch := omega) only [w223_1257, w223_1258, w223_1259, w223_1260, w223_1261, w223_1262, w223_1263, ht, hm, hS, ↓neg_vM, ↓neg_vB, ↓neg_vS, ↓neg_vF, ↓neg_vO, ↓neg_vA, ↓neg_vN, lit_nI, nI_leI, nI_ltI, nI_eq, jm_in_nI, nI_clamp, nI_add, n_mul, pk_sub, n_le_t, n_le_f, n_lt_t, n_lt_f, n_eq_t, n_eq_f, true_and, and_true, ne_eq, not_false_eq_true, not_true_eq_false, min_n, max_n, dif_n, n_rem, n_div, or_nI, shl_nI, Option.toList_some, Option.toList_none, List.singleton_append, List.nil_append, if_true, if_false, or_true, true_or, or_false, false_or, and_false, false_and, Bool.false_eq_true, tx']
  refine CL_mono hz (fun r U hu => ?_)
  obtain ⟨rfl, hu⟩ := hu
  simp (disch := omega) only [w223_1266, ↓neg_vM, ↓neg_vB, ↓neg_vS, ↓neg_vF, ↓neg_vO, ↓neg_vA, ↓neg_vN, lit_nI, nI_leI, nI_ltI, nI_eq, jm_in_nI, nI_clamp, nI_add, n_mul, pk_sub, n_le_t, n_le_f, n_lt_t, n_lt_f, n_eq_t, n_eq_f, true_and, and_true, ne_eq, not_false_eq_true, not_true_eq_false, min_n, max_n, dif_n, n_rem, n_div, or_nI, shl_nI, Option.toList_some, Option.toList_none, List.singleton_append, List.nil_append, if_true, if_false, or_true, true_or, or_false, false_or, and_false, false_and, Bool.false_eq_true]
  exact hZ U hu
theorem law_restore (hi : i + 6 ≤ L) (hL : L ≤ 384) (hI : Inv xs S) (hZ : ∀ T, Inv xs T → WQ (L + 1) 100 223 1442 [.ref jx_S, .ref 0, .ref 128, .int (nI i)] [] T Z) : WQ (L + 1) 100 223 1271 [.ref jx_S, .ref 0, .ref 128, .int (nI i)] [] S Z := by
  obtain ⟨k, hI⟩ := hI
  have ht := top_sh (L + 1)
  have hm := mod_sh (L + 1)
  have hS := sh_S L
  have sx : S jx_S = xs := hI.1.1
  simp (disch := omega) only [w223_1271, w223_1272, w223_1273, w223_1274, w223_1275, w223_1276, w223_1277, ht, hm, hS, ↓neg_vM, ↓neg_vB, ↓neg_vS, ↓neg_vF, ↓neg_vO, ↓neg_vA, ↓neg_vN, lit_nI, nI_leI, nI_ltI, nI_eq, jm_in_nI, nI_clamp, nI_add, n_mul, pk_sub, n_le_t, n_le_f, n_lt_t, n_lt_f, n_eq_t, n_eq_f, true_and, and_true, ne_eq, not_false_eq_true, not_true_eq_false, min_n, max_n, dif_n, n_rem, n_div, or_nI, shl_nI, Option.toList_some, Option.toList_none, List.singleton_append, List.nil_append, if_true, if_false, or_true, true_or, or_false, false_or, and_false, false_and, Bool.false_eq_true, sx]
  refine CL_mono (CL_keep (p_restore (L := L + 1) (d := 90) hI)) (fun r T hz => ?_)
  obtain ⟨⟨v, rfl, hz⟩, tx⟩ := hz
  have tx' : T jx_S = xs := tx.trans sx
  simp (disch := omega) only [w223_1280, w223_1281, w223_1282, w223_1283, w223_1284, w223_1285, w223_1286, ht, hm, hS, ↓neg_vM, ↓neg_vB, ↓neg_vS, ↓neg_vF, ↓neg_vO, ↓neg_vA, ↓neg_vN, lit_nI, nI_leI, nI_ltI, nI_eq, jm_in_nI, nI_clamp, nI_add, n_mul, pk_sub, n_le_t, n_le_f, n_lt_t, n_lt_f, n_eq_t, n_eq_f, true_and, and_true, ne_eq, not_false_eq_true, not_true_eq_false, min_n, max_n, dif_n, n_rem, n_div, or_nI, shl_nI, Option.toList_some, Option.toList_none, List.singleton_append, List.nil_append, if_true, if_false, or_true, true_or, or_false, false_or, and_false, false_and, Bool.false_eq_true, tx']
  refine CL_mono hz (fun r U hu => ?_)
  obtain ⟨rfl, hu⟩ := hu
  simp (disch := omega) only [w223_1289, ↓neg_vM, ↓neg_vB, ↓neg_vS, ↓neg_vF, ↓neg_vO, ↓neg_vA, ↓neg_vN, lit_nI, nI_leI, nI_ltI, nI_eq, jm_in_nI, nI_clamp, nI_add, n_mul, pk_sub, n_le_t, n_le_f, n_lt_t, n_lt_f, n_eq_t, n_eq_f, true_and, and_true, ne_eq, not_false_eq_true, not_true_eq_false, min_n, max_n, dif_n, n_rem, n_div, or_nI, shl_nI, Option.toList_some, Option.toList_none, List.singleton_append, List.nil_append, if_true, if_false, or_true, true_or, or_false, false_or, and_false, false_and, Bool.false_eq_true]
  exact hZ U hu
theorem law_kind (hi : i + 6 ≤ L) (hL : L ≤ 384) (hI : Inv xs S) (hZ : ∀ T, Inv xs T → WQ (L + 1) 100 223 1442 [.ref jx_S, .ref 0, .ref 128, .int (nI i)] [] T Z) : WQ (L + 1) 100 223 1294 [.ref jx_S, .ref 0, .ref 128, .int (nI i)] [] S Z := by
  obtain ⟨k, hI⟩ := hI
  have ht := top_sh (L + 1)
  have hm := mod_sh (L + 1)
  have hS := sh_S L
  have sx : S jx_S = xs := hI.1.1
  simp (disch := omega) only [w223_1294, w223_1295, w223_1296, w223_1297, w223_1298, w223_1299, w223_1300, ht, hm, hS, ↓neg_vM, ↓neg_vB, ↓neg_vS, ↓neg_vF, ↓neg_vO, ↓neg_vA, ↓neg_vN, lit_nI, nI_leI, nI_ltI, nI_eq, jm_in_nI, nI_clamp, nI_add, n_mul, pk_sub, n_le_t, n_le_f, n_lt_t, n_lt_f, n_eq_t, n_eq_f, true_and, and_true, ne_eq, not_false_eq_true, not_true_eq_false, min_n, max_n, dif_n, n_rem, n_div, or_nI, shl_nI, Option.toList_some, Option.toList_none, List.singleton_append, List.nil_append, if_true, if_false, or_true, true_or, or_false, false_or, and_false, false_and, Bool.false_eq_true, sx]
  refine CL_mono (CL_keep (p_kind (L := L + 1) (d := 94) hI)) (fun r T hz => ?_)
  obtain ⟨⟨v, rfl, hz⟩, tx⟩ := hz
  have tx' : T jx_S = xs := tx.trans sx
  simp (disch := omega) only [w223_1303, w223_1304, w223_1305, w223_1306, w223_1307, w223_1308, w223_1309, ht, hm, hS, ↓neg_vM, ↓neg_vB, ↓neg_vS, ↓neg_vF, ↓neg_vO, ↓neg_vA, ↓neg_vN, lit_nI, nI_leI, nI_ltI, nI_eq, jm_in_nI, nI_clamp, nI_add, n_mul, pk_sub, n_le_t, n_le_f, n_lt_t, n_lt_f, n_eq_t, n_eq_f, true_and, and_true, ne_eq, not_false_eq_true, not_true_eq_false, min_n, max_n, dif_n, n_rem, n_div, or_nI, shl_nI, Option.toList_some, Option.toList_none, List.singleton_append, List.nil_append, if_true, if_false, or_true, true_or, or_false, false_or, and_false, false_and, Bool.false_eq_true, tx']
  refine CL_mono hz (fun r U hu => ?_)
  obtain ⟨rfl, hu⟩ := hu
  simp (disch := omega) only [w223_1312, ↓neg_vM, ↓neg_vB, ↓neg_vS, ↓neg_vF, ↓neg_vO, ↓neg_vA, ↓neg_vN, lit_nI, nI_leI, nI_ltI, nI_eq, jm_in_nI, nI_clamp, nI_add, n_mul, pk_sub, n_le_t, n_le_f, n_lt_t, n_lt_f, n_eq_t, n_eq_f, true_and, and_true, ne_eq, not_false_eq_true, not_true_eq_false, min_n, max_n, dif_n, n_rem, n_div, or_nI, shl_nI, Option.toList_some, Option.toList_none, List.singleton_append, List.nil_append, if_true, if_false, or_true, true_or, or_false, false_or, and_false, false_and, Bool.false_eq_true]
  exact hZ U hu
theorem law_as (hi : i + 6 ≤ L) (hL : L ≤ 384) (hI : Inv xs S) (hZ : ∀ T, Inv xs T → WQ (L + 1) 100 223 1442 [.ref jx_S, .ref 0, .ref 128, .int (nI i)] [] T Z) : WQ (L + 1) 100 223 1317 [.ref jx_S, .ref 0, .ref 128, .int (nI i)] [] S Z := by
  obtain ⟨k, hI⟩ := hI
  have ht := top_sh (L + 1)
  have hm := mod_sh (L + 1)
  have hS := sh_S L
  have sx : S jx_S = xs := hI.1.1
  simp (disch := omega) only [w223_1317, w223_1318, w223_1319, w223_1320, w223_1321, w223_1322, w223_1323, w223_1324, w223_1325, w223_1326, w223_1327, w223_1328, ht, hm, hS, ↓neg_vM, ↓neg_vB, ↓neg_vS, ↓neg_vF, ↓neg_vO, ↓neg_vA, ↓neg_vN, lit_nI, nI_leI, nI_ltI, nI_eq, jm_in_nI, nI_clamp, nI_add, n_mul, pk_sub, n_le_t, n_le_f, n_lt_t, n_lt_f, n_eq_t, n_eq_f, true_and, and_true, ne_eq, not_false_eq_true, not_true_eq_false, min_n, max_n, dif_n, n_rem, n_div, or_nI, shl_nI, Option.toList_some, Option.toList_none, List.singleton_append, List.nil_append, if_true, if_false, or_true, true_or, or_false, false_or, and_false, false_and, Bool.false_eq_true, sx]
  refine CL_mono (CL_keep (p_as (L := L + 1) (d := 90) hI)) (fun r T hz => ?_)
  obtain ⟨⟨v, rfl, hz⟩, tx⟩ := hz
  have tx' : T jx_S = xs := tx.trans sx
  simp (disch := omega) only [w223_1331, w223_1332, w223_1333, w223_1334, w223_1335, w223_1336, w223_1337, w223_1338, w223_1339, w223_1340, w223_1341, w223_1342, ht, hm, hS, ↓neg_vM, ↓neg_vB, ↓neg_vS, ↓neg_vF, ↓neg_vO, ↓neg_vA, ↓neg_vN, lit_nI, nI_leI, nI_ltI, nI_eq, jm_in_nI, nI_clamp, nI_add, n_mul, pk_sub, n_le_t, n_le_f, n_lt_t, n_lt_f, n_eq_t, n_eq_f, true_and, and_true, ne_eq, not_false_eq_true, not_true_eq_false, min_n, max_n, dif_n, n_rem, n_div, or_nI, shl_nI, Option.toList_some, Option.toList_none, List.singleton_append, List.nil_append, if_true, if_false, or_true, true_or, or_false, false_or, and_false, false_and, Bool.false_eq_true, tx']
  refine CL_mono hz (fun r U hu => ?_)
  obtain ⟨rfl, hu⟩ := hu
  simp (disch := omega) only [w223_1345, ↓neg_vM, ↓neg_vB, ↓neg_vS, ↓neg_vF, ↓neg_vO, ↓neg_vA, ↓neg_vN, lit_nI, nI_leI, nI_ltI, nI_eq, jm_in_nI, nI_clamp, nI_add, n_mul, pk_sub, n_le_t, n_le_f, n_lt_t, n_lt_f, n_eq_t, n_eq_f, true_and, and_true, ne_eq, not_false_eq_true, not_true_eq_false, min_n, max_n, dif_n, n_rem, n_div, or_nI, shl_nI, Option.toList_some, Option.toList_none, List.singleton_append, List.nil_append, if_true, if_false, or_true, true_or, or_false, false_or, and_false, false_and, Bool.false_eq_true]
  exact hZ U hu
theorem law_ask (hi : i + 6 ≤ L) (hL : L ≤ 384) (hI : Inv xs S) (hZ : ∀ T, Inv xs T → WQ (L + 1) 100 223 1442 [.ref jx_S, .ref 0, .ref 128, .int (nI i)] [] T Z) : WQ (L + 1) 100 223 1350 [.ref jx_S, .ref 0, .ref 128, .int (nI i)] [] S Z := by
  obtain ⟨k, hI⟩ := hI
  have ht := top_sh (L + 1)
  have hm := mod_sh (L + 1)
  have hS := sh_S L
  have sx : S jx_S = xs := hI.1.1
  simp (disch := omega) only [w223_1350, w223_1351, w223_1352, w223_1353, w223_1354, w223_1355, w223_1356, w223_1357, w223_1358, w223_1359, w223_1360, w223_1361, ht, hm, hS, ↓neg_vM, ↓neg_vB, ↓neg_vS, ↓neg_vF, ↓neg_vO, ↓neg_vA, ↓neg_vN, lit_nI, nI_leI, nI_ltI, nI_eq, jm_in_nI, nI_clamp, nI_add, n_mul, pk_sub, n_le_t, n_le_f, n_lt_t, n_lt_f, n_eq_t, n_eq_f, true_and, and_true, ne_eq, not_false_eq_true, not_true_eq_false, min_n, max_n, dif_n, n_rem, n_div, or_nI, shl_nI, Option.toList_some, Option.toList_none, List.singleton_append, List.nil_append, if_true, if_false, or_true, true_or, or_false, false_or, and_false, false_and, Bool.false_eq_true, sx]
  refine CL_mono (CL_keep (p_ask (L := L + 1) (d := 90) hI)) (fun r T hz => ?_)
  obtain ⟨⟨v, rfl, hz⟩, tx⟩ := hz
  have tx' : T jx_S = xs := tx.trans sx
  simp (disch := omega) only [w223_1364, w223_1365, w223_1366, w223_1367, w223_1368, w223_1369, w223_1370, w223_1371, w223_1372, w223_1373, w223_1374, w223_1375, ht, hm, hS, ↓neg_vM, ↓neg_vB, ↓neg_vS, ↓neg_vF, ↓neg_vO, ↓neg_vA, ↓neg_vN, lit_nI, nI_leI, nI_ltI, nI_eq, jm_in_nI, nI_clamp, nI_add, n_mul, pk_sub, n_le_t, n_le_f, n_lt_t, n_lt_f, n_eq_t, n_eq_f, true_and, and_true, ne_eq, not_false_eq_true, not_true_eq_false, min_n, max_n, dif_n, n_rem, n_div, or_nI, shl_nI, Option.toList_some, Option.toList_none, List.singleton_append, List.nil_append, if_true, if_false, or_true, true_or, or_false, false_or, and_false, false_and, Bool.false_eq_true, tx']
  refine CL_mono hz (fun r U hu => ?_)
  obtain ⟨rfl, hu⟩ := hu
  simp (disch := omega) only [w223_1378, ↓neg_vM, ↓neg_vB, ↓neg_vS, ↓neg_vF, ↓neg_vO, ↓neg_vA, ↓neg_vN, lit_nI, nI_leI, nI_ltI, nI_eq, jm_in_nI, nI_clamp, nI_add, n_mul, pk_sub, n_le_t, n_le_f, n_lt_t, n_lt_f, n_eq_t, n_eq_f, true_and, and_true, ne_eq, not_false_eq_true, not_true_eq_false, min_n, max_n, dif_n, n_rem, n_div, or_nI, shl_nI, Option.toList_some, Option.toList_none, List.singleton_append, List.nil_append, if_true, if_false, or_true, true_or, or_false, false_or, and_false, false_and, Bool.false_eq_true]
  exact hZ U hu
theorem law_trace (hi : i + 6 ≤ L) (hL : L ≤ 384) (hI : Inv xs S) (hZ : ∀ T, Inv xs T → WQ (L + 1) 100 223 1442 [.ref jx_S, .ref 0, .ref 128, .int (nI i)] [] T Z) : WQ (L + 1) 100 223 1383 [.ref jx_S, .ref 0, .ref 128, .int (nI i)] [] S Z := by
  obtain ⟨k, hI⟩ := hI
  have ht := top_sh (L + 1)
  have hm := mod_sh (L + 1)
  have hS := sh_S L
  have sx : S jx_S = xs := hI.1.1
  simp (disch := omega) only [w223_1383, w223_1384, w223_1385, w223_1386, w223_1387, w223_1388, w223_1389, ht, hm, hS, ↓neg_vM, ↓neg_vB, ↓neg_vS, ↓neg_vF, ↓neg_vO, ↓neg_vA, ↓neg_vN, lit_nI, nI_leI, nI_ltI, nI_eq, jm_in_nI, nI_clamp, nI_add, n_mul, pk_sub, n_le_t, n_le_f, n_lt_t, n_lt_f, n_eq_t, n_eq_f, true_and, and_true, ne_eq, not_false_eq_true, not_true_eq_false, min_n, max_n, dif_n, n_rem, n_div, or_nI, shl_nI, Option.toList_some, Option.toList_none, List.singleton_append, List.nil_append, if_true, if_false, or_true, true_or, or_false, false_or, and_false, false_and, Bool.false_eq_true, sx]
  refine CL_mono (CL_keep (p_trace (L := L + 1) (d := 90) hI)) (fun r T hz => ?_)
  obtain ⟨⟨v, rfl, hz⟩, tx⟩ := hz
  have tx' : T jx_S = xs := tx.trans sx
  simp (disch := omega) only [w223_1392, w223_1393, w223_1394, w223_1395, w223_1396, w223_1397, w223_1398, ht, hm, hS, ↓neg_vM, ↓neg_vB, ↓neg_vS, ↓neg_vF, ↓neg_vO, ↓neg_vA, ↓neg_vN, lit_nI, nI_leI, nI_ltI, nI_eq, jm_in_nI, nI_clamp, nI_add, n_mul, pk_sub, n_le_t, n_le_f, n_lt_t, n_lt_f, n_eq_t, n_eq_f, true_and, and_true, ne_eq, not_false_eq_true, not_true_eq_false, min_n, max_n, dif_n, n_rem, n_div, or_nI, shl_nI, Option.toList_some, Option.toList_none, List.singleton_append, List.nil_append, if_true, if_false, or_true, true_or, or_false, false_or, and_false, false_and, Bool.false_eq_true, tx']
  refine CL_mono hz (fun r U hu => ?_)
  obtain ⟨rfl, hu⟩ := hu
  simp (disch := omega) only [w223_1401, ↓neg_vM, ↓neg_vB, ↓neg_vS, ↓neg_vF, ↓neg_vO, ↓neg_vA, ↓neg_vN, lit_nI, nI_leI, nI_ltI, nI_eq, jm_in_nI, nI_clamp, nI_add, n_mul, pk_sub, n_le_t, n_le_f, n_lt_t, n_lt_f, n_eq_t, n_eq_f, true_and, and_true, ne_eq, not_false_eq_true, not_true_eq_false, min_n, max_n, dif_n, n_rem, n_div, or_nI, shl_nI, Option.toList_some, Option.toList_none, List.singleton_append, List.nil_append, if_true, if_false, or_true, true_or, or_false, false_or, and_false, false_and, Bool.false_eq_true]
  exact hZ U hu
theorem law_count (hi : i + 6 ≤ L) (hL : L ≤ 384) (hI : Inv xs S) (hZ : ∀ T, Inv xs T → WQ (L + 1) 100 223 1442 [.ref jx_S, .ref 0, .ref 128, .int (nI i)] [] T Z) : WQ (L + 1) 100 223 1406 [.ref jx_S, .ref 0, .ref 128, .int (nI i)] [] S Z := by
  obtain ⟨k, hI⟩ := hI
  have ht := top_sh (L + 1)
  have hm := mod_sh (L + 1)
  have hS := sh_S L
  have sx : S jx_S = xs := hI.1.1
  simp (disch := omega) only [w223_1406, w223_1407, w223_1408, w223_1409, w223_1410, w223_1411, w223_1412, ht, hm, hS, ↓neg_vM, ↓neg_vB, ↓neg_vS, ↓neg_vF, ↓neg_vO, ↓neg_vA, ↓neg_vN, lit_nI, nI_leI, nI_ltI, nI_eq, jm_in_nI, nI_clamp, nI_add, n_mul, pk_sub, n_le_t, n_le_f, n_lt_t, n_lt_f, n_eq_t, n_eq_f, true_and, and_true, ne_eq, not_false_eq_true, not_true_eq_false, min_n, max_n, dif_n, n_rem, n_div, or_nI, shl_nI, Option.toList_some, Option.toList_none, List.singleton_append, List.nil_append, if_true, if_false, or_true, true_or, or_false, false_or, and_false, false_and, Bool.false_eq_true, sx]
  refine CL_mono (CL_keep (p_count (L := L + 1) (d := 90) hI)) (fun r T hz => ?_)
  obtain ⟨⟨v, rfl, hz⟩, tx⟩ := hz
  have tx' : T jx_S = xs := tx.trans sx
  simp (disch := omega) only [w223_1415, w223_1416, w223_1417, w223_1418, w223_1419, w223_1420, w223_1421, ht, hm, hS, ↓neg_vM, ↓neg_vB, ↓neg_vS, ↓neg_vF, ↓neg_vO, ↓neg_vA, ↓neg_vN, lit_nI, nI_leI, nI_ltI, nI_eq, jm_in_nI, nI_clamp, nI_add, n_mul, pk_sub, n_le_t, n_le_f, n_lt_t, n_lt_f, n_eq_t, n_eq_f, true_and, and_true, ne_eq, not_false_eq_true, not_true_eq_false, min_n, max_n, dif_n, n_rem, n_div, or_nI, shl_nI, Option.toList_some, Option.toList_none, List.singleton_append, List.nil_append, if_true, if_false, or_true, true_or, or_false, false_or, and_false, false_and, Bool.false_eq_true, tx']
  refine CL_mono hz (fun r U hu => ?_)
  obtain ⟨rfl, hu⟩ := hu
  simp (disch := omega) only [w223_1424, ↓neg_vM, ↓neg_vB, ↓neg_vS, ↓neg_vF, ↓neg_vO, ↓neg_vA, ↓neg_vN, lit_nI, nI_leI, nI_ltI, nI_eq, jm_in_nI, nI_clamp, nI_add, n_mul, pk_sub, n_le_t, n_le_f, n_lt_t, n_lt_f, n_eq_t, n_eq_f, true_and, and_true, ne_eq, not_false_eq_true, not_true_eq_false, min_n, max_n, dif_n, n_rem, n_div, or_nI, shl_nI, Option.toList_some, Option.toList_none, List.singleton_append, List.nil_append, if_true, if_false, or_true, true_or, or_false, false_or, and_false, false_and, Bool.false_eq_true]
  exact hZ U hu
theorem law_status (hi : i + 6 ≤ L) (hL : L ≤ 384) (hI : Inv xs S) (hZ : ∀ T, Inv xs T → WQ (L + 1) 100 223 1442 [.ref jx_S, .ref 0, .ref 128, .int (nI i)] [] T Z) : WQ (L + 1) 100 223 1429 [.ref jx_S, .ref 0, .ref 128, .int (nI i)] [] S Z := by
  obtain ⟨k, hI⟩ := hI
  have ht := top_sh (L + 1)
  have hm := mod_sh (L + 1)
  have hS := sh_S L
  have sx : S jx_S = xs := hI.1.1
  simp (disch := omega) only [w223_1429, w223_1430, ht, hm, hS, ↓neg_vM, ↓neg_vB, ↓neg_vS, ↓neg_vF, ↓neg_vO, ↓neg_vA, ↓neg_vN, lit_nI, nI_leI, nI_ltI, nI_eq, jm_in_nI, nI_clamp, nI_add, n_mul, pk_sub, n_le_t, n_le_f, n_lt_t, n_lt_f, n_eq_t, n_eq_f, true_and, and_true, ne_eq, not_false_eq_true, not_true_eq_false, min_n, max_n, dif_n, n_rem, n_div, or_nI, shl_nI, Option.toList_some, Option.toList_none, List.singleton_append, List.nil_append, if_true, if_false, or_true, true_or, or_false, false_or, and_false, false_and, Bool.false_eq_true, sx]
  refine CL_mono (CL_keep (p_status (L := L + 1) (d := 94) hI)) (fun r T hz => ?_)
  obtain ⟨⟨v, rfl, hz⟩, tx⟩ := hz
  have tx' : T jx_S = xs := tx.trans sx
  simp (disch := omega) only [w223_1433, w223_1434, ht, hm, hS, ↓neg_vM, ↓neg_vB, ↓neg_vS, ↓neg_vF, ↓neg_vO, ↓neg_vA, ↓neg_vN, lit_nI, nI_leI, nI_ltI, nI_eq, jm_in_nI, nI_clamp, nI_add, n_mul, pk_sub, n_le_t, n_le_f, n_lt_t, n_lt_f, n_eq_t, n_eq_f, true_and, and_true, ne_eq, not_false_eq_true, not_true_eq_false, min_n, max_n, dif_n, n_rem, n_div, or_nI, shl_nI, Option.toList_some, Option.toList_none, List.singleton_append, List.nil_append, if_true, if_false, or_true, true_or, or_false, false_or, and_false, false_and, Bool.false_eq_true, tx']
  refine CL_mono hz (fun r U hu => ?_)
  obtain ⟨rfl, hu⟩ := hu
  simp (disch := omega) only [w223_1437, ↓neg_vM, ↓neg_vB, ↓neg_vS, ↓neg_vF, ↓neg_vO, ↓neg_vA, ↓neg_vN, lit_nI, nI_leI, nI_ltI, nI_eq, jm_in_nI, nI_clamp, nI_add, n_mul, pk_sub, n_le_t, n_le_f, n_lt_t, n_lt_f, n_eq_t, n_eq_f, true_and, and_true, ne_eq, not_false_eq_true, not_true_eq_false, min_n, max_n, dif_n, n_rem, n_div, or_nI, shl_nI, Option.toList_some, Option.toList_none, List.singleton_append, List.nil_append, if_true, if_false, or_true, true_or, or_false, false_or, and_false, false_and, Bool.false_eq_true]
  exact hZ U hu
end
