/-! ===== who, felt ===== -/
section
variable {xs : Nat → Int32} {L d : Nat} {S : jm_I2} {k : kT} {Z : Option Value → jm_I2 → Prop}
theorem c_unhT {r : Nat} {i n : Int32} (hr : r < 8) (h : S 12 r = vM) : CL L (d + 1) 125 [.ref 0, .int (nI r), .int i, .int n] S Z ↔ Z (some (.int (nI 1))) S := by
  have ht := top_sh L
  simp (disch := omega) only [cl125, w125_0, w125_1, w125_4, w125_5, w125_8, w125_11, w125_12, w125_13, w125_14, w125_17, w125_18, w125_19, w125_20, w125_23, w125_26, w125_27, w125_30, w125_31, ht, ↓neg_vM, ↓neg_vB, ↓neg_vS, ↓neg_vF, ↓neg_vO, ↓neg_vA, ↓neg_vN, lit_nI, nI_leI, nI_ltI, nI_eq, jm_in_nI, nI_clamp, nI_add, n_mul, pk_sub, n_le_t, n_le_f, n_lt_t, n_lt_f, n_eq_t, n_eq_f, true_and, and_true, ne_eq, not_false_eq_true, not_true_eq_false, min_n, max_n, dif_n, n_rem, n_div, or_nI, shl_nI, Option.toList_some, Option.toList_none, List.singleton_append, List.nil_append, if_true, if_false, or_true, true_or, or_false, false_or, and_false, false_and, Bool.false_eq_true, c_isMissT hr h]
theorem c_unhF {r m : Nat} {i n : Int32} (hr : r < 8) (hm : m ≤ 40) (h : S 12 r = nI m) : CL L (d + 1) 125 [.ref 0, .int (nI r), .int i, .int n] S Z ↔ (if hasP i n m = true then Z (some (.int (nI 0))) S else Z (some (.int (nI 2))) S) := by
  have ht := top_sh L
  by_cases c : hasP i n m = true
  · simp (disch := omega) only [cl125, w125_0, w125_1, w125_4, w125_5, w125_8, w125_11, w125_12, w125_13, w125_14, w125_17, w125_18, w125_19, w125_20, w125_23, w125_26, w125_27, w125_30, w125_31, ht, ↓neg_vM, ↓neg_vB, ↓neg_vS, ↓neg_vF, ↓neg_vO, ↓neg_vA, ↓neg_vN, lit_nI, nI_leI, nI_ltI, nI_eq, jm_in_nI, nI_clamp, nI_add, n_mul, pk_sub, n_le_t, n_le_f, n_lt_t, n_lt_f, n_eq_t, n_eq_f, true_and, and_true, ne_eq, not_false_eq_true, not_true_eq_false, min_n, max_n, dif_n, n_rem, n_div, or_nI, shl_nI, Option.toList_some, Option.toList_none, List.singleton_append, List.nil_append, if_true, if_false, or_true, true_or, or_false, false_or, and_false, false_and, Bool.false_eq_true, c_isMissF hr hm h, c_hasPlaces hr hm h, c]
  · simp (disch := omega) only [cl125, w125_0, w125_1, w125_4, w125_5, w125_8, w125_11, w125_12, w125_13, w125_14, w125_17, w125_18, w125_19, w125_20, w125_23, w125_26, w125_27, w125_30, w125_31, ht, ↓neg_vM, ↓neg_vB, ↓neg_vS, ↓neg_vF, ↓neg_vO, ↓neg_vA, ↓neg_vN, lit_nI, nI_leI, nI_ltI, nI_eq, jm_in_nI, nI_clamp, nI_add, n_mul, pk_sub, n_le_t, n_le_f, n_lt_t, n_lt_f, n_eq_t, n_eq_f, true_and, and_true, ne_eq, not_false_eq_true, not_true_eq_false, min_n, max_n, dif_n, n_rem, n_div, or_nI, shl_nI, Option.toList_some, Option.toList_none, List.singleton_append, List.nil_append, if_true, if_false, or_true, true_or, or_false, false_or, and_false, false_and, Bool.false_eq_true, c_isMissF hr hm h, c_hasPlaces hr hm h, c]
theorem c_hear {row p q : Nat} (hr : row < 8) (hq : q ≤ 12) (hp : p + q ≤ 40) : CL L d 40 [.ref 82, .ref (3 + row), .int (nI p), .int (nI q)] S Z ↔ Z none (jm_row (jm_upd S 82 3 (nI q)) 103 (va_cpy (S (3 + row)) (S 103) p 0 q)) := by
  have ht := top_sh L
  have hw := row_sh L hr
  have em : min 12 q = q := by omega
  have em2 : min q 12 = q := by omega
  simp (disch := first | omega | exact nI_pos (by omega) | (rw [nI_clamp (by omega), nI_clamp (by omega)]; omega)) only [cl40, w40_0, w40_1, w40_2, w40_4, w40_7, w40_10, w40_11, w40_12, w40_13, w40_16, w40_17, w40_18, w40_21, w40_24, ht, hw, ↓neg_vM, ↓neg_vB, ↓neg_vS, ↓neg_vF, ↓neg_vO, ↓neg_vA, ↓neg_vN, lit_nI, nI_leI, nI_ltI, nI_eq, jm_in_nI, nI_clamp, nI_add, n_mul, pk_sub, n_le_t, n_le_f, n_lt_t, n_lt_f, n_eq_t, n_eq_f, true_and, and_true, ne_eq, not_false_eq_true, not_true_eq_false, min_n, max_n, dif_n, n_rem, n_div, or_nI, shl_nI, Option.toList_some, Option.toList_none, List.singleton_append, List.nil_append, if_true, if_false, or_true, true_or, or_false, false_or, and_false, false_and, Bool.false_eq_true, em, em2, upd_at, and_self, upd_ne]
theorem r_rfT {r : Nat} {i n : Int32} (hr : r < 8) (h : S 129 r = vM) : CL L (d + 1) 200 [.ref 128, .int (nI r), .int i, .int n] S Z ↔ Z (some (.int (vO - nI 1))) (jm_upd S 128 1 (nI 1)) := by
  have hm := mod_sh L
  simp (disch := omega) only [cl200, w200_0, w200_1, w200_4, w200_5, w200_6, w200_9, w200_10, w200_11, w200_14, w200_15, w200_16, w200_19, w200_20, w200_21, w200_22, w200_23, w200_24, w200_25, w200_28, w200_29, w200_30, w200_31, w200_32, w200_35, w200_36, w200_37, w200_40, w200_41, w200_42, w200_43, w200_46, w200_47, hm, ↓neg_vM, ↓neg_vB, ↓neg_vS, ↓neg_vF, ↓neg_vO, ↓neg_vA, ↓neg_vN, lit_nI, nI_leI, nI_ltI, nI_eq, jm_in_nI, nI_clamp, nI_add, n_mul, pk_sub, n_le_t, n_le_f, n_lt_t, n_lt_f, n_eq_t, n_eq_f, true_and, and_true, ne_eq, not_false_eq_true, not_true_eq_false, min_n, max_n, dif_n, n_rem, n_div, or_nI, shl_nI, Option.toList_some, Option.toList_none, List.singleton_append, List.nil_append, if_true, if_false, or_true, true_or, or_false, false_or, and_false, false_and, Bool.false_eq_true, h, le_vM, r_finding]
theorem r_rfF {r m l q : Nat} {i : Int32} (hr : r < 8) (hm40 : m ≤ 40) (hl : l ≤ 2) (hq : q ≤ 12) (h : S 129 r = nI l) (h2 : S 130 r = nI m) : CL L (d + 1) 200 [.ref 128, .int (nI r), .int i, .int (nI q)] S Z ↔ (if hasP i (nI q) m = true then Z (some (.int (nI 0))) (jm_upd S 128 1 (nI 0)) else Z (some (.int (vO - nI 2))) (jm_upd S 128 1 (nI 2))) := by
  have hm := mod_sh L
  by_cases c : hasP i (nI q) m = true
  · obtain ⟨p, q', rfl, hq', hpq⟩ := hasP_of hm40 c
    have e := congrArg Int32.toInt hq'
    rw [nI_toInt (by omega), nI_toInt (by omega)] at e
    have hqq : q = q' := by omega
    subst hqq
    simp (disch := omega) only [cl200, w200_0, w200_1, w200_4, w200_5, w200_6, w200_9, w200_10, w200_11, w200_14, w200_15, w200_16, w200_19, w200_20, w200_21, w200_22, w200_23, w200_24, w200_25, w200_28, w200_29, w200_30, w200_31, w200_32, w200_35, w200_36, w200_37, w200_40, w200_41, w200_42, w200_43, w200_46, w200_47, hm, ↓neg_vM, ↓neg_vB, ↓neg_vS, ↓neg_vF, ↓neg_vO, ↓neg_vA, ↓neg_vN, lit_nI, nI_leI, nI_ltI, nI_eq, jm_in_nI, nI_clamp, nI_add, n_mul, pk_sub, n_le_t, n_le_f, n_lt_t, n_lt_f, n_eq_t, n_eq_f, true_and, and_true, ne_eq, not_false_eq_true, not_true_eq_false, min_n, max_n, dif_n, n_rem, n_div, or_nI, shl_nI, Option.toList_some, Option.toList_none, List.singleton_append, List.nil_append, if_true, if_false, or_true, true_or, or_false, false_or, and_false, false_and, Bool.false_eq_true, h, h2, nI_l, lN_add, lg_le, lg_gt, lN_lt, c]
  · have c' : hasP i (nI q) m = false := by simpa using c
    unfold hasP at c'
    rw [nI_toInt (show q < 2 ^ 31 by omega)] at c'
    simp at c'
    by_cases g1 : i < nI 0
    · simp (disch := omega) only [cl200, w200_0, w200_1, w200_4, w200_5, w200_6, w200_9, w200_10, w200_11, w200_14, w200_15, w200_16, w200_19, w200_20, w200_21, w200_22, w200_23, w200_24, w200_25, w200_28, w200_29, w200_30, w200_31, w200_32, w200_35, w200_36, w200_37, w200_40, w200_41, w200_42, w200_43, w200_46, w200_47, hm, ↓neg_vM, ↓neg_vB, ↓neg_vS, ↓neg_vF, ↓neg_vO, ↓neg_vA, ↓neg_vN, lit_nI, nI_leI, nI_ltI, nI_eq, jm_in_nI, nI_clamp, nI_add, n_mul, pk_sub, n_le_t, n_le_f, n_lt_t, n_lt_f, n_eq_t, n_eq_f, true_and, and_true, ne_eq, not_false_eq_true, not_true_eq_false, min_n, max_n, dif_n, n_rem, n_div, or_nI, shl_nI, Option.toList_some, Option.toList_none, List.singleton_append, List.nil_append, if_true, if_false, or_true, true_or, or_false, false_or, and_false, false_and, Bool.false_eq_true, h, g1, c, r_finding]
    · have g1' := g1
      rw [lt0_toInt] at g1'
      have e := c' (by omega)
      have g2 : lN m < i.toInt64 + lN q := by
        rw [← nI_l (show q < 2 ^ 31 by omega), addl_gt (by omega), nI_toInt (by omega)]
        omega
      simp (disch := omega) only [cl200, w200_0, w200_1, w200_4, w200_5, w200_6, w200_9, w200_10, w200_11, w200_14, w200_15, w200_16, w200_19, w200_20, w200_21, w200_22, w200_23, w200_24, w200_25, w200_28, w200_29, w200_30, w200_31, w200_32, w200_35, w200_36, w200_37, w200_40, w200_41, w200_42, w200_43, w200_46, w200_47, hm, ↓neg_vM, ↓neg_vB, ↓neg_vS, ↓neg_vF, ↓neg_vO, ↓neg_vA, ↓neg_vN, lit_nI, nI_leI, nI_ltI, nI_eq, jm_in_nI, nI_clamp, nI_add, n_mul, pk_sub, n_le_t, n_le_f, n_lt_t, n_lt_f, n_eq_t, n_eq_f, true_and, and_true, ne_eq, not_false_eq_true, not_true_eq_false, min_n, max_n, dif_n, n_rem, n_div, or_nI, shl_nI, Option.toList_some, Option.toList_none, List.singleton_append, List.nil_append, if_true, if_false, or_true, true_or, or_false, false_or, and_false, false_and, Bool.false_eq_true, h, h2, nI_l, lg_le, lg_gt, lN_lt, g1, g2, c, r_finding]
theorem r_isMany {v n : Int32} : CL L (d + 2) 201 [.int v, .int n] S Z ↔ (if (nI 0 ≤ v ∧ v ≤ nI 7) ∧ (nI 1 ≤ n ∧ n ≤ nI 12) then Z (some (.int (nI 1))) S else Z (some (.int (nI 0))) S) := by
  by_cases c1 : nI 0 ≤ v ∧ v ≤ nI 7
  · by_cases c2 : nI 1 ≤ n ∧ n ≤ nI 12
    · simp (disch := omega) only [cl201, w201_0, w201_1, w201_4, w201_7, w201_8, w201_9, w201_10, w201_13, w201_16, w201_19, w201_20, w201_23, w201_24, ↓neg_vM, ↓neg_vB, ↓neg_vS, ↓neg_vF, ↓neg_vO, ↓neg_vA, ↓neg_vN, lit_nI, nI_leI, nI_ltI, nI_eq, jm_in_nI, nI_clamp, nI_add, n_mul, pk_sub, n_le_t, n_le_f, n_lt_t, n_lt_f, n_eq_t, n_eq_f, true_and, and_true, ne_eq, not_false_eq_true, not_true_eq_false, min_n, max_n, dif_n, n_rem, n_div, or_nI, shl_nI, Option.toList_some, Option.toList_none, List.singleton_append, List.nil_append, if_true, if_false, or_true, true_or, or_false, false_or, and_false, false_and, Bool.false_eq_true, r_isRow, lit_lN, r_in, lx_le, xl_le, c1, c2, and_self]
    · simp (disch := omega) only [cl201, w201_0, w201_1, w201_4, w201_7, w201_8, w201_9, w201_10, w201_13, w201_16, w201_19, w201_20, w201_23, w201_24, ↓neg_vM, ↓neg_vB, ↓neg_vS, ↓neg_vF, ↓neg_vO, ↓neg_vA, ↓neg_vN, lit_nI, nI_leI, nI_ltI, nI_eq, jm_in_nI, nI_clamp, nI_add, n_mul, pk_sub, n_le_t, n_le_f, n_lt_t, n_lt_f, n_eq_t, n_eq_f, true_and, and_true, ne_eq, not_false_eq_true, not_true_eq_false, min_n, max_n, dif_n, n_rem, n_div, or_nI, shl_nI, Option.toList_some, Option.toList_none, List.singleton_append, List.nil_append, if_true, if_false, or_true, true_or, or_false, false_or, and_false, false_and, Bool.false_eq_true, r_isRow, lit_lN, r_in, lx_le, xl_le, c1, c2, and_self]
  · simp (disch := omega) only [cl201, w201_0, w201_1, w201_4, w201_7, w201_8, w201_9, w201_10, w201_13, w201_16, w201_19, w201_20, w201_23, w201_24, ↓neg_vM, ↓neg_vB, ↓neg_vS, ↓neg_vF, ↓neg_vO, ↓neg_vA, ↓neg_vN, lit_nI, nI_leI, nI_ltI, nI_eq, jm_in_nI, nI_clamp, nI_add, n_mul, pk_sub, n_le_t, n_le_f, n_lt_t, n_lt_f, n_eq_t, n_eq_f, true_and, and_true, ne_eq, not_false_eq_true, not_true_eq_false, min_n, max_n, dif_n, n_rem, n_div, or_nI, shl_nI, Option.toList_some, Option.toList_none, List.singleton_append, List.nil_append, if_true, if_false, or_true, true_or, or_false, false_or, and_false, false_and, Bool.false_eq_true, r_isRow, c1]
theorem be_wK {w f r v : Nat} {T : jm_I2} (hM : RM 132 T k) (h : (w = 0 ∧ f = 0) ∨ (w = 1 ∧ f = 2) ∨ (2 ≤ w ∧ f = 1)) : RM 134 (jm_upd (fillS T 134 (fun i => nI (k i)) 34) 134 (14 + 4 * r + f) (nI v)) (wK k r w v) := by
  unfold wK
  rcases h with ⟨h1, h2⟩ | ⟨h1, h2⟩ | ⟨h1, h2⟩
  · rw [if_pos h1, h2]; exact RM_upd RM_fill
  · rw [if_neg (by omega), if_pos h1, h2]; exact RM_upd RM_fill
  · rw [if_neg (by omega), if_neg (by omega), h2]; exact RM_upd RM_fill

theorem r_who0 {r row p q : Nat} {it : Nat → Int32} {U0 : jm_I2} (hM : RM 132 U0 k) (hV : KV k) (h3 : k 3 ≤ 999) (hr : r < k 0) (hrow : row < 8) (hpq : p + q ≤ 40) (hq : q ≤ 12) (e2 : ∀ x, x < q → U0 131 (40 * row + p + x) = it x) (hZ : ∀ U, (∀ o, o ≠ 134 → o ≠ 137 → o ≠ 138 → U o = U0 o) → Z (some (.int (nI (bset (whQ k r 0 it q) 6)))) U) : WQ L (d + 6) 202 56 [.ref 128, .int (nI r), .int (nI 0), .int (nI row), .int (nI p), .int (nI q), .int (nI 0), .null, .null, .null, .null, .null] [] U0 Z := by
  have hm := mod_sh L
  have v0 := hV.1
  have v1 := hV.2.1
  have v2 := hV.2.2.1
  have key : ∀ v, v ≤ 6 → 1 ≤ v → ∀ U, (∀ o, o ≠ 134 → o ≠ 137 → o ≠ 138 → U o = U0 o) → WQ L (d + 6) 202 104 [.ref 128, .int (nI r), .int (nI 0), .int (nI row), .int (nI p), .int (nI q), .int (nI 0), .int (nI (bset (whQ k r 0 it q) v)), .int (nI (cnt (whQ k r 0 it q) v)), .int (oN (lstF (whQ k r 0 it q) v)), .int (nI 5), .int (nI v)] [] U Z := by
    apply down_ind
    · intro _ U uf
      rw [w202_104]
      simp (disch := omega) only [w202_106, w202_108, w202_201, w202_202, w202_203, w202_206, w202_208, w202_211, w202_212, w202_213, w202_216, w202_218, w202_221, w202_223, hm, ↓neg_vM, ↓neg_vB, ↓neg_vS, ↓neg_vF, ↓neg_vO, ↓neg_vA, ↓neg_vN, lit_nI, nI_leI, nI_ltI, nI_eq, jm_in_nI, nI_clamp, nI_add, n_mul, pk_sub, n_le_t, n_le_f, n_lt_t, n_lt_f, n_eq_t, n_eq_f, true_and, and_true, ne_eq, not_false_eq_true, not_true_eq_false, min_n, max_n, dif_n, n_rem, n_div, or_nI, shl_nI, Option.toList_some, Option.toList_none, List.singleton_append, List.nil_append, if_true, if_false, or_true, true_or, or_false, false_or, and_false, false_and, Bool.false_eq_true]
      exact hZ U uf
    · intro v hv ih hlo U uf
      have uM : RM 132 U k := RM_of hM (uf 132 (by decide) (by decide) (by decide))
      rw [w202_104]
      simp (disch := omega) only [w202_106, w202_108, w202_111, w202_112, w202_115, w202_116, w202_119, w202_120, w202_121, w202_124, w202_125, w202_128, w202_129, w202_130, w202_133, w202_134, w202_137, w202_138, w202_140, w202_143, w202_144, w202_145, w202_147, w202_148, w202_149, w202_151, w202_152, w202_154, hm, ↓neg_vM, ↓neg_vB, ↓neg_vS, ↓neg_vF, ↓neg_vO, ↓neg_vA, ↓neg_vN, lit_nI, nI_leI, nI_ltI, nI_eq, jm_in_nI, nI_clamp, nI_add, n_mul, pk_sub, n_le_t, n_le_f, n_lt_t, n_lt_f, n_eq_t, n_eq_f, true_and, and_true, ne_eq, not_false_eq_true, not_true_eq_false, min_n, max_n, dif_n, n_rem, n_div, or_nI, shl_nI, Option.toList_some, Option.toList_none, List.singleton_append, List.nil_append, if_true, if_false, or_true, true_or, or_false, false_or, and_false, false_and, Bool.false_eq_true, r_layThen uM, r_be isR134]
      refine r_isSo (k := wK k r 0 v) (it := it) (be_wK uM (by omega)) (KV_wK hV hr (fun _ => by omega) (fun _ => by omega) (fun _ => by omega)) (by rw [wK_low (by decide)]; exact h3) (by rw [wK_low (by decide)]; exact hr) hq (by omega) (fun x hx => ?_) (fun U2 uf2 => ?_)
      · rw [upd_ne (by decide), fillS_ne (by decide), uf 131 (by decide) (by decide) (by decide)]
        exact e2 x hx
      · have e := ih (by omega) U2 (fun o a b c => by rw [uf2 o a b c, upd_ne a, fillS_ne a, uf o a b c])
        have hc1 := cnt_le (whQ k r 0 it q) v
        by_cases c : soB (wK k r 0 v) r it q = true
        · have eQ : whQ k r 0 it q v = true := by unfold whQ; rw [c]; simp; omega
          rw [cnt, eQ, bset_T (p := whQ k r 0 it q) eQ] at e
          cases hl : lstF (whQ k r 0 it q) v with
          | none =>
            have h0 := (cnt_lst (p := whQ k r 0 it q) v).mpr hl
            rw [lstF_T eQ hl] at e
            simp (disch := omega) only [w202_157, w202_160, w202_162, w202_163, w202_164, w202_167, w202_168, w202_170, w202_171, w202_174, w202_175, w202_176, w202_178, w202_180, w202_183, w202_185, w202_188, w202_190, w202_192, w202_195, w202_198, hm, ↓neg_vM, ↓neg_vB, ↓neg_vS, ↓neg_vF, ↓neg_vO, ↓neg_vA, ↓neg_vN, lit_nI, nI_leI, nI_ltI, nI_eq, jm_in_nI, nI_clamp, nI_add, n_mul, pk_sub, n_le_t, n_le_f, n_lt_t, n_lt_f, n_eq_t, n_eq_f, true_and, and_true, ne_eq, not_false_eq_true, not_true_eq_false, min_n, max_n, dif_n, n_rem, n_div, or_nI, shl_nI, Option.toList_some, Option.toList_none, List.singleton_append, List.nil_append, if_true, if_false, or_true, true_or, or_false, false_or, and_false, false_and, Bool.false_eq_true, c, oN, h0, Nat.or_zero]
            simp (disch := omega) only [oN, h0, if_true, ↓neg_vM, ↓neg_vB, ↓neg_vS, ↓neg_vF, ↓neg_vO, ↓neg_vA, ↓neg_vN, lit_nI, nI_leI, nI_ltI, nI_eq, jm_in_nI, nI_clamp, nI_add, n_mul, pk_sub, n_le_t, n_le_f, n_lt_t, n_lt_f, n_eq_t, n_eq_f, true_and, and_true, ne_eq, not_false_eq_true, not_true_eq_false, min_n, max_n, dif_n, n_rem, n_div, or_nI, shl_nI, Option.toList_some, Option.toList_none, List.singleton_append, List.nil_append, if_true, if_false, or_true, true_or, or_false, false_or, and_false, false_and, Bool.false_eq_true] at e
            exact e
          | some s =>
            have h0 : ¬ cnt (whQ k r 0 it q) v = 0 := fun x => by rw [(cnt_lst v).mp x] at hl; cases hl
            rw [lstF_s hl] at e
            simp (disch := omega) only [w202_157, w202_160, w202_162, w202_163, w202_164, w202_167, w202_168, w202_170, w202_171, w202_174, w202_175, w202_176, w202_178, w202_180, w202_183, w202_185, w202_188, w202_190, w202_192, w202_195, w202_198, hm, ↓neg_vM, ↓neg_vB, ↓neg_vS, ↓neg_vF, ↓neg_vO, ↓neg_vA, ↓neg_vN, lit_nI, nI_leI, nI_ltI, nI_eq, jm_in_nI, nI_clamp, nI_add, n_mul, pk_sub, n_le_t, n_le_f, n_lt_t, n_lt_f, n_eq_t, n_eq_f, true_and, and_true, ne_eq, not_false_eq_true, not_true_eq_false, min_n, max_n, dif_n, n_rem, n_div, or_nI, shl_nI, Option.toList_some, Option.toList_none, List.singleton_append, List.nil_append, if_true, if_false, or_true, true_or, or_false, false_or, and_false, false_and, Bool.false_eq_true, c, oN, h0, Nat.or_zero]
            simp (disch := omega) only [oN, if_true, ↓neg_vM, ↓neg_vB, ↓neg_vS, ↓neg_vF, ↓neg_vO, ↓neg_vA, ↓neg_vN, lit_nI, nI_leI, nI_ltI, nI_eq, jm_in_nI, nI_clamp, nI_add, n_mul, pk_sub, n_le_t, n_le_f, n_lt_t, n_lt_f, n_eq_t, n_eq_f, true_and, and_true, ne_eq, not_false_eq_true, not_true_eq_false, min_n, max_n, dif_n, n_rem, n_div, or_nI, shl_nI, Option.toList_some, Option.toList_none, List.singleton_append, List.nil_append, if_true, if_false, or_true, true_or, or_false, false_or, and_false, false_and, Bool.false_eq_true] at e
            exact e
        · have c' : soB (wK k r 0 v) r it q = false := by simpa using c
          have eQ : whQ k r 0 it q v = false := by unfold whQ; rw [c']; simp
          rw [cnt, eQ, lstF_F eQ, bset_F (p := whQ k r 0 it q) eQ, Nat.or_zero] at e
          simp (disch := omega) only [w202_157, w202_160, w202_162, w202_163, w202_164, w202_167, w202_168, w202_170, w202_171, w202_174, w202_175, w202_176, w202_178, w202_180, w202_183, w202_185, w202_188, w202_190, w202_192, w202_195, w202_198, hm, ↓neg_vM, ↓neg_vB, ↓neg_vS, ↓neg_vF, ↓neg_vO, ↓neg_vA, ↓neg_vN, lit_nI, nI_leI, nI_ltI, nI_eq, jm_in_nI, nI_clamp, nI_add, n_mul, pk_sub, n_le_t, n_le_f, n_lt_t, n_lt_f, n_eq_t, n_eq_f, true_and, and_true, ne_eq, not_false_eq_true, not_true_eq_false, min_n, max_n, dif_n, n_rem, n_div, or_nI, shl_nI, Option.toList_some, Option.toList_none, List.singleton_append, List.nil_append, if_true, if_false, or_true, true_or, or_false, false_or, and_false, false_and, Bool.false_eq_true, c']
          exact e
  have hz := lst_none (p := whQ k r 0 it q) (n := 1) (fun i hi => by unfold whQ; rw [show i = 0 by omega]; rfl)
  have e := key 1 (by omega) (by omega) U0 (fun o _ _ _ => rfl)
  rw [hz.1, hz.2.1, hz.2.2] at e
  have e22 := hM 2 (by decide)
  simp (disch := omega) only [w202_56, w202_57, w202_59, w202_60, w202_62, w202_64, w202_66, w202_67, w202_70, w202_71, w202_74, w202_75, w202_76, w202_79, w202_81, w202_84, w202_85, w202_88, w202_89, w202_90, w202_92, w202_93, w202_94, w202_97, w202_98, w202_101, w202_102, hm, ↓neg_vM, ↓neg_vB, ↓neg_vS, ↓neg_vF, ↓neg_vO, ↓neg_vA, ↓neg_vN, lit_nI, nI_leI, nI_ltI, nI_eq, jm_in_nI, nI_clamp, nI_add, n_mul, pk_sub, n_le_t, n_le_f, n_lt_t, n_lt_f, n_eq_t, n_eq_f, true_and, and_true, ne_eq, not_false_eq_true, not_true_eq_false, min_n, max_n, dif_n, n_rem, n_div, or_nI, shl_nI, Option.toList_some, Option.toList_none, List.singleton_append, List.nil_append, if_true, if_false, or_true, true_or, or_false, false_or, and_false, false_and, Bool.false_eq_true, e22]
  exact e

theorem r_who1 {r row p q : Nat} {it : Nat → Int32} {U0 : jm_I2} (hM : RM 132 U0 k) (hV : KV k) (h3 : k 3 ≤ 999) (hr : r < k 0) (hrow : row < 8) (hpq : p + q ≤ 40) (hq : q ≤ 12) (e2 : ∀ x, x < q → U0 131 (40 * row + p + x) = it x) (hZ : ∀ U, (∀ o, o ≠ 134 → o ≠ 137 → o ≠ 138 → U o = U0 o) → Z (some (.int (nI (bset (whQ k r 1 it q) 10)))) U) : WQ L (d + 6) 202 56 [.ref 128, .int (nI r), .int (nI 1), .int (nI row), .int (nI p), .int (nI q), .int (nI 0), .null, .null, .null, .null, .null] [] U0 Z := by
  have hm := mod_sh L
  have v0 := hV.1
  have v1 := hV.2.1
  have v2 := hV.2.2.1
  have key : ∀ v, v ≤ 10 → 1 ≤ v → ∀ U, (∀ o, o ≠ 134 → o ≠ 137 → o ≠ 138 → U o = U0 o) → WQ L (d + 6) 202 104 [.ref 128, .int (nI r), .int (nI 1), .int (nI row), .int (nI p), .int (nI q), .int (nI 0), .int (nI (bset (whQ k r 1 it q) v)), .int (nI (cnt (whQ k r 1 it q) v)), .int (oN (lstF (whQ k r 1 it q) v)), .int (nI 9), .int (nI v)] [] U Z := by
    apply down_ind
    · intro _ U uf
      rw [w202_104]
      simp (disch := omega) only [w202_106, w202_108, w202_201, w202_202, w202_203, w202_206, w202_208, w202_211, w202_212, w202_213, w202_216, w202_218, w202_221, w202_223, hm, ↓neg_vM, ↓neg_vB, ↓neg_vS, ↓neg_vF, ↓neg_vO, ↓neg_vA, ↓neg_vN, lit_nI, nI_leI, nI_ltI, nI_eq, jm_in_nI, nI_clamp, nI_add, n_mul, pk_sub, n_le_t, n_le_f, n_lt_t, n_lt_f, n_eq_t, n_eq_f, true_and, and_true, ne_eq, not_false_eq_true, not_true_eq_false, min_n, max_n, dif_n, n_rem, n_div, or_nI, shl_nI, Option.toList_some, Option.toList_none, List.singleton_append, List.nil_append, if_true, if_false, or_true, true_or, or_false, false_or, and_false, false_and, Bool.false_eq_true]
      exact hZ U uf
    · intro v hv ih hlo U uf
      have uM : RM 132 U k := RM_of hM (uf 132 (by decide) (by decide) (by decide))
      rw [w202_104]
      simp (disch := omega) only [w202_106, w202_108, w202_111, w202_112, w202_115, w202_116, w202_119, w202_120, w202_121, w202_124, w202_125, w202_128, w202_129, w202_130, w202_133, w202_134, w202_137, w202_138, w202_140, w202_143, w202_144, w202_145, w202_147, w202_148, w202_149, w202_151, w202_152, w202_154, hm, ↓neg_vM, ↓neg_vB, ↓neg_vS, ↓neg_vF, ↓neg_vO, ↓neg_vA, ↓neg_vN, lit_nI, nI_leI, nI_ltI, nI_eq, jm_in_nI, nI_clamp, nI_add, n_mul, pk_sub, n_le_t, n_le_f, n_lt_t, n_lt_f, n_eq_t, n_eq_f, true_and, and_true, ne_eq, not_false_eq_true, not_true_eq_false, min_n, max_n, dif_n, n_rem, n_div, or_nI, shl_nI, Option.toList_some, Option.toList_none, List.singleton_append, List.nil_append, if_true, if_false, or_true, true_or, or_false, false_or, and_false, false_and, Bool.false_eq_true, r_layThen uM, r_be isR134]
      refine r_isSo (k := wK k r 1 v) (it := it) (be_wK uM (by omega)) (KV_wK hV hr (fun _ => by omega) (fun _ => by omega) (fun _ => by omega)) (by rw [wK_low (by decide)]; exact h3) (by rw [wK_low (by decide)]; exact hr) hq (by omega) (fun x hx => ?_) (fun U2 uf2 => ?_)
      · rw [upd_ne (by decide), fillS_ne (by decide), uf 131 (by decide) (by decide) (by decide)]
        exact e2 x hx
      · have e := ih (by omega) U2 (fun o a b c => by rw [uf2 o a b c, upd_ne a, fillS_ne a, uf o a b c])
        have hc1 := cnt_le (whQ k r 1 it q) v
        by_cases c : soB (wK k r 1 v) r it q = true
        · have eQ : whQ k r 1 it q v = true := by unfold whQ; rw [c]; simp; omega
          rw [cnt, eQ, bset_T (p := whQ k r 1 it q) eQ] at e
          cases hl : lstF (whQ k r 1 it q) v with
          | none =>
            have h0 := (cnt_lst (p := whQ k r 1 it q) v).mpr hl
            rw [lstF_T eQ hl] at e
            simp (disch := omega) only [w202_157, w202_160, w202_162, w202_163, w202_164, w202_167, w202_168, w202_170, w202_171, w202_174, w202_175, w202_176, w202_178, w202_180, w202_183, w202_185, w202_188, w202_190, w202_192, w202_195, w202_198, hm, ↓neg_vM, ↓neg_vB, ↓neg_vS, ↓neg_vF, ↓neg_vO, ↓neg_vA, ↓neg_vN, lit_nI, nI_leI, nI_ltI, nI_eq, jm_in_nI, nI_clamp, nI_add, n_mul, pk_sub, n_le_t, n_le_f, n_lt_t, n_lt_f, n_eq_t, n_eq_f, true_and, and_true, ne_eq, not_false_eq_true, not_true_eq_false, min_n, max_n, dif_n, n_rem, n_div, or_nI, shl_nI, Option.toList_some, Option.toList_none, List.singleton_append, List.nil_append, if_true, if_false, or_true, true_or, or_false, false_or, and_false, false_and, Bool.false_eq_true, c, oN, h0, Nat.or_zero]
            simp (disch := omega) only [oN, h0, if_true, ↓neg_vM, ↓neg_vB, ↓neg_vS, ↓neg_vF, ↓neg_vO, ↓neg_vA, ↓neg_vN, lit_nI, nI_leI, nI_ltI, nI_eq, jm_in_nI, nI_clamp, nI_add, n_mul, pk_sub, n_le_t, n_le_f, n_lt_t, n_lt_f, n_eq_t, n_eq_f, true_and, and_true, ne_eq, not_false_eq_true, not_true_eq_false, min_n, max_n, dif_n, n_rem, n_div, or_nI, shl_nI, Option.toList_some, Option.toList_none, List.singleton_append, List.nil_append, if_true, if_false, or_true, true_or, or_false, false_or, and_false, false_and, Bool.false_eq_true] at e
            exact e
          | some s =>
            have h0 : ¬ cnt (whQ k r 1 it q) v = 0 := fun x => by rw [(cnt_lst v).mp x] at hl; cases hl
            rw [lstF_s hl] at e
            simp (disch := omega) only [w202_157, w202_160, w202_162, w202_163, w202_164, w202_167, w202_168, w202_170, w202_171, w202_174, w202_175, w202_176, w202_178, w202_180, w202_183, w202_185, w202_188, w202_190, w202_192, w202_195, w202_198, hm, ↓neg_vM, ↓neg_vB, ↓neg_vS, ↓neg_vF, ↓neg_vO, ↓neg_vA, ↓neg_vN, lit_nI, nI_leI, nI_ltI, nI_eq, jm_in_nI, nI_clamp, nI_add, n_mul, pk_sub, n_le_t, n_le_f, n_lt_t, n_lt_f, n_eq_t, n_eq_f, true_and, and_true, ne_eq, not_false_eq_true, not_true_eq_false, min_n, max_n, dif_n, n_rem, n_div, or_nI, shl_nI, Option.toList_some, Option.toList_none, List.singleton_append, List.nil_append, if_true, if_false, or_true, true_or, or_false, false_or, and_false, false_and, Bool.false_eq_true, c, oN, h0, Nat.or_zero]
            simp (disch := omega) only [oN, if_true, ↓neg_vM, ↓neg_vB, ↓neg_vS, ↓neg_vF, ↓neg_vO, ↓neg_vA, ↓neg_vN, lit_nI, nI_leI, nI_ltI, nI_eq, jm_in_nI, nI_clamp, nI_add, n_mul, pk_sub, n_le_t, n_le_f, n_lt_t, n_lt_f, n_eq_t, n_eq_f, true_and, and_true, ne_eq, not_false_eq_true, not_true_eq_false, min_n, max_n, dif_n, n_rem, n_div, or_nI, shl_nI, Option.toList_some, Option.toList_none, List.singleton_append, List.nil_append, if_true, if_false, or_true, true_or, or_false, false_or, and_false, false_and, Bool.false_eq_true] at e
            exact e
        · have c' : soB (wK k r 1 v) r it q = false := by simpa using c
          have eQ : whQ k r 1 it q v = false := by unfold whQ; rw [c']; simp
          rw [cnt, eQ, lstF_F eQ, bset_F (p := whQ k r 1 it q) eQ, Nat.or_zero] at e
          simp (disch := omega) only [w202_157, w202_160, w202_162, w202_163, w202_164, w202_167, w202_168, w202_170, w202_171, w202_174, w202_175, w202_176, w202_178, w202_180, w202_183, w202_185, w202_188, w202_190, w202_192, w202_195, w202_198, hm, ↓neg_vM, ↓neg_vB, ↓neg_vS, ↓neg_vF, ↓neg_vO, ↓neg_vA, ↓neg_vN, lit_nI, nI_leI, nI_ltI, nI_eq, jm_in_nI, nI_clamp, nI_add, n_mul, pk_sub, n_le_t, n_le_f, n_lt_t, n_lt_f, n_eq_t, n_eq_f, true_and, and_true, ne_eq, not_false_eq_true, not_true_eq_false, min_n, max_n, dif_n, n_rem, n_div, or_nI, shl_nI, Option.toList_some, Option.toList_none, List.singleton_append, List.nil_append, if_true, if_false, or_true, true_or, or_false, false_or, and_false, false_and, Bool.false_eq_true, c']
          exact e
  have hz := lst_none (p := whQ k r 1 it q) (n := 1) (fun i hi => by unfold whQ; rw [show i = 0 by omega]; rfl)
  have e := key 1 (by omega) (by omega) U0 (fun o _ _ _ => rfl)
  rw [hz.1, hz.2.1, hz.2.2] at e
  have e22 := hM 2 (by decide)
  simp (disch := omega) only [w202_56, w202_57, w202_59, w202_60, w202_62, w202_64, w202_66, w202_67, w202_70, w202_71, w202_74, w202_75, w202_76, w202_79, w202_81, w202_84, w202_85, w202_88, w202_89, w202_90, w202_92, w202_93, w202_94, w202_97, w202_98, w202_101, w202_102, hm, ↓neg_vM, ↓neg_vB, ↓neg_vS, ↓neg_vF, ↓neg_vO, ↓neg_vA, ↓neg_vN, lit_nI, nI_leI, nI_ltI, nI_eq, jm_in_nI, nI_clamp, nI_add, n_mul, pk_sub, n_le_t, n_le_f, n_lt_t, n_lt_f, n_eq_t, n_eq_f, true_and, and_true, ne_eq, not_false_eq_true, not_true_eq_false, min_n, max_n, dif_n, n_rem, n_div, or_nI, shl_nI, Option.toList_some, Option.toList_none, List.singleton_append, List.nil_append, if_true, if_false, or_true, true_or, or_false, false_or, and_false, false_and, Bool.false_eq_true, e22]
  exact e

theorem r_who2 {r row p q : Nat} {it : Nat → Int32} {U0 : jm_I2} (hM : RM 132 U0 k) (hV : KV k) (h3 : k 3 ≤ 999) (hr : r < k 0) (hrow : row < 8) (hpq : p + q ≤ 40) (hq : q ≤ 12) (e2 : ∀ x, x < q → U0 131 (40 * row + p + x) = it x) (hZ : ∀ U, (∀ o, o ≠ 134 → o ≠ 137 → o ≠ 138 → U o = U0 o) → Z (some (.int (nI (cnt (whQ k r 2 it q) (k 2 + 1))))) U) : WQ L (d + 6) 202 56 [.ref 128, .int (nI r), .int (nI 2), .int (nI row), .int (nI p), .int (nI q), .int (nI 0), .null, .null, .null, .null, .null] [] U0 Z := by
  have hm := mod_sh L
  have v0 := hV.1
  have v1 := hV.2.1
  have v2 := hV.2.2.1
  have key : ∀ v, v ≤ (k 2 + 1) → 0 ≤ v → ∀ U, (∀ o, o ≠ 134 → o ≠ 137 → o ≠ 138 → U o = U0 o) → WQ L (d + 6) 202 104 [.ref 128, .int (nI r), .int (nI 2), .int (nI row), .int (nI p), .int (nI q), .int (nI 0), .int (nI 0), .int (nI (cnt (whQ k r 2 it q) v)), .int (oN (lstF (whQ k r 2 it q) v)), .int (nI (k 2)), .int (nI v)] [] U Z := by
    apply down_ind
    · intro _ U uf
      rw [w202_104]
      simp (disch := omega) only [w202_106, w202_108, w202_201, w202_202, w202_203, w202_206, w202_208, w202_211, w202_212, w202_213, w202_216, w202_218, w202_221, w202_223, hm, ↓neg_vM, ↓neg_vB, ↓neg_vS, ↓neg_vF, ↓neg_vO, ↓neg_vA, ↓neg_vN, lit_nI, nI_leI, nI_ltI, nI_eq, jm_in_nI, nI_clamp, nI_add, n_mul, pk_sub, n_le_t, n_le_f, n_lt_t, n_lt_f, n_eq_t, n_eq_f, true_and, and_true, ne_eq, not_false_eq_true, not_true_eq_false, min_n, max_n, dif_n, n_rem, n_div, or_nI, shl_nI, Option.toList_some, Option.toList_none, List.singleton_append, List.nil_append, if_true, if_false, or_true, true_or, or_false, false_or, and_false, false_and, Bool.false_eq_true]
      exact hZ U uf
    · intro v hv ih hlo U uf
      have uM : RM 132 U k := RM_of hM (uf 132 (by decide) (by decide) (by decide))
      rw [w202_104]
      simp (disch := omega) only [w202_106, w202_108, w202_111, w202_112, w202_115, w202_116, w202_119, w202_120, w202_121, w202_124, w202_125, w202_128, w202_129, w202_130, w202_133, w202_134, w202_137, w202_138, w202_140, w202_143, w202_144, w202_145, w202_147, w202_148, w202_149, w202_151, w202_152, w202_154, hm, ↓neg_vM, ↓neg_vB, ↓neg_vS, ↓neg_vF, ↓neg_vO, ↓neg_vA, ↓neg_vN, lit_nI, nI_leI, nI_ltI, nI_eq, jm_in_nI, nI_clamp, nI_add, n_mul, pk_sub, n_le_t, n_le_f, n_lt_t, n_lt_f, n_eq_t, n_eq_f, true_and, and_true, ne_eq, not_false_eq_true, not_true_eq_false, min_n, max_n, dif_n, n_rem, n_div, or_nI, shl_nI, Option.toList_some, Option.toList_none, List.singleton_append, List.nil_append, if_true, if_false, or_true, true_or, or_false, false_or, and_false, false_and, Bool.false_eq_true, r_layThen uM, r_be isR134]
      refine r_isSo (k := wK k r 2 v) (it := it) (be_wK uM (by omega)) (KV_wK hV hr (fun _ => by omega) (fun _ => by omega) (fun _ => by omega)) (by rw [wK_low (by decide)]; exact h3) (by rw [wK_low (by decide)]; exact hr) hq (by omega) (fun x hx => ?_) (fun U2 uf2 => ?_)
      · rw [upd_ne (by decide), fillS_ne (by decide), uf 131 (by decide) (by decide) (by decide)]
        exact e2 x hx
      · have e := ih (by omega) U2 (fun o a b c => by rw [uf2 o a b c, upd_ne a, fillS_ne a, uf o a b c])
        have hc1 := cnt_le (whQ k r 2 it q) v
        by_cases c : soB (wK k r 2 v) r it q = true
        · have eQ : whQ k r 2 it q v = true := by rw [whQ_b (by decide)]; exact c
          rw [cnt, eQ] at e
          cases hl : lstF (whQ k r 2 it q) v with
          | none =>
            have h0 := (cnt_lst (p := whQ k r 2 it q) v).mpr hl
            rw [lstF_T eQ hl] at e
            simp (disch := omega) only [w202_157, w202_160, w202_162, w202_163, w202_164, w202_167, w202_168, w202_170, w202_171, w202_174, w202_175, w202_176, w202_178, w202_180, w202_183, w202_185, w202_188, w202_190, w202_192, w202_195, w202_198, hm, ↓neg_vM, ↓neg_vB, ↓neg_vS, ↓neg_vF, ↓neg_vO, ↓neg_vA, ↓neg_vN, lit_nI, nI_leI, nI_ltI, nI_eq, jm_in_nI, nI_clamp, nI_add, n_mul, pk_sub, n_le_t, n_le_f, n_lt_t, n_lt_f, n_eq_t, n_eq_f, true_and, and_true, ne_eq, not_false_eq_true, not_true_eq_false, min_n, max_n, dif_n, n_rem, n_div, or_nI, shl_nI, Option.toList_some, Option.toList_none, List.singleton_append, List.nil_append, if_true, if_false, or_true, true_or, or_false, false_or, and_false, false_and, Bool.false_eq_true, c, oN, h0, Nat.or_zero]
            simp (disch := omega) only [oN, h0, if_true, ↓neg_vM, ↓neg_vB, ↓neg_vS, ↓neg_vF, ↓neg_vO, ↓neg_vA, ↓neg_vN, lit_nI, nI_leI, nI_ltI, nI_eq, jm_in_nI, nI_clamp, nI_add, n_mul, pk_sub, n_le_t, n_le_f, n_lt_t, n_lt_f, n_eq_t, n_eq_f, true_and, and_true, ne_eq, not_false_eq_true, not_true_eq_false, min_n, max_n, dif_n, n_rem, n_div, or_nI, shl_nI, Option.toList_some, Option.toList_none, List.singleton_append, List.nil_append, if_true, if_false, or_true, true_or, or_false, false_or, and_false, false_and, Bool.false_eq_true] at e
            exact e
          | some s =>
            have h0 : ¬ cnt (whQ k r 2 it q) v = 0 := fun x => by rw [(cnt_lst v).mp x] at hl; cases hl
            rw [lstF_s hl] at e
            simp (disch := omega) only [w202_157, w202_160, w202_162, w202_163, w202_164, w202_167, w202_168, w202_170, w202_171, w202_174, w202_175, w202_176, w202_178, w202_180, w202_183, w202_185, w202_188, w202_190, w202_192, w202_195, w202_198, hm, ↓neg_vM, ↓neg_vB, ↓neg_vS, ↓neg_vF, ↓neg_vO, ↓neg_vA, ↓neg_vN, lit_nI, nI_leI, nI_ltI, nI_eq, jm_in_nI, nI_clamp, nI_add, n_mul, pk_sub, n_le_t, n_le_f, n_lt_t, n_lt_f, n_eq_t, n_eq_f, true_and, and_true, ne_eq, not_false_eq_true, not_true_eq_false, min_n, max_n, dif_n, n_rem, n_div, or_nI, shl_nI, Option.toList_some, Option.toList_none, List.singleton_append, List.nil_append, if_true, if_false, or_true, true_or, or_false, false_or, and_false, false_and, Bool.false_eq_true, c, oN, h0, Nat.or_zero]
            simp (disch := omega) only [oN, if_true, ↓neg_vM, ↓neg_vB, ↓neg_vS, ↓neg_vF, ↓neg_vO, ↓neg_vA, ↓neg_vN, lit_nI, nI_leI, nI_ltI, nI_eq, jm_in_nI, nI_clamp, nI_add, n_mul, pk_sub, n_le_t, n_le_f, n_lt_t, n_lt_f, n_eq_t, n_eq_f, true_and, and_true, ne_eq, not_false_eq_true, not_true_eq_false, min_n, max_n, dif_n, n_rem, n_div, or_nI, shl_nI, Option.toList_some, Option.toList_none, List.singleton_append, List.nil_append, if_true, if_false, or_true, true_or, or_false, false_or, and_false, false_and, Bool.false_eq_true] at e
            exact e
        · have c' : soB (wK k r 2 v) r it q = false := by simpa using c
          have eQ : whQ k r 2 it q v = false := by rw [whQ_b (by decide)]; exact c'
          rw [cnt, eQ, lstF_F eQ] at e
          simp (disch := omega) only [w202_157, w202_160, w202_162, w202_163, w202_164, w202_167, w202_168, w202_170, w202_171, w202_174, w202_175, w202_176, w202_178, w202_180, w202_183, w202_185, w202_188, w202_190, w202_192, w202_195, w202_198, hm, ↓neg_vM, ↓neg_vB, ↓neg_vS, ↓neg_vF, ↓neg_vO, ↓neg_vA, ↓neg_vN, lit_nI, nI_leI, nI_ltI, nI_eq, jm_in_nI, nI_clamp, nI_add, n_mul, pk_sub, n_le_t, n_le_f, n_lt_t, n_lt_f, n_eq_t, n_eq_f, true_and, and_true, ne_eq, not_false_eq_true, not_true_eq_false, min_n, max_n, dif_n, n_rem, n_div, or_nI, shl_nI, Option.toList_some, Option.toList_none, List.singleton_append, List.nil_append, if_true, if_false, or_true, true_or, or_false, false_or, and_false, false_and, Bool.false_eq_true, c']
          exact e
  have hz := lst_none (p := whQ k r 2 it q) (n := 0) (fun i hi => by omega)
  have e := key 0 (by omega) (by omega) U0 (fun o _ _ _ => rfl)
  rw [hz.1, hz.2.1] at e
  have e22 := hM 2 (by decide)
  simp (disch := omega) only [w202_56, w202_57, w202_59, w202_60, w202_62, w202_64, w202_66, w202_67, w202_70, w202_71, w202_74, w202_75, w202_76, w202_79, w202_81, w202_84, w202_85, w202_88, w202_89, w202_90, w202_92, w202_93, w202_94, w202_97, w202_98, w202_101, w202_102, hm, ↓neg_vM, ↓neg_vB, ↓neg_vS, ↓neg_vF, ↓neg_vO, ↓neg_vA, ↓neg_vN, lit_nI, nI_leI, nI_ltI, nI_eq, jm_in_nI, nI_clamp, nI_add, n_mul, pk_sub, n_le_t, n_le_f, n_lt_t, n_lt_f, n_eq_t, n_eq_f, true_and, and_true, ne_eq, not_false_eq_true, not_true_eq_false, min_n, max_n, dif_n, n_rem, n_div, or_nI, shl_nI, Option.toList_some, Option.toList_none, List.singleton_append, List.nil_append, if_true, if_false, or_true, true_or, or_false, false_or, and_false, false_and, Bool.false_eq_true, e22]
  exact e

theorem r_who3 {r row p q : Nat} {it : Nat → Int32} {U0 : jm_I2} (hM : RM 132 U0 k) (hV : KV k) (h3 : k 3 ≤ 999) (hr : r < k 0) (hrow : row < 8) (hpq : p + q ≤ 40) (hq : q ≤ 12) (e2 : ∀ x, x < q → U0 131 (40 * row + p + x) = it x) (hZ : ∀ U, (∀ o, o ≠ 134 → o ≠ 137 → o ≠ 138 → U o = U0 o) → Z (some (.int (oN (lstF (whQ k r 3 it q) (k 2 + 1))))) U) : WQ L (d + 6) 202 56 [.ref 128, .int (nI r), .int (nI 3), .int (nI row), .int (nI p), .int (nI q), .int (nI 0), .null, .null, .null, .null, .null] [] U0 Z := by
  have hm := mod_sh L
  have v0 := hV.1
  have v1 := hV.2.1
  have v2 := hV.2.2.1
  have key : ∀ v, v ≤ (k 2 + 1) → 0 ≤ v → ∀ U, (∀ o, o ≠ 134 → o ≠ 137 → o ≠ 138 → U o = U0 o) → WQ L (d + 6) 202 104 [.ref 128, .int (nI r), .int (nI 3), .int (nI row), .int (nI p), .int (nI q), .int (nI 0), .int (nI 0), .int (nI (cnt (whQ k r 3 it q) v)), .int (oN (lstF (whQ k r 3 it q) v)), .int (nI (k 2)), .int (nI v)] [] U Z := by
    apply down_ind
    · intro _ U uf
      rw [w202_104]
      simp (disch := omega) only [w202_106, w202_108, w202_201, w202_202, w202_203, w202_206, w202_208, w202_211, w202_212, w202_213, w202_216, w202_218, w202_221, w202_223, hm, ↓neg_vM, ↓neg_vB, ↓neg_vS, ↓neg_vF, ↓neg_vO, ↓neg_vA, ↓neg_vN, lit_nI, nI_leI, nI_ltI, nI_eq, jm_in_nI, nI_clamp, nI_add, n_mul, pk_sub, n_le_t, n_le_f, n_lt_t, n_lt_f, n_eq_t, n_eq_f, true_and, and_true, ne_eq, not_false_eq_true, not_true_eq_false, min_n, max_n, dif_n, n_rem, n_div, or_nI, shl_nI, Option.toList_some, Option.toList_none, List.singleton_append, List.nil_append, if_true, if_false, or_true, true_or, or_false, false_or, and_false, false_and, Bool.false_eq_true]
      exact hZ U uf
    · intro v hv ih hlo U uf
      have uM : RM 132 U k := RM_of hM (uf 132 (by decide) (by decide) (by decide))
      rw [w202_104]
      simp (disch := omega) only [w202_106, w202_108, w202_111, w202_112, w202_115, w202_116, w202_119, w202_120, w202_121, w202_124, w202_125, w202_128, w202_129, w202_130, w202_133, w202_134, w202_137, w202_138, w202_140, w202_143, w202_144, w202_145, w202_147, w202_148, w202_149, w202_151, w202_152, w202_154, hm, ↓neg_vM, ↓neg_vB, ↓neg_vS, ↓neg_vF, ↓neg_vO, ↓neg_vA, ↓neg_vN, lit_nI, nI_leI, nI_ltI, nI_eq, jm_in_nI, nI_clamp, nI_add, n_mul, pk_sub, n_le_t, n_le_f, n_lt_t, n_lt_f, n_eq_t, n_eq_f, true_and, and_true, ne_eq, not_false_eq_true, not_true_eq_false, min_n, max_n, dif_n, n_rem, n_div, or_nI, shl_nI, Option.toList_some, Option.toList_none, List.singleton_append, List.nil_append, if_true, if_false, or_true, true_or, or_false, false_or, and_false, false_and, Bool.false_eq_true, r_layThen uM, r_be isR134]
      refine r_isSo (k := wK k r 3 v) (it := it) (be_wK uM (by omega)) (KV_wK hV hr (fun _ => by omega) (fun _ => by omega) (fun _ => by omega)) (by rw [wK_low (by decide)]; exact h3) (by rw [wK_low (by decide)]; exact hr) hq (by omega) (fun x hx => ?_) (fun U2 uf2 => ?_)
      · rw [upd_ne (by decide), fillS_ne (by decide), uf 131 (by decide) (by decide) (by decide)]
        exact e2 x hx
      · have e := ih (by omega) U2 (fun o a b c => by rw [uf2 o a b c, upd_ne a, fillS_ne a, uf o a b c])
        have hc1 := cnt_le (whQ k r 3 it q) v
        by_cases c : soB (wK k r 3 v) r it q = true
        · have eQ : whQ k r 3 it q v = true := by rw [whQ_b (by decide)]; exact c
          rw [cnt, eQ] at e
          cases hl : lstF (whQ k r 3 it q) v with
          | none =>
            have h0 := (cnt_lst (p := whQ k r 3 it q) v).mpr hl
            rw [lstF_T eQ hl] at e
            simp (disch := omega) only [w202_157, w202_160, w202_162, w202_163, w202_164, w202_167, w202_168, w202_170, w202_171, w202_174, w202_175, w202_176, w202_178, w202_180, w202_183, w202_185, w202_188, w202_190, w202_192, w202_195, w202_198, hm, ↓neg_vM, ↓neg_vB, ↓neg_vS, ↓neg_vF, ↓neg_vO, ↓neg_vA, ↓neg_vN, lit_nI, nI_leI, nI_ltI, nI_eq, jm_in_nI, nI_clamp, nI_add, n_mul, pk_sub, n_le_t, n_le_f, n_lt_t, n_lt_f, n_eq_t, n_eq_f, true_and, and_true, ne_eq, not_false_eq_true, not_true_eq_false, min_n, max_n, dif_n, n_rem, n_div, or_nI, shl_nI, Option.toList_some, Option.toList_none, List.singleton_append, List.nil_append, if_true, if_false, or_true, true_or, or_false, false_or, and_false, false_and, Bool.false_eq_true, c, oN, h0, Nat.or_zero]
            simp (disch := omega) only [oN, h0, if_true, ↓neg_vM, ↓neg_vB, ↓neg_vS, ↓neg_vF, ↓neg_vO, ↓neg_vA, ↓neg_vN, lit_nI, nI_leI, nI_ltI, nI_eq, jm_in_nI, nI_clamp, nI_add, n_mul, pk_sub, n_le_t, n_le_f, n_lt_t, n_lt_f, n_eq_t, n_eq_f, true_and, and_true, ne_eq, not_false_eq_true, not_true_eq_false, min_n, max_n, dif_n, n_rem, n_div, or_nI, shl_nI, Option.toList_some, Option.toList_none, List.singleton_append, List.nil_append, if_true, if_false, or_true, true_or, or_false, false_or, and_false, false_and, Bool.false_eq_true] at e
            exact e
          | some s =>
            have h0 : ¬ cnt (whQ k r 3 it q) v = 0 := fun x => by rw [(cnt_lst v).mp x] at hl; cases hl
            rw [lstF_s hl] at e
            simp (disch := omega) only [w202_157, w202_160, w202_162, w202_163, w202_164, w202_167, w202_168, w202_170, w202_171, w202_174, w202_175, w202_176, w202_178, w202_180, w202_183, w202_185, w202_188, w202_190, w202_192, w202_195, w202_198, hm, ↓neg_vM, ↓neg_vB, ↓neg_vS, ↓neg_vF, ↓neg_vO, ↓neg_vA, ↓neg_vN, lit_nI, nI_leI, nI_ltI, nI_eq, jm_in_nI, nI_clamp, nI_add, n_mul, pk_sub, n_le_t, n_le_f, n_lt_t, n_lt_f, n_eq_t, n_eq_f, true_and, and_true, ne_eq, not_false_eq_true, not_true_eq_false, min_n, max_n, dif_n, n_rem, n_div, or_nI, shl_nI, Option.toList_some, Option.toList_none, List.singleton_append, List.nil_append, if_true, if_false, or_true, true_or, or_false, false_or, and_false, false_and, Bool.false_eq_true, c, oN, h0, Nat.or_zero]
            simp (disch := omega) only [oN, if_true, ↓neg_vM, ↓neg_vB, ↓neg_vS, ↓neg_vF, ↓neg_vO, ↓neg_vA, ↓neg_vN, lit_nI, nI_leI, nI_ltI, nI_eq, jm_in_nI, nI_clamp, nI_add, n_mul, pk_sub, n_le_t, n_le_f, n_lt_t, n_lt_f, n_eq_t, n_eq_f, true_and, and_true, ne_eq, not_false_eq_true, not_true_eq_false, min_n, max_n, dif_n, n_rem, n_div, or_nI, shl_nI, Option.toList_some, Option.toList_none, List.singleton_append, List.nil_append, if_true, if_false, or_true, true_or, or_false, false_or, and_false, false_and, Bool.false_eq_true] at e
            exact e
        · have c' : soB (wK k r 3 v) r it q = false := by simpa using c
          have eQ : whQ k r 3 it q v = false := by rw [whQ_b (by decide)]; exact c'
          rw [cnt, eQ, lstF_F eQ] at e
          simp (disch := omega) only [w202_157, w202_160, w202_162, w202_163, w202_164, w202_167, w202_168, w202_170, w202_171, w202_174, w202_175, w202_176, w202_178, w202_180, w202_183, w202_185, w202_188, w202_190, w202_192, w202_195, w202_198, hm, ↓neg_vM, ↓neg_vB, ↓neg_vS, ↓neg_vF, ↓neg_vO, ↓neg_vA, ↓neg_vN, lit_nI, nI_leI, nI_ltI, nI_eq, jm_in_nI, nI_clamp, nI_add, n_mul, pk_sub, n_le_t, n_le_f, n_lt_t, n_lt_f, n_eq_t, n_eq_f, true_and, and_true, ne_eq, not_false_eq_true, not_true_eq_false, min_n, max_n, dif_n, n_rem, n_div, or_nI, shl_nI, Option.toList_some, Option.toList_none, List.singleton_append, List.nil_append, if_true, if_false, or_true, true_or, or_false, false_or, and_false, false_and, Bool.false_eq_true, c']
          exact e
  have hz := lst_none (p := whQ k r 3 it q) (n := 0) (fun i hi => by omega)
  have e := key 0 (by omega) (by omega) U0 (fun o _ _ _ => rfl)
  rw [hz.1, hz.2.1] at e
  have e22 := hM 2 (by decide)
  simp (disch := omega) only [w202_56, w202_57, w202_59, w202_60, w202_62, w202_64, w202_66, w202_67, w202_70, w202_71, w202_74, w202_75, w202_76, w202_79, w202_81, w202_84, w202_85, w202_88, w202_89, w202_90, w202_92, w202_93, w202_94, w202_97, w202_98, w202_101, w202_102, hm, ↓neg_vM, ↓neg_vB, ↓neg_vS, ↓neg_vF, ↓neg_vO, ↓neg_vA, ↓neg_vN, lit_nI, nI_leI, nI_ltI, nI_eq, jm_in_nI, nI_clamp, nI_add, n_mul, pk_sub, n_le_t, n_le_f, n_lt_t, n_lt_f, n_eq_t, n_eq_f, true_and, and_true, ne_eq, not_false_eq_true, not_true_eq_false, min_n, max_n, dif_n, n_rem, n_div, or_nI, shl_nI, Option.toList_some, Option.toList_none, List.singleton_append, List.nil_append, if_true, if_false, or_true, true_or, or_false, false_or, and_false, false_and, Bool.false_eq_true, e22]
  exact e

theorem r_feltL {h r row p q : Nat} {it : Nat → Int32} {U0 : jm_I2} (hM : RM 132 U0 k) (hV : KV k) (h3 : k 3 ≤ 999) (hh : h < k 1) (hr : r < k 0) (hrow : row < 8) (hpq : p + q ≤ 40) (hq : q ≤ 12) (e2 : ∀ x, x < q → U0 131 (40 * row + p + x) = it x) (hZ : ∀ U, (∀ o, o ≠ 134 → o ≠ 137 → o ≠ 138 → U o = U0 o) → Z (some (.int (nI (bset (feQ k h r it q) 21)))) U) : WQ L (d + 6) 203 52 [.ref 128, .int (nI h), .int (nI r), .int (nI row), .int (nI p), .int (nI q), .int (nI 0), .null, .null] [] U0 Z := by
  have hm := mod_sh L
  have v0 := hV.1
  have v1 := hV.2.1
  have key : ∀ v, v ≤ 21 → ∀ U, (∀ o, o ≠ 134 → o ≠ 137 → o ≠ 138 → U o = U0 o) → WQ L (d + 6) 203 58 [.ref 128, .int (nI h), .int (nI r), .int (nI row), .int (nI p), .int (nI q), .int (nI 0), .int (nI (bset (feQ k h r it q) v)), .int (nI v)] [] U Z := by
    apply down_ind
    · intro U uf
      rw [w203_58]
      simp (disch := omega) only [w203_60, w203_62, w203_65, w203_66, w203_69, w203_70, w203_73, w203_74, w203_75, w203_76, w203_77, w203_78, w203_80, w203_81, w203_83, w203_84, w203_85, w203_87, w203_88, w203_89, w203_91, w203_92, w203_94, w203_97, w203_100, w203_101, w203_103, w203_104, w203_107, w203_108, w203_109, w203_111, w203_114, w203_117, w203_119, hm, ↓neg_vM, ↓neg_vB, ↓neg_vS, ↓neg_vF, ↓neg_vO, ↓neg_vA, ↓neg_vN, lit_nI, nI_leI, nI_ltI, nI_eq, jm_in_nI, nI_clamp, nI_add, n_mul, pk_sub, n_le_t, n_le_f, n_lt_t, n_lt_f, n_eq_t, n_eq_f, true_and, and_true, ne_eq, not_false_eq_true, not_true_eq_false, min_n, max_n, dif_n, n_rem, n_div, or_nI, shl_nI, Option.toList_some, Option.toList_none, List.singleton_append, List.nil_append, if_true, if_false, or_true, true_or, or_false, false_or, and_false, false_and, Bool.false_eq_true]
      exact hZ U uf
    · intro v hv ih U uf
      have uM : RM 132 U k := RM_of hM (uf 132 (by decide) (by decide) (by decide))
      have hVu : KV (kU k (4 + 2 * h + 0) v) := KV_U hV (by omega) (fun _ _ _ => by omega) (fun _ _ _ => by omega) (fun _ _ _ => by omega) (fun _ _ _ => by omega) (fun _ _ _ => by omega) (fun _ _ _ => by omega)
      rw [w203_58]
      simp (disch := omega) only [w203_60, w203_62, w203_65, w203_66, w203_69, w203_70, w203_73, w203_74, w203_75, w203_76, w203_77, w203_78, w203_80, w203_81, w203_83, w203_84, w203_85, w203_87, w203_88, w203_89, w203_91, w203_92, w203_94, w203_97, w203_100, w203_101, w203_103, w203_104, w203_107, w203_108, w203_109, w203_111, w203_114, w203_117, w203_119, hm, ↓neg_vM, ↓neg_vB, ↓neg_vS, ↓neg_vF, ↓neg_vO, ↓neg_vA, ↓neg_vN, lit_nI, nI_leI, nI_ltI, nI_eq, jm_in_nI, nI_clamp, nI_add, n_mul, pk_sub, n_le_t, n_le_f, n_lt_t, n_lt_f, n_eq_t, n_eq_f, true_and, and_true, ne_eq, not_false_eq_true, not_true_eq_false, min_n, max_n, dif_n, n_rem, n_div, or_nI, shl_nI, Option.toList_some, Option.toList_none, List.singleton_append, List.nil_append, if_true, if_false, or_true, true_or, or_false, false_or, and_false, false_and, Bool.false_eq_true, r_layThen uM]
      refine r_isSo (k := kU k (4 + 2 * h + 0) v) (it := it) (RM_upd RM_fill) hVu (by rw [kU_ne (by omega)]; exact h3) (by rw [kU_ne (by omega)]; exact hr) hq (by omega) (fun x hx => ?_) (fun U2 uf2 => ?_)
      · rw [upd_ne (by decide), fillS_ne (by decide), uf 131 (by decide) (by decide) (by decide)]
        exact e2 x hx
      · have e := ih U2 (fun o a b c => by rw [uf2 o a b c, upd_ne a, fillS_ne a, uf o a b c])
        by_cases c : soB (kU k (4 + 2 * h + 0) v) r it q = true
        · rw [bset_T (p := feQ k h r it q) c] at e
          simp (disch := omega) only [w203_60, w203_62, w203_65, w203_66, w203_69, w203_70, w203_73, w203_74, w203_75, w203_76, w203_77, w203_78, w203_80, w203_81, w203_83, w203_84, w203_85, w203_87, w203_88, w203_89, w203_91, w203_92, w203_94, w203_97, w203_100, w203_101, w203_103, w203_104, w203_107, w203_108, w203_109, w203_111, w203_114, w203_117, w203_119, hm, ↓neg_vM, ↓neg_vB, ↓neg_vS, ↓neg_vF, ↓neg_vO, ↓neg_vA, ↓neg_vN, lit_nI, nI_leI, nI_ltI, nI_eq, jm_in_nI, nI_clamp, nI_add, n_mul, pk_sub, n_le_t, n_le_f, n_lt_t, n_lt_f, n_eq_t, n_eq_f, true_and, and_true, ne_eq, not_false_eq_true, not_true_eq_false, min_n, max_n, dif_n, n_rem, n_div, or_nI, shl_nI, Option.toList_some, Option.toList_none, List.singleton_append, List.nil_append, if_true, if_false, or_true, true_or, or_false, false_or, and_false, false_and, Bool.false_eq_true, c]
          exact e
        · have c' : soB (kU k (4 + 2 * h + 0) v) r it q = false := by simpa using c
          rw [bset_F (p := feQ k h r it q) c'] at e
          simp (disch := omega) only [w203_60, w203_62, w203_65, w203_66, w203_69, w203_70, w203_73, w203_74, w203_75, w203_76, w203_77, w203_78, w203_80, w203_81, w203_83, w203_84, w203_85, w203_87, w203_88, w203_89, w203_91, w203_92, w203_94, w203_97, w203_100, w203_101, w203_103, w203_104, w203_107, w203_108, w203_109, w203_111, w203_114, w203_117, w203_119, hm, ↓neg_vM, ↓neg_vB, ↓neg_vS, ↓neg_vF, ↓neg_vO, ↓neg_vA, ↓neg_vN, lit_nI, nI_leI, nI_ltI, nI_eq, jm_in_nI, nI_clamp, nI_add, n_mul, pk_sub, n_le_t, n_le_f, n_lt_t, n_lt_f, n_eq_t, n_eq_f, true_and, and_true, ne_eq, not_false_eq_true, not_true_eq_false, min_n, max_n, dif_n, n_rem, n_div, or_nI, shl_nI, Option.toList_some, Option.toList_none, List.singleton_append, List.nil_append, if_true, if_false, or_true, true_or, or_false, false_or, and_false, false_and, Bool.false_eq_true, c']
          exact e
  simp (disch := omega) only [w203_52, w203_53, w203_55, w203_56, hm, ↓neg_vM, ↓neg_vB, ↓neg_vS, ↓neg_vF, ↓neg_vO, ↓neg_vA, ↓neg_vN, lit_nI, nI_leI, nI_ltI, nI_eq, jm_in_nI, nI_clamp, nI_add, n_mul, pk_sub, n_le_t, n_le_f, n_lt_t, n_lt_f, n_eq_t, n_eq_f, true_and, and_true, ne_eq, not_false_eq_true, not_true_eq_false, min_n, max_n, dif_n, n_rem, n_div, or_nI, shl_nI, Option.toList_some, Option.toList_none, List.singleton_append, List.nil_append, if_true, if_false, or_true, true_or, or_false, false_or, and_false, false_and, Bool.false_eq_true]
  exact key 0 (Nat.zero_le _) U0 (fun o _ _ _ => rfl)
end
