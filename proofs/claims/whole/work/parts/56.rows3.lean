section
variable {xs : Nat → Int32} {L d : Nat} {S : jm_I2} {k : kT} {Z : Option Value → jm_I2 → Prop}
/-- one item of a row set on both sides -/
theorem InvK_set (hI : InvK xs S k) {r i n l : Nat} {v : Int32} (hr : r < 8) (hi : i < 40) (b1 : n ≤ 40) (b2 : l ≤ 2) (e1 : S 12 r = nI n) (e2 : S 11 r = nI l) (e3 : S 129 r = nI l) (e4 : S 130 r = nI n) (e5 : ∀ i, i < 40 → S (3 + r) i = S 131 (40 * r + i)) : InvK xs (jm_upd (jm_upd (jm_upd (jm_upd (jm_upd S (3 + r) i v) 0 9 (nI 0)) 128 0 (nI 0)) 128 1 (nI 0)) 131 (40 * r + i) v) k := by
  refine InvK_R hI (fun r' hr' => ?_) ?_ (fun o g1 g2 g3 => ?_) ?_ (fun j hj => ?_)
  · by_cases er : r' = r
    · subst er
      refine Or.inr ⟨n, l, b1, b2, ?_, ?_, ?_, ?_, fun j hj => ?_⟩
      · simp (disch := omega) only [upd_at, row_at, n_eq_f, n_eq_t, and_true, true_and, and_false, false_and, and_self, if_true, if_false,  e1]
      · simp (disch := omega) only [upd_at, row_at, n_eq_f, n_eq_t, and_true, true_and, and_false, false_and, and_self, if_true, if_false,  e2]
      · simp (disch := omega) only [upd_at, row_at, n_eq_f, n_eq_t, and_true, true_and, and_false, false_and, and_self, if_true, if_false,  e3]
      · simp (disch := omega) only [upd_at, row_at, n_eq_f, n_eq_t, and_true, true_and, and_false, false_and, and_self, if_true, if_false,  e4]
      · by_cases ej : j = i
        · subst ej
          simp (disch := omega) only [upd_at, row_at, n_eq_f, n_eq_t, and_true, true_and, and_false, false_and, and_self, if_true, if_false,  ]
        · simp (disch := omega) only [upd_at, row_at, n_eq_f, n_eq_t, and_true, true_and, and_false, false_and, and_self, if_true, if_false,  ej, e5 j hj]
    · refine RW1_of (hI.2.1 r' hr') ?_ ?_ ?_ ?_ (fun j hj => ?_) (fun j hj => ?_)
      · simp (disch := omega) only [upd_at, row_at, n_eq_f, n_eq_t, and_true, true_and, and_false, false_and, and_self, if_true, if_false,  er]
      · simp (disch := omega) only [upd_at, row_at, n_eq_f, n_eq_t, and_true, true_and, and_false, false_and, and_self, if_true, if_false,  er]
      · simp (disch := omega) only [upd_at, row_at, n_eq_f, n_eq_t, and_true, true_and, and_false, false_and, and_self, if_true, if_false,  er]
      · simp (disch := omega) only [upd_at, row_at, n_eq_f, n_eq_t, and_true, true_and, and_false, false_and, and_self, if_true, if_false,  er]
      · simp (disch := omega) only [upd_at, row_at, n_eq_f, n_eq_t, and_true, true_and, and_false, false_and, and_self, if_true, if_false,  er]
      · simp (disch := omega) only [upd_at, row_at, n_eq_f, n_eq_t, and_true, true_and, and_false, false_and, and_self, if_true, if_false,  er]
  · unfold IU
    simp (disch := omega) only [upd_at, row_at, n_eq_f, n_eq_t, and_true, true_and, and_false, false_and, and_self, if_true, if_false,  ]
  · funext j
    simp (disch := omega) only [upd_at, row_at, n_eq_f, n_eq_t, and_true, true_and, and_false, false_and, and_self, if_true, if_false,  ]
  · simp (disch := omega) only [upd_at, row_at, n_eq_f, n_eq_t, and_true, true_and, and_false, false_and, and_self, if_true, if_false,  ]
  · simp (disch := omega) only [upd_at, row_at, n_eq_f, n_eq_t, and_true, true_and, and_false, false_and, and_self, if_true, if_false,  ]
theorem p_set {a i v : Int32} (hI : InvK xs S k) : CL L (d + 9) 79 [.ref 0, .int a, .int i, .int v] S (Zx xs L (d + 9) 133 [.ref 128, .int a, .int i, .int v]) := by
  have ht := top_sh L
  have hm := mod_sh L
  by_cases h1 : nI 0 ≤ a ∧ a ≤ nI 7
  · obtain ⟨r, -, hr, rfl⟩ := btw (by decide) h1 (by decide)
    clear h1
    have hw := row_sh L (show r < 8 by omega)
    rcases hI.2.1 r (by omega) with ⟨e1, e2⟩ | ⟨n, l, b1, b2, e1, e2, e3, e4, e5⟩
    · simp (disch := omega) only [cl79, w79_0, w79_1, w79_2, w79_5, w79_8, w79_10, w79_11, w79_12, w79_15, w79_16, w79_19, w79_22, w79_23, w79_24, w79_27, w79_28, w79_29, w79_32, w79_33, w79_34, w79_35, w79_38, w79_41, w79_42, w79_43, w79_46, w79_47, w79_48, w79_49, w79_52, w79_53, w79_54, w79_55, w79_58, w79_61, ht, hm, ↓neg_vM, ↓neg_vB, ↓neg_vS, ↓neg_vF, ↓neg_vO, ↓neg_vA, ↓neg_vN, lit_nI, nI_leI, nI_ltI, nI_eq, jm_in_nI, nI_clamp, nI_add, n_mul, pk_sub, n_le_t, n_le_f, n_lt_t, n_lt_f, n_eq_t, n_eq_f, true_and, and_true, ne_eq, not_false_eq_true, not_true_eq_false, min_n, max_n, dif_n, n_rem, n_div, or_nI, shl_nI, Option.toList_some, Option.toList_none, List.singleton_append, List.nil_append, if_true, if_false, or_true, true_or, or_false, false_or, and_false, false_and, Bool.false_eq_true, c_noRow, c_finding, c_isMissT (show r < 8 by omega) e1, Zx_some]
      simp (disch := omega) only [cl133, w133_0, w133_1, w133_2, w133_5, w133_6, w133_9, w133_12, w133_14, w133_15, w133_16, w133_17, w133_20, w133_21, w133_24, w133_25, w133_26, w133_29, w133_30, w133_31, w133_34, w133_35, w133_36, w133_37, w133_38, w133_39, w133_42, w133_43, w133_44, w133_45, w133_46, w133_47, w133_50, w133_53, w133_54, w133_55, w133_58, w133_59, w133_60, w133_63, w133_65, w133_66, w133_67, w133_68, w133_69, w133_70, w133_73, w133_74, w133_75, w133_78, w133_79, w133_80, w133_83, w133_84, w133_87, w133_88, w133_89, w133_90, w133_93, w133_94, w133_95, w133_98, w133_99, w133_100, w133_101, w133_104, w133_106, w133_107, w133_108, w133_109, w133_110, w133_111, ht, hm, ↓neg_vM, ↓neg_vB, ↓neg_vS, ↓neg_vF, ↓neg_vO, ↓neg_vA, ↓neg_vN, lit_nI, nI_leI, nI_ltI, nI_eq, jm_in_nI, nI_clamp, nI_add, n_mul, pk_sub, n_le_t, n_le_f, n_lt_t, n_lt_f, n_eq_t, n_eq_f, true_and, and_true, ne_eq, not_false_eq_true, not_true_eq_false, min_n, max_n, dif_n, n_rem, n_div, or_nI, shl_nI, Option.toList_some, Option.toList_none, List.singleton_append, List.nil_append, if_true, if_false, or_true, true_or, or_false, false_or, and_false, false_and, Bool.false_eq_true, r_isRow, r_finding, upd_ne, e2, le_vM, Zm_some, upd_twice]
      exact ⟨k, InvK_found hI rfl⟩
    · have q := isN_iff (v := i) (n := n) (by omega)
      by_cases hP : isN i n = true
      · obtain ⟨j, hj, rfl⟩ := isN_of (by omega) hP
        have eP : hasP (nI j) (nI 1) n = true := by
          unfold hasP
          rw [nI_toInt (by omega), nI_toInt (by decide)]
          simp
          omega
        have hl3 : l = 0 ∨ l = 1 ∨ l = 2 := by omega
        rcases hl3 with rfl | rfl | rfl <;> (
          simp (disch := omega) only [cl79, w79_0, w79_1, w79_2, w79_5, w79_8, w79_10, w79_11, w79_12, w79_15, w79_16, w79_19, w79_22, w79_23, w79_24, w79_27, w79_28, w79_29, w79_32, w79_33, w79_34, w79_35, w79_38, w79_41, w79_42, w79_43, w79_46, w79_47, w79_48, w79_49, w79_52, w79_53, w79_54, w79_55, w79_58, w79_61, cl74, w74_0, w74_1, w74_4, w74_5, w74_6, w74_9, w74_10, w74_11, w74_14, w74_15, w74_18, w74_19, w74_20, w74_21, w74_24, w74_25, w74_26, w74_29, w74_30, w74_32, w74_33, w74_36, w74_37, w74_38, w74_39, w74_41, w74_42, w74_44, ht, hm, hw, ↓neg_vM, ↓neg_vB, ↓neg_vS, ↓neg_vF, ↓neg_vO, ↓neg_vA, ↓neg_vN, lit_nI, nI_leI, nI_ltI, nI_eq, jm_in_nI, nI_clamp, nI_add, n_mul, pk_sub, n_le_t, n_le_f, n_lt_t, n_lt_f, n_eq_t, n_eq_f, true_and, and_true, ne_eq, not_false_eq_true, not_true_eq_false, min_n, max_n, dif_n, n_rem, n_div, or_nI, shl_nI, Option.toList_some, Option.toList_none, List.singleton_append, List.nil_append, if_true, if_false, or_true, true_or, or_false, false_or, and_false, false_and, Bool.false_eq_true, c_noRow, c_finding, c_unfound, c_isMissF (show r < 8 by omega) b1 e1, c_hasPlaces (show r < 8 by omega) b1 e1, eP, e2, Zx_some]
          simp (disch := omega) only [cl133, w133_0, w133_1, w133_2, w133_5, w133_6, w133_9, w133_12, w133_14, w133_15, w133_16, w133_17, w133_20, w133_21, w133_24, w133_25, w133_26, w133_29, w133_30, w133_31, w133_34, w133_35, w133_36, w133_37, w133_38, w133_39, w133_42, w133_43, w133_44, w133_45, w133_46, w133_47, w133_50, w133_53, w133_54, w133_55, w133_58, w133_59, w133_60, w133_63, w133_65, w133_66, w133_67, w133_68, w133_69, w133_70, w133_73, w133_74, w133_75, w133_78, w133_79, w133_80, w133_83, w133_84, w133_87, w133_88, w133_89, w133_90, w133_93, w133_94, w133_95, w133_98, w133_99, w133_100, w133_101, w133_104, w133_106, w133_107, w133_108, w133_109, w133_110, w133_111, ht, hm, ↓neg_vM, ↓neg_vB, ↓neg_vS, ↓neg_vF, ↓neg_vO, ↓neg_vA, ↓neg_vN, lit_nI, nI_leI, nI_ltI, nI_eq, jm_in_nI, nI_clamp, nI_add, n_mul, pk_sub, n_le_t, n_le_f, n_lt_t, n_lt_f, n_eq_t, n_eq_f, true_and, and_true, ne_eq, not_false_eq_true, not_true_eq_false, min_n, max_n, dif_n, n_rem, n_div, or_nI, shl_nI, Option.toList_some, Option.toList_none, List.singleton_append, List.nil_append, if_true, if_false, or_true, true_or, or_false, false_or, and_false, false_and, Bool.false_eq_true, r_isRow, r_finding, upd_ne, e3, e4, lit_lN, nI_l, r_in, lN_le, Zm_some]
          refine ⟨?_, k, InvK_set hI (by omega) (by omega) b1 (by omega) e1 e2 e3 e4 e5⟩
          simp (disch := omega) only [upd_at, row_at, n_eq_f, n_eq_t, and_true, true_and, and_false, false_and, and_self, if_true, if_false,  ])
      · have eP : hasP i (nI 1) n = false := by
          have hP' : isN i n = false := by simpa using hP
          unfold isN at hP'
          unfold hasP
          rw [nI_toInt (show 1 < 2 ^ 31 by decide)]
          simp at hP' ⊢
          omega
        simp (disch := omega) only [cl79, w79_0, w79_1, w79_2, w79_5, w79_8, w79_10, w79_11, w79_12, w79_15, w79_16, w79_19, w79_22, w79_23, w79_24, w79_27, w79_28, w79_29, w79_32, w79_33, w79_34, w79_35, w79_38, w79_41, w79_42, w79_43, w79_46, w79_47, w79_48, w79_49, w79_52, w79_53, w79_54, w79_55, w79_58, w79_61, ht, hm, hw, ↓neg_vM, ↓neg_vB, ↓neg_vS, ↓neg_vF, ↓neg_vO, ↓neg_vA, ↓neg_vN, lit_nI, nI_leI, nI_ltI, nI_eq, jm_in_nI, nI_clamp, nI_add, n_mul, pk_sub, n_le_t, n_le_f, n_lt_t, n_lt_f, n_eq_t, n_eq_f, true_and, and_true, ne_eq, not_false_eq_true, not_true_eq_false, min_n, max_n, dif_n, n_rem, n_div, or_nI, shl_nI, Option.toList_some, Option.toList_none, List.singleton_append, List.nil_append, if_true, if_false, or_true, true_or, or_false, false_or, and_false, false_and, Bool.false_eq_true, c_noRow, c_finding, c_unfound, c_isMissF (show r < 8 by omega) b1 e1, c_hasPlaces (show r < 8 by omega) b1 e1, eP, Zx_some]
        simp (disch := omega) only [cl133, w133_0, w133_1, w133_2, w133_5, w133_6, w133_9, w133_12, w133_14, w133_15, w133_16, w133_17, w133_20, w133_21, w133_24, w133_25, w133_26, w133_29, w133_30, w133_31, w133_34, w133_35, w133_36, w133_37, w133_38, w133_39, w133_42, w133_43, w133_44, w133_45, w133_46, w133_47, w133_50, w133_53, w133_54, w133_55, w133_58, w133_59, w133_60, w133_63, w133_65, w133_66, w133_67, w133_68, w133_69, w133_70, w133_73, w133_74, w133_75, w133_78, w133_79, w133_80, w133_83, w133_84, w133_87, w133_88, w133_89, w133_90, w133_93, w133_94, w133_95, w133_98, w133_99, w133_100, w133_101, w133_104, w133_106, w133_107, w133_108, w133_109, w133_110, w133_111, ht, hm, lit_nI, nI_leI, nI_ltI, nI_eq, jm_in_nI, nI_clamp, n_le_t, n_le_f, n_lt_t, n_lt_f, n_eq_t, n_eq_f, true_and, if_true, if_false, Option.toList_some, List.singleton_append, r_isRow, r_finding, upd_ne, e3, e4, lit_lN, r_in, lx_le, xx_le, q, hP, Bool.false_eq_true, Zm_some, upd_twice]
        exact ⟨k, InvK_found hI rfl⟩
  · simp (disch := omega) only [cl79, w79_0, w79_1, w79_2, w79_5, w79_8, w79_10, w79_11, w79_12, w79_15, w79_16, w79_19, w79_22, w79_23, w79_24, w79_27, w79_28, w79_29, w79_32, w79_33, w79_34, w79_35, w79_38, w79_41, w79_42, w79_43, w79_46, w79_47, w79_48, w79_49, w79_52, w79_53, w79_54, w79_55, w79_58, w79_61, ht, hm, ↓neg_vM, ↓neg_vB, ↓neg_vS, ↓neg_vF, ↓neg_vO, ↓neg_vA, ↓neg_vN, lit_nI, nI_leI, nI_ltI, nI_eq, jm_in_nI, nI_clamp, nI_add, n_mul, pk_sub, n_le_t, n_le_f, n_lt_t, n_lt_f, n_eq_t, n_eq_f, true_and, and_true, ne_eq, not_false_eq_true, not_true_eq_false, min_n, max_n, dif_n, n_rem, n_div, or_nI, shl_nI, Option.toList_some, Option.toList_none, List.singleton_append, List.nil_append, if_true, if_false, or_true, true_or, or_false, false_or, and_false, false_and, Bool.false_eq_true, c_noRow, Zx_some, h1]
    simp (disch := omega) only [cl133, w133_0, w133_1, w133_2, w133_5, w133_6, w133_9, w133_12, w133_14, w133_15, w133_16, w133_17, w133_20, w133_21, w133_24, w133_25, w133_26, w133_29, w133_30, w133_31, w133_34, w133_35, w133_36, w133_37, w133_38, w133_39, w133_42, w133_43, w133_44, w133_45, w133_46, w133_47, w133_50, w133_53, w133_54, w133_55, w133_58, w133_59, w133_60, w133_63, w133_65, w133_66, w133_67, w133_68, w133_69, w133_70, w133_73, w133_74, w133_75, w133_78, w133_79, w133_80, w133_83, w133_84, w133_87, w133_88, w133_89, w133_90, w133_93, w133_94, w133_95, w133_98, w133_99, w133_100, w133_101, w133_104, w133_106, w133_107, w133_108, w133_109, w133_110, w133_111, ht, hm, ↓neg_vM, ↓neg_vB, ↓neg_vS, ↓neg_vF, ↓neg_vO, ↓neg_vA, ↓neg_vN, lit_nI, nI_leI, nI_ltI, nI_eq, jm_in_nI, nI_clamp, nI_add, n_mul, pk_sub, n_le_t, n_le_f, n_lt_t, n_lt_f, n_eq_t, n_eq_f, true_and, and_true, ne_eq, not_false_eq_true, not_true_eq_false, min_n, max_n, dif_n, n_rem, n_div, or_nI, shl_nI, Option.toList_some, Option.toList_none, List.singleton_append, List.nil_append, if_true, if_false, or_true, true_or, or_false, false_or, and_false, false_and, Bool.false_eq_true, r_isRow, h1, Zm_some]
    exact ⟨k, InvK_same hI Same_thrown⟩
theorem cp_up {a i b j n : Nat} {T : jm_I2} {u : Value} (ha : a < 8) (hb : b < 8) (hi : i + n ≤ 40) (hj : j + n ≤ 40) (hij : j ≤ i) : ∀ t, t ≤ n → ∀ u, (WQ L d 134 143 [.ref 128, .int (nI a), .int (nI i), .int (nI b), .int (nI j), .int (nI n), .int (nI 1), .int (nI t), u] [] (jm_row T 131 (cpF (T 131) (40 * a + i) (40 * b + j) (40 * b + j) (40 * b + j + t))) Z ↔ Z (some (.int (nI n))) (jm_row T 131 (cpF (T 131) (40 * a + i) (40 * b + j) (40 * b + j) (40 * b + j + n)))) := by
  have hm := mod_sh L
  apply down_ind
  · intro u
    rw [w134_143]
    simp (disch := omega) only [w134_145, w134_147, w134_150, w134_152, w134_155, w134_157, w134_160, w134_162, w134_163, w134_164, w134_166, w134_167, w134_169, w134_170, w134_173, w134_175, w134_176, w134_177, w134_179, w134_180, w134_182, w134_183, w134_184, w134_187, w134_189, w134_190, w134_191, w134_192, w134_193, w134_195, w134_196, w134_197, w134_198, w134_201, w134_204, w134_206, hm, ↓neg_vM, ↓neg_vB, ↓neg_vS, ↓neg_vF, ↓neg_vO, ↓neg_vA, ↓neg_vN, lit_nI, nI_leI, nI_ltI, nI_eq, jm_in_nI, nI_clamp, nI_add, n_mul, pk_sub, n_le_t, n_le_f, n_lt_t, n_lt_f, n_eq_t, n_eq_f, true_and, and_true, ne_eq, not_false_eq_true, not_true_eq_false, min_n, max_n, dif_n, n_rem, n_div, or_nI, shl_nI, Option.toList_some, Option.toList_none, List.singleton_append, List.nil_append, if_true, if_false, or_true, true_or, or_false, false_or, and_false, false_and, Bool.false_eq_true]
  · intro t ht ih u
    rw [← ih (.int (nI t)), w134_143]
    have e1 : jm_row T 131 (cpF (T 131) (40 * a + i) (40 * b + j) (40 * b + j) (40 * b + j + t)) 131 (40 * a + i + t) = T 131 (40 * a + i + t) := by
      rw [row_at, if_pos rfl]
      unfold cpF
      rw [if_neg]
      by_cases e : a = b
      · subst e; omega
      · omega
    simp (disch := omega) only [w134_145, w134_147, w134_150, w134_152, w134_155, w134_157, w134_160, w134_162, w134_163, w134_164, w134_166, w134_167, w134_169, w134_170, w134_173, w134_175, w134_176, w134_177, w134_179, w134_180, w134_182, w134_183, w134_184, w134_187, w134_189, w134_190, w134_191, w134_192, w134_193, w134_195, w134_196, w134_197, w134_198, w134_201, w134_204, w134_206, hm, ↓neg_vM, ↓neg_vB, ↓neg_vS, ↓neg_vF, ↓neg_vO, ↓neg_vA, ↓neg_vN, lit_nI, nI_leI, nI_ltI, nI_eq, jm_in_nI, nI_clamp, nI_add, n_mul, pk_sub, n_le_t, n_le_f, n_lt_t, n_lt_f, n_eq_t, n_eq_f, true_and, and_true, ne_eq, not_false_eq_true, not_true_eq_false, min_n, max_n, dif_n, n_rem, n_div, or_nI, shl_nI, Option.toList_some, Option.toList_none, List.singleton_append, List.nil_append, if_true, if_false, or_true, true_or, or_false, false_or, and_false, false_and, Bool.false_eq_true, e1]
    have e : jm_upd (jm_row T 131 (cpF (T 131) (40 * a + i) (40 * b + j) (40 * b + j) (40 * b + j + t))) 131 (40 * b + j + t) (T 131 (40 * a + i + t)) = jm_row T 131 (cpF (T 131) (40 * a + i) (40 * b + j) (40 * b + j) (40 * b + j + (t + 1))) := by
      funext o x
      rw [upd_at, row_at, row_at]
      by_cases ho : o = 131
      · subst ho
        unfold cpF
        by_cases hx : x = 40 * b + j + t
        · rw [if_pos ⟨rfl, hx⟩, if_pos rfl, if_pos (by omega)]
          congr 1
          omega
        · rw [if_neg (fun q => hx q.2), if_pos rfl, if_pos rfl]
          by_cases h2 : 40 * b + j ≤ x ∧ x < 40 * b + j + t
          · rw [if_pos h2, if_pos (by omega)]
          · rw [if_neg h2, if_neg (by omega)]
      · rw [if_neg (fun q => ho q.1), if_neg ho, if_neg ho]
    rw [e]
theorem cp_dn {a i b j n : Nat} {T : jm_I2} (ha : a < 8) (hb : b < 8) (hi : i + n ≤ 40) (hj : j + n ≤ 40) (hij : i < j) : ∀ t, t ≤ n → ∀ u, (WQ L d 134 143 [.ref 128, .int (nI a), .int (nI i), .int (nI b), .int (nI j), .int (nI n), .int (nI 0), .int (nI t), u] [] (jm_row T 131 (cpF (T 131) (40 * a + i) (40 * b + j) (40 * b + j + n - t) (40 * b + j + n))) Z ↔ Z (some (.int (nI n))) (jm_row T 131 (cpF (T 131) (40 * a + i) (40 * b + j) (40 * b + j) (40 * b + j + n)))) := by
  have hm := mod_sh L
  apply down_ind
  · intro u
    rw [w134_143, Nat.add_sub_cancel]
    simp (disch := omega) only [w134_145, w134_147, w134_150, w134_152, w134_155, w134_157, w134_160, w134_162, w134_163, w134_164, w134_166, w134_167, w134_169, w134_170, w134_173, w134_175, w134_176, w134_177, w134_179, w134_180, w134_182, w134_183, w134_184, w134_187, w134_189, w134_190, w134_191, w134_192, w134_193, w134_195, w134_196, w134_197, w134_198, w134_201, w134_204, w134_206, hm, ↓neg_vM, ↓neg_vB, ↓neg_vS, ↓neg_vF, ↓neg_vO, ↓neg_vA, ↓neg_vN, lit_nI, nI_leI, nI_ltI, nI_eq, jm_in_nI, nI_clamp, nI_add, n_mul, pk_sub, n_le_t, n_le_f, n_lt_t, n_lt_f, n_eq_t, n_eq_f, true_and, and_true, ne_eq, not_false_eq_true, not_true_eq_false, min_n, max_n, dif_n, n_rem, n_div, or_nI, shl_nI, Option.toList_some, Option.toList_none, List.singleton_append, List.nil_append, if_true, if_false, or_true, true_or, or_false, false_or, and_false, false_and, Bool.false_eq_true]
  · intro t ht ih u
    rw [← ih (.int (nI (n - 1 - t))), w134_143]
    have e1 : jm_row T 131 (cpF (T 131) (40 * a + i) (40 * b + j) (40 * b + j + n - t) (40 * b + j + n)) 131 (40 * a + i + (n - 1 - t)) = T 131 (40 * a + i + (n - 1 - t)) := by
      rw [row_at, if_pos rfl]
      unfold cpF
      rw [if_neg]
      by_cases e : a = b
      · subst e; omega
      · omega
    simp (disch := omega) only [w134_145, w134_147, w134_150, w134_152, w134_155, w134_157, w134_160, w134_162, w134_163, w134_164, w134_166, w134_167, w134_169, w134_170, w134_173, w134_175, w134_176, w134_177, w134_179, w134_180, w134_182, w134_183, w134_184, w134_187, w134_189, w134_190, w134_191, w134_192, w134_193, w134_195, w134_196, w134_197, w134_198, w134_201, w134_204, w134_206, hm, ↓neg_vM, ↓neg_vB, ↓neg_vS, ↓neg_vF, ↓neg_vO, ↓neg_vA, ↓neg_vN, lit_nI, nI_leI, nI_ltI, nI_eq, jm_in_nI, nI_clamp, nI_add, n_mul, pk_sub, n_le_t, n_le_f, n_lt_t, n_lt_f, n_eq_t, n_eq_f, true_and, and_true, ne_eq, not_false_eq_true, not_true_eq_false, min_n, max_n, dif_n, n_rem, n_div, or_nI, shl_nI, Option.toList_some, Option.toList_none, List.singleton_append, List.nil_append, if_true, if_false, or_true, true_or, or_false, false_or, and_false, false_and, Bool.false_eq_true, e1]
    have e : jm_upd (jm_row T 131 (cpF (T 131) (40 * a + i) (40 * b + j) (40 * b + j + n - t) (40 * b + j + n))) 131 (40 * b + j + (n - 1 - t)) (T 131 (40 * a + i + (n - 1 - t))) = jm_row T 131 (cpF (T 131) (40 * a + i) (40 * b + j) (40 * b + j + n - (t + 1)) (40 * b + j + n)) := by
      funext o x
      rw [upd_at, row_at, row_at]
      by_cases ho : o = 131
      · subst ho
        unfold cpF
        by_cases hx : x = 40 * b + j + (n - 1 - t)
        · rw [if_pos ⟨rfl, hx⟩, if_pos rfl, if_pos (by omega)]
          congr 1
          omega
        · rw [if_neg (fun q => hx q.2), if_pos rfl, if_pos rfl]
          by_cases h2 : 40 * b + j + n - t ≤ x ∧ x < 40 * b + j + n
          · rw [if_pos h2, if_pos (by omega)]
          · rw [if_neg h2, if_neg (by omega)]
      · rw [if_neg (fun q => ho q.1), if_neg ho, if_neg ho]
    rw [e]
theorem cp_0 {T : jm_I2} {s e l : Nat} : jm_row T 131 (cpF (T 131) s e l l) = T := by
  funext o x
  rw [row_at]
  by_cases ho : o = 131
  · unfold cpF
    rw [if_pos ho, if_neg (by omega), ho]
  · rw [if_neg ho]
theorem InvK_copy (hI : InvK xs S k) {a b i j m na nb la lb : Nat} (ha : a < 8) (hb : b < 8) (hi : i + m ≤ na) (hj : j + m ≤ nb) (a1 : na ≤ 40) (b1 : nb ≤ 40) (b2 : lb ≤ 2) (e1 : S 12 b = nI nb) (e2 : S 11 b = nI lb) (e3 : S 129 b = nI lb) (e4 : S 130 b = nI nb) (e5 : ∀ i, i < 40 → S (3 + b) i = S 131 (40 * b + i)) (a5 : ∀ i, i < 40 → S (3 + a) i = S 131 (40 * a + i)) : InvK xs (jm_row (jm_upd (jm_upd (jm_upd (jm_row S (3 + b) (va_cpy (S (3 + a)) (S (3 + b)) i j m)) 0 9 (nI 0)) 128 0 (nI 0)) 128 1 (nI 0)) 131 (cpF (S 131) (40 * a + i) (40 * b + j) (40 * b + j) (40 * b + j + m))) k := by
  refine InvK_R hI (fun r' hr' => ?_) ?_ (fun o g1 g2 g3 => ?_) ?_ (fun j hj => ?_)
  · by_cases er : r' = b
    · subst er
      refine Or.inr ⟨nb, lb, b1, b2, ?_, ?_, ?_, ?_, fun x hx => ?_⟩
      · simp (disch := omega) only [upd_at, row_at, n_eq_f, n_eq_t, and_true, true_and, and_false, false_and, and_self, if_true, if_false,  e1]
      · simp (disch := omega) only [upd_at, row_at, n_eq_f, n_eq_t, and_true, true_and, and_false, false_and, and_self, if_true, if_false,  e2]
      · simp (disch := omega) only [upd_at, row_at, n_eq_f, n_eq_t, and_true, true_and, and_false, false_and, and_self, if_true, if_false,  e3]
      · simp (disch := omega) only [upd_at, row_at, n_eq_f, n_eq_t, and_true, true_and, and_false, false_and, and_self, if_true, if_false,  e4]
      · simp (disch := omega) only [upd_at, row_at, n_eq_f, n_eq_t, and_true, true_and, and_false, false_and, and_self, if_true, if_false,  ]
        unfold cpF
        by_cases hx2 : j ≤ x ∧ x < j + m
        · rw [pk_cpy_in hx2.1 hx2.2, if_pos (by omega), a5 _ (by omega)]
          congr 1
          omega
        · rw [pk_cpy_out (by omega), if_neg (by omega), e5 _ hx]
    · refine RW1_of (hI.2.1 r' hr') ?_ ?_ ?_ ?_ (fun x hx => ?_) (fun x hx => ?_)
      · simp (disch := omega) only [upd_at, row_at, n_eq_f, n_eq_t, and_true, true_and, and_false, false_and, and_self, if_true, if_false,  er]
      · simp (disch := omega) only [upd_at, row_at, n_eq_f, n_eq_t, and_true, true_and, and_false, false_and, and_self, if_true, if_false,  er]
      · simp (disch := omega) only [upd_at, row_at, n_eq_f, n_eq_t, and_true, true_and, and_false, false_and, and_self, if_true, if_false,  er]
      · simp (disch := omega) only [upd_at, row_at, n_eq_f, n_eq_t, and_true, true_and, and_false, false_and, and_self, if_true, if_false,  er]
      · simp (disch := omega) only [upd_at, row_at, n_eq_f, n_eq_t, and_true, true_and, and_false, false_and, and_self, if_true, if_false,  er]
      · simp (disch := omega) only [upd_at, row_at, n_eq_f, n_eq_t, and_true, true_and, and_false, false_and, and_self, if_true, if_false,  er]
        unfold cpF
        rw [if_neg (by omega)]
  · unfold IU
    simp (disch := omega) only [upd_at, row_at, n_eq_f, n_eq_t, and_true, true_and, and_false, false_and, and_self, if_true, if_false,  ]
  · funext j
    simp (disch := omega) only [upd_at, row_at, n_eq_f, n_eq_t, and_true, true_and, and_false, false_and, and_self, if_true, if_false,  ]
  · simp (disch := omega) only [upd_at, row_at, n_eq_f, n_eq_t, and_true, true_and, and_false, false_and, and_self, if_true, if_false,  ]
  · simp (disch := omega) only [upd_at, row_at, n_eq_f, n_eq_t, and_true, true_and, and_false, false_and, and_self, if_true, if_false,  ]
end
