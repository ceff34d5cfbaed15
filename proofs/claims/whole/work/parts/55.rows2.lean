theorem InvK_R {xs : Nat → Int32} {S U : jm_I2} {k : kT} (hI : InvK xs S k) (hR : IR U) (hU : IU U) (f : ∀ o, o ≠ 0 → ¬ (3 ≤ o ∧ o ≤ 12) → ¬ (128 ≤ o ∧ o ≤ 131) → U o = S o) (f0 : U 0 8 = S 0 8) (f1 : ∀ i, 2 ≤ i → U 128 i = S 128 i) : InvK xs U k := by
  obtain ⟨h1, h2, h3, h4, h5, h6, h7, h8, h9⟩ := hI
  have g : ∀ o, 13 ≤ o → ¬ (128 ≤ o ∧ o ≤ 131) → U o = S o := fun o a b => f o (by omega) (by omega) b
  exact ⟨IS_of h1 (fun o ho => g o (by omega) (by omega)), hR, IT_of h3 (by rw [g 13 (by omega) (by omega)]) (f1 _ (by decide)) (g _ (by omega) (by omega)) (g _ (by omega) (by omega)), IC_of h4 (fun o a b => g o (by omega) (by omega)) (g _ (by omega) (by omega)), IA_of h5 (by rw [g 56 (by omega) (by omega)]) (by rw [g 56 (by omega) (by omega)]) (f1 _ (by decide)) (fun o a b => g o (by omega) (by omega)) (g _ (by omega) (by omega)), II_of h6 (fun o a b => g o (by omega) (by omega)) (g _ (by omega) (by omega)) (g _ (by omega) (by omega)), IQ_of h7 (by rw [g 126 (by omega) (by omega)]) (f1 _ (by decide)) (g _ (by omega) (by omega)) (g _ (by omega) (by omega)), IF_of h8 f0 (f1 _ (by decide)), hU⟩
theorem RW1_of {S T : jm_I2} {r : Nat} (h : RW1 S r) (a1 : T 12 r = S 12 r) (a2 : T 11 r = S 11 r) (a3 : T 129 r = S 129 r) (a4 : T 130 r = S 130 r) (a5 : ∀ i, i < 40 → T (3 + r) i = S (3 + r) i) (a6 : ∀ i, i < 40 → T 131 (40 * r + i) = S 131 (40 * r + i)) : RW1 T r := by
  rcases h with ⟨h1, h2⟩ | ⟨n, l, h1, h2, h3, h4, h5, h6, h7⟩
  · exact Or.inl ⟨a1.trans h1, a3.trans h2⟩
  · exact Or.inr ⟨n, l, h1, h2, a1.trans h3, a2.trans h4, a3.trans h5, a4.trans h6, fun i hi => by rw [a5 i hi, a6 i hi, h7 i hi]⟩
/-- part of a row copied -/
def cpF (g : Nat → Int32) (src dst lo hi : Nat) (x : Nat) : Int32 := if lo ≤ x ∧ x < hi then g (src + (x - dst)) else g x
section
variable {xs : Nat → Int32} {L d : Nat} {S : jm_I2} {k : kT} {Z : Option Value → jm_I2 → Prop}
/-- only finding and thrown -/
theorem InvK_found (hI : InvK xs S k) {v w : Int32} (e : v = w) : InvK xs (jm_upd (jm_upd (jm_upd S 0 9 v) 128 0 (nI 0)) 128 1 w) k := by
  refine InvK_R hI (IR_of hI.2.1 (fun o ho => ?_)) ?_ (fun o h1 h2 h3 => ?_) ?_ (fun i hi => ?_)
  · rw [upd_ne (by omega), upd_ne (by omega), upd_ne (by omega)]
  · unfold IU
    simp (disch := omega) only [upd_at, row_at, n_eq_f, n_eq_t, and_true, true_and, and_false, false_and, and_self, if_true, if_false,  e]
  · rw [upd_ne (by omega), upd_ne (by omega), upd_ne (by omega)]
  · simp (disch := omega) only [upd_at, row_at, n_eq_f, n_eq_t, and_true, true_and, and_false, false_and, and_self, if_true, if_false,  ]
  · simp (disch := omega) only [upd_at, row_at, n_eq_f, n_eq_t, and_true, true_and, and_false, false_and, and_self, if_true, if_false,  ]
theorem upd_twice {S : jm_I2} {a i : Nat} {v w : Int32} : jm_upd (jm_upd S a i v) a i w = jm_upd S a i w := by
  funext o j
  rw [upd_at, upd_at, upd_at]
  by_cases h : o = a ∧ j = i
  · rw [if_pos h, if_pos h]
  · rw [if_neg h, if_neg h, if_neg h]
theorem c_make {r l n : Nat} (hr : r < 8) : CL L (d + 1) 73 [.ref 1, .int (nI r), .int (nI l), .int (nI n)] S Z ↔ Z none (jm_row (jm_upd (jm_upd S 11 r (nI l)) 12 r (nI n)) (3 + r) (fun i => if i < 40 then nI 0 else S (3 + r) i)) := by
  have ht := top_sh L
  have hw := row_sh L hr
  simp (disch := omega) only [cl73, w73_0, w73_1, w73_4, w73_5, w73_6, w73_7, w73_8, w73_11, w73_12, w73_13, w73_14, w73_15, w73_18, w73_19, w73_20, w73_21, w73_24, ht, hw, ↓neg_vM, ↓neg_vB, ↓neg_vS, ↓neg_vF, ↓neg_vO, ↓neg_vA, ↓neg_vN, lit_nI, nI_leI, nI_ltI, nI_eq, jm_in_nI, nI_clamp, nI_add, n_mul, pk_sub, n_le_t, n_le_f, n_lt_t, n_lt_f, n_eq_t, n_eq_f, true_and, and_true, ne_eq, not_false_eq_true, not_true_eq_false, min_n, max_n, dif_n, n_rem, n_div, or_nI, shl_nI, Option.toList_some, Option.toList_none, List.singleton_append, List.nil_append, if_true, if_false, or_true, true_or, or_false, false_or, and_false, false_and, Bool.false_eq_true, c_fill (n := 40) (a := 3 + r) (by decide) hw.2.2.2.1 hw.2.2.2.2.1 hw.2.2.2.2.2]
  have e : ∀ i, jm_upd (jm_upd S 11 r (nI l)) 12 r (nI n) (3 + r) i = S (3 + r) i := fun i => by
    simp (disch := omega) only [upd_at, row_at, n_eq_f, n_eq_t, and_true, true_and, and_false, false_and, and_self, if_true, if_false,  ]
  simp only [e]
theorem r_rowloop {r n : Nat} {l0 l1 : Value} {T : jm_I2} (hr : r < 8) : ∀ i, i ≤ 40 → (WQ L d 132 65 [.ref 128, .int (nI r), l0, .int (nI n), .int (nI i)] [] (jm_row T 131 (fun x => if 40 * r ≤ x ∧ x < 40 * r + i then nI 0 else T 131 x)) Z ↔ Z (some (.int (nI n))) (jm_row T 131 (fun x => if 40 * r ≤ x ∧ x < 40 * r + 40 then nI 0 else T 131 x))) := by
  have hm := mod_sh L
  apply down_ind
  · rw [w132_65]
    simp (disch := omega) only [w132_67, w132_69, w132_72, w132_73, w132_76, w132_78, w132_79, w132_80, w132_82, w132_83, w132_84, w132_85, w132_88, w132_91, w132_92, hm, ↓neg_vM, ↓neg_vB, ↓neg_vS, ↓neg_vF, ↓neg_vO, ↓neg_vA, ↓neg_vN, lit_nI, nI_leI, nI_ltI, nI_eq, jm_in_nI, nI_clamp, nI_add, n_mul, pk_sub, n_le_t, n_le_f, n_lt_t, n_lt_f, n_eq_t, n_eq_f, true_and, and_true, ne_eq, not_false_eq_true, not_true_eq_false, min_n, max_n, dif_n, n_rem, n_div, or_nI, shl_nI, Option.toList_some, Option.toList_none, List.singleton_append, List.nil_append, if_true, if_false, or_true, true_or, or_false, false_or, and_false, false_and, Bool.false_eq_true]
  · intro i hi ih
    rw [← ih, w132_65]
    simp (disch := omega) only [w132_67, w132_69, w132_72, w132_73, w132_76, w132_78, w132_79, w132_80, w132_82, w132_83, w132_84, w132_85, w132_88, w132_91, w132_92, hm, ↓neg_vM, ↓neg_vB, ↓neg_vS, ↓neg_vF, ↓neg_vO, ↓neg_vA, ↓neg_vN, lit_nI, nI_leI, nI_ltI, nI_eq, jm_in_nI, nI_clamp, nI_add, n_mul, pk_sub, n_le_t, n_le_f, n_lt_t, n_lt_f, n_eq_t, n_eq_f, true_and, and_true, ne_eq, not_false_eq_true, not_true_eq_false, min_n, max_n, dif_n, n_rem, n_div, or_nI, shl_nI, Option.toList_some, Option.toList_none, List.singleton_append, List.nil_append, if_true, if_false, or_true, true_or, or_false, false_or, and_false, false_and, Bool.false_eq_true]
    have e : jm_upd (jm_row T 131 (fun x => if 40 * r ≤ x ∧ x < 40 * r + i then nI 0 else T 131 x)) 131 (40 * r + i) (nI 0) = jm_row T 131 (fun x => if 40 * r ≤ x ∧ x < 40 * r + (i + 1) then nI 0 else T 131 x) := by
      funext o x
      rw [upd_at, row_at, row_at]
      by_cases ho : o = 131
      · subst ho
        by_cases hx : x = 40 * r + i
        · rw [if_pos ⟨rfl, hx⟩, if_pos rfl, if_pos (by omega)]
        · rw [if_neg (fun q => hx q.2), if_pos rfl, if_pos rfl]
          by_cases h2 : 40 * r ≤ x ∧ x < 40 * r + i
          · rw [if_pos h2, if_pos (by omega)]
          · rw [if_neg h2, if_neg (by omega)]
      · rw [if_neg (fun q => ho q.1), if_neg ho, if_neg ho]
    rw [e]
theorem p_row {a b n : Int32} (hI : InvK xs S k) : CL L (d + 9) 78 [.ref 0, .int a, .int b, .int n] S (Zx xs L (d + 9) 132 [.ref 128, .int a, .int b, .int n]) := by
  have ht := top_sh L
  have hm := mod_sh L
  by_cases h1 : nI 0 ≤ a ∧ a ≤ nI 7
  · by_cases h2 : nI 0 ≤ b ∧ b ≤ nI 2
    · by_cases h3 : n ≤ nI 40
      · obtain ⟨r, -, hr, rfl⟩ := btw (by decide) h1 (by decide)
        obtain ⟨l, -, hl, rfl⟩ := btw (by decide) h2 (by decide)
        by_cases h4 : nI 0 ≤ n
        · obtain ⟨q, -, hq, rfl⟩ := btw (by decide) ⟨h4, h3⟩ (by decide)
          clear h1 h2 h3 h4
          simp (disch := omega) only [cl78, w78_0, w78_1, w78_2, w78_5, w78_8, w78_9, w78_10, w78_11, w78_14, w78_17, w78_18, w78_20, w78_23, w78_25, w78_26, w78_27, w78_30, w78_31, w78_32, w78_35, w78_36, w78_37, w78_40, w78_41, w78_42, w78_43, w78_46, w78_47, w78_48, w78_51, ht, hm, ↓neg_vM, ↓neg_vB, ↓neg_vS, ↓neg_vF, ↓neg_vO, ↓neg_vA, ↓neg_vN, lit_nI, nI_leI, nI_ltI, nI_eq, jm_in_nI, nI_clamp, nI_add, n_mul, pk_sub, n_le_t, n_le_f, n_lt_t, n_lt_f, n_eq_t, n_eq_f, true_and, and_true, ne_eq, not_false_eq_true, not_true_eq_false, min_n, max_n, dif_n, n_rem, n_div, or_nI, shl_nI, Option.toList_some, Option.toList_none, List.singleton_append, List.nil_append, if_true, if_false, or_true, true_or, or_false, false_or, and_false, false_and, Bool.false_eq_true, c_noRow, c_withinP, c_finding, c_unfound, c_make, Zx_some]
          simp (disch := omega) only [cl132, w132_0, w132_1, w132_2, w132_5, w132_6, w132_9, w132_12, w132_13, w132_14, w132_15, w132_18, w132_21, w132_24, w132_25, w132_27, w132_30, w132_32, w132_33, w132_34, w132_35, w132_38, w132_39, w132_42, w132_43, w132_44, w132_47, w132_48, w132_49, w132_52, w132_53, w132_54, w132_55, w132_56, w132_59, w132_60, w132_61, w132_62, w132_63, ht, hm, ↓neg_vM, ↓neg_vB, ↓neg_vS, ↓neg_vF, ↓neg_vO, ↓neg_vA, ↓neg_vN, lit_nI, nI_leI, nI_ltI, nI_eq, jm_in_nI, nI_clamp, nI_add, n_mul, pk_sub, n_le_t, n_le_f, n_lt_t, n_lt_f, n_eq_t, n_eq_f, true_and, and_true, ne_eq, not_false_eq_true, not_true_eq_false, min_n, max_n, dif_n, n_rem, n_div, or_nI, shl_nI, Option.toList_some, Option.toList_none, List.singleton_append, List.nil_append, if_true, if_false, or_true, true_or, or_false, false_or, and_false, false_and, Bool.false_eq_true, lit_lN, r_isRow, r_in, nI_l, lN_le, r_finding]
          have e := fun T => (r_rowloop (L := L) (d := d + 9) (Z := Zm xs (nI q)) (n := q) (T := T) (l0 := .int (nI l)) (l1 := .null) (show r < 8 by omega) 0 (Nat.zero_le _)).mpr
          have e2 : ∀ T : jm_I2, jm_row T 131 (fun x => if 40 * r ≤ x ∧ x < 40 * r + 0 then nI 0 else T 131 x) = T := fun T => by
            funext o x
            rw [row_at]
            by_cases ho : o = 131
            · rw [if_pos ho, if_neg (by omega), ho]
            · rw [if_neg ho]
          simp only [e2] at e
          apply e
          rw [Zm_some]
          refine ⟨rfl, k, InvK_R hI (fun r' hr' => ?_) ?_ (fun o g1 g2 g3 => ?_) ?_ (fun i hi => ?_)⟩
          · by_cases er : r' = r
            · subst er
              refine Or.inr ⟨q, l, hq, hl, ?_, ?_, ?_, ?_, fun i hi => ?_⟩
              · simp (disch := omega) only [upd_at, row_at, n_eq_f, n_eq_t, and_true, true_and, and_false, false_and, and_self, if_true, if_false,  ]
              · simp (disch := omega) only [upd_at, row_at, n_eq_f, n_eq_t, and_true, true_and, and_false, false_and, and_self, if_true, if_false,  ]
              · simp (disch := omega) only [upd_at, row_at, n_eq_f, n_eq_t, and_true, true_and, and_false, false_and, and_self, if_true, if_false,  ]
              · simp (disch := omega) only [upd_at, row_at, n_eq_f, n_eq_t, and_true, true_and, and_false, false_and, and_self, if_true, if_false,  ]
              · simp (disch := omega) only [upd_at, row_at, n_eq_f, n_eq_t, and_true, true_and, and_false, false_and, and_self, if_true, if_false,  hi, show 40 * r' ≤ 40 * r' + i ∧ 40 * r' + i < 40 * r' + 40 by omega]
            · refine RW1_of (hI.2.1 r' hr') ?_ ?_ ?_ ?_ (fun i hi => ?_) (fun i hi => ?_)
              · simp (disch := omega) only [upd_at, row_at, n_eq_f, n_eq_t, and_true, true_and, and_false, false_and, and_self, if_true, if_false,  er]
              · simp (disch := omega) only [upd_at, row_at, n_eq_f, n_eq_t, and_true, true_and, and_false, false_and, and_self, if_true, if_false,  er]
              · simp (disch := omega) only [upd_at, row_at, n_eq_f, n_eq_t, and_true, true_and, and_false, false_and, and_self, if_true, if_false,  er]
              · simp (disch := omega) only [upd_at, row_at, n_eq_f, n_eq_t, and_true, true_and, and_false, false_and, and_self, if_true, if_false,  er]
              · simp (disch := omega) only [upd_at, row_at, n_eq_f, n_eq_t, and_true, true_and, and_false, false_and, and_self, if_true, if_false,  ]
              · simp (disch := omega) only [upd_at, row_at, n_eq_f, n_eq_t, and_true, true_and, and_false, false_and, and_self, if_true, if_false,  show ¬ (40 * r ≤ 40 * r' + i ∧ 40 * r' + i < 40 * r + 40) by omega]
          · unfold IU
            simp (disch := omega) only [upd_at, row_at, n_eq_f, n_eq_t, and_true, true_and, and_false, false_and, and_self, if_true, if_false,  ]
          · funext i
            simp (disch := omega) only [upd_at, row_at, n_eq_f, n_eq_t, and_true, true_and, and_false, false_and, and_self, if_true, if_false,  ]
          · simp (disch := omega) only [upd_at, row_at, n_eq_f, n_eq_t, and_true, true_and, and_false, false_and, and_self, if_true, if_false,  ]
          · simp (disch := omega) only [upd_at, row_at, n_eq_f, n_eq_t, and_true, true_and, and_false, false_and, and_self, if_true, if_false,  ]
        · simp (disch := omega) only [cl78, w78_0, w78_1, w78_2, w78_5, w78_8, w78_9, w78_10, w78_11, w78_14, w78_17, w78_18, w78_20, w78_23, w78_25, w78_26, w78_27, w78_30, w78_31, w78_32, w78_35, w78_36, w78_37, w78_40, w78_41, w78_42, w78_43, w78_46, w78_47, w78_48, w78_51, ht, hm, ↓neg_vM, ↓neg_vB, ↓neg_vS, ↓neg_vF, ↓neg_vO, ↓neg_vA, ↓neg_vN, lit_nI, nI_leI, nI_ltI, nI_eq, jm_in_nI, nI_clamp, nI_add, n_mul, pk_sub, n_le_t, n_le_f, n_lt_t, n_lt_f, n_eq_t, n_eq_f, true_and, and_true, ne_eq, not_false_eq_true, not_true_eq_false, min_n, max_n, dif_n, n_rem, n_div, or_nI, shl_nI, Option.toList_some, Option.toList_none, List.singleton_append, List.nil_append, if_true, if_false, or_true, true_or, or_false, false_or, and_false, false_and, Bool.false_eq_true, c_noRow, c_withinP, c_finding, Zx_some, h3, h4]
          simp (disch := omega) only [cl132, w132_0, w132_1, w132_2, w132_5, w132_6, w132_9, w132_12, w132_13, w132_14, w132_15, w132_18, w132_21, w132_24, w132_25, w132_27, w132_30, w132_32, w132_33, w132_34, w132_35, w132_38, w132_39, w132_42, w132_43, w132_44, w132_47, w132_48, w132_49, w132_52, w132_53, w132_54, w132_55, w132_56, w132_59, w132_60, w132_61, w132_62, w132_63, ht, hm, ↓neg_vM, ↓neg_vB, ↓neg_vS, ↓neg_vF, ↓neg_vO, ↓neg_vA, ↓neg_vN, lit_nI, nI_leI, nI_ltI, nI_eq, jm_in_nI, nI_clamp, nI_add, n_mul, pk_sub, n_le_t, n_le_f, n_lt_t, n_lt_f, n_eq_t, n_eq_f, true_and, and_true, ne_eq, not_false_eq_true, not_true_eq_false, min_n, max_n, dif_n, n_rem, n_div, or_nI, shl_nI, Option.toList_some, Option.toList_none, List.singleton_append, List.nil_append, if_true, if_false, or_true, true_or, or_false, false_or, and_false, false_and, Bool.false_eq_true, lit_lN, r_isRow, r_in, nI_l, lN_le, r_finding, h3, h4, Zm_some, upd_twice]
          exact ⟨k, InvK_found hI rfl⟩
      · simp (disch := omega) only [cl78, w78_0, w78_1, w78_2, w78_5, w78_8, w78_9, w78_10, w78_11, w78_14, w78_17, w78_18, w78_20, w78_23, w78_25, w78_26, w78_27, w78_30, w78_31, w78_32, w78_35, w78_36, w78_37, w78_40, w78_41, w78_42, w78_43, w78_46, w78_47, w78_48, w78_51, ht, hm, ↓neg_vM, ↓neg_vB, ↓neg_vS, ↓neg_vF, ↓neg_vO, ↓neg_vA, ↓neg_vN, lit_nI, nI_leI, nI_ltI, nI_eq, jm_in_nI, nI_clamp, nI_add, n_mul, pk_sub, n_le_t, n_le_f, n_lt_t, n_lt_f, n_eq_t, n_eq_f, true_and, and_true, ne_eq, not_false_eq_true, not_true_eq_false, min_n, max_n, dif_n, n_rem, n_div, or_nI, shl_nI, Option.toList_some, Option.toList_none, List.singleton_append, List.nil_append, if_true, if_false, or_true, true_or, or_false, false_or, and_false, false_and, Bool.false_eq_true, c_noRow, c_withinP, c_finding, Zx_some, h1, h2, h3]
        simp (disch := omega) only [cl132, w132_0, w132_1, w132_2, w132_5, w132_6, w132_9, w132_12, w132_13, w132_14, w132_15, w132_18, w132_21, w132_24, w132_25, w132_27, w132_30, w132_32, w132_33, w132_34, w132_35, w132_38, w132_39, w132_42, w132_43, w132_44, w132_47, w132_48, w132_49, w132_52, w132_53, w132_54, w132_55, w132_56, w132_59, w132_60, w132_61, w132_62, w132_63, ht, hm, ↓neg_vM, ↓neg_vB, ↓neg_vS, ↓neg_vF, ↓neg_vO, ↓neg_vA, ↓neg_vN, lit_nI, nI_leI, nI_ltI, nI_eq, jm_in_nI, nI_clamp, nI_add, n_mul, pk_sub, n_le_t, n_le_f, n_lt_t, n_lt_f, n_eq_t, n_eq_f, true_and, and_true, ne_eq, not_false_eq_true, not_true_eq_false, min_n, max_n, dif_n, n_rem, n_div, or_nI, shl_nI, Option.toList_some, Option.toList_none, List.singleton_append, List.nil_append, if_true, if_false, or_true, true_or, or_false, false_or, and_false, false_and, Bool.false_eq_true, lit_lN, r_isRow, r_in, nI_l, lx_le, xl_le, h1, h2, h3, Zm_some]
        exact ⟨k, InvK_same hI Same_thrown⟩
    · simp (disch := omega) only [cl78, w78_0, w78_1, w78_2, w78_5, w78_8, w78_9, w78_10, w78_11, w78_14, w78_17, w78_18, w78_20, w78_23, w78_25, w78_26, w78_27, w78_30, w78_31, w78_32, w78_35, w78_36, w78_37, w78_40, w78_41, w78_42, w78_43, w78_46, w78_47, w78_48, w78_51, ht, hm, ↓neg_vM, ↓neg_vB, ↓neg_vS, ↓neg_vF, ↓neg_vO, ↓neg_vA, ↓neg_vN, lit_nI, nI_leI, nI_ltI, nI_eq, jm_in_nI, nI_clamp, nI_add, n_mul, pk_sub, n_le_t, n_le_f, n_lt_t, n_lt_f, n_eq_t, n_eq_f, true_and, and_true, ne_eq, not_false_eq_true, not_true_eq_false, min_n, max_n, dif_n, n_rem, n_div, or_nI, shl_nI, Option.toList_some, Option.toList_none, List.singleton_append, List.nil_append, if_true, if_false, or_true, true_or, or_false, false_or, and_false, false_and, Bool.false_eq_true, c_noRow, c_withinP, c_finding, Zx_some, h1, h2]
      simp (disch := omega) only [cl132, w132_0, w132_1, w132_2, w132_5, w132_6, w132_9, w132_12, w132_13, w132_14, w132_15, w132_18, w132_21, w132_24, w132_25, w132_27, w132_30, w132_32, w132_33, w132_34, w132_35, w132_38, w132_39, w132_42, w132_43, w132_44, w132_47, w132_48, w132_49, w132_52, w132_53, w132_54, w132_55, w132_56, w132_59, w132_60, w132_61, w132_62, w132_63, ht, hm, ↓neg_vM, ↓neg_vB, ↓neg_vS, ↓neg_vF, ↓neg_vO, ↓neg_vA, ↓neg_vN, lit_nI, nI_leI, nI_ltI, nI_eq, jm_in_nI, nI_clamp, nI_add, n_mul, pk_sub, n_le_t, n_le_f, n_lt_t, n_lt_f, n_eq_t, n_eq_f, true_and, and_true, ne_eq, not_false_eq_true, not_true_eq_false, min_n, max_n, dif_n, n_rem, n_div, or_nI, shl_nI, Option.toList_some, Option.toList_none, List.singleton_append, List.nil_append, if_true, if_false, or_true, true_or, or_false, false_or, and_false, false_and, Bool.false_eq_true, lit_lN, r_isRow, r_in, nI_l, lx_le, xl_le, h1, h2, Zm_some]
      exact ⟨k, InvK_same hI Same_thrown⟩
  · simp (disch := omega) only [cl78, w78_0, w78_1, w78_2, w78_5, w78_8, w78_9, w78_10, w78_11, w78_14, w78_17, w78_18, w78_20, w78_23, w78_25, w78_26, w78_27, w78_30, w78_31, w78_32, w78_35, w78_36, w78_37, w78_40, w78_41, w78_42, w78_43, w78_46, w78_47, w78_48, w78_51, ht, hm, ↓neg_vM, ↓neg_vB, ↓neg_vS, ↓neg_vF, ↓neg_vO, ↓neg_vA, ↓neg_vN, lit_nI, nI_leI, nI_ltI, nI_eq, jm_in_nI, nI_clamp, nI_add, n_mul, pk_sub, n_le_t, n_le_f, n_lt_t, n_lt_f, n_eq_t, n_eq_f, true_and, and_true, ne_eq, not_false_eq_true, not_true_eq_false, min_n, max_n, dif_n, n_rem, n_div, or_nI, shl_nI, Option.toList_some, Option.toList_none, List.singleton_append, List.nil_append, if_true, if_false, or_true, true_or, or_false, false_or, and_false, false_and, Bool.false_eq_true, c_noRow, c_withinP, c_finding, Zx_some, h1]
    simp (disch := omega) only [cl132, w132_0, w132_1, w132_2, w132_5, w132_6, w132_9, w132_12, w132_13, w132_14, w132_15, w132_18, w132_21, w132_24, w132_25, w132_27, w132_30, w132_32, w132_33, w132_34, w132_35, w132_38, w132_39, w132_42, w132_43, w132_44, w132_47, w132_48, w132_49, w132_52, w132_53, w132_54, w132_55, w132_56, w132_59, w132_60, w132_61, w132_62, w132_63, ht, hm, ↓neg_vM, ↓neg_vB, ↓neg_vS, ↓neg_vF, ↓neg_vO, ↓neg_vA, ↓neg_vN, lit_nI, nI_leI, nI_ltI, nI_eq, jm_in_nI, nI_clamp, nI_add, n_mul, pk_sub, n_le_t, n_le_f, n_lt_t, n_lt_f, n_eq_t, n_eq_f, true_and, and_true, ne_eq, not_false_eq_true, not_true_eq_false, min_n, max_n, dif_n, n_rem, n_div, or_nI, shl_nI, Option.toList_some, Option.toList_none, List.singleton_append, List.nil_append, if_true, if_false, or_true, true_or, or_false, false_or, and_false, false_and, Bool.false_eq_true, lit_lN, r_isRow, r_in, nI_l, lx_le, xl_le, h1, Zm_some]
    exact ⟨k, InvK_same hI Same_thrown⟩
theorem p_drop {a : Int32} (hI : InvK xs S k) : CL L (d + 9) 81 [.ref 0, .int a] S (Zx xs L (d + 9) 135 [.ref 128, .int a]) := by
  have ht := top_sh L
  have hm := mod_sh L
  by_cases h1 : nI 0 ≤ a ∧ a ≤ nI 7
  · obtain ⟨r, -, hr, rfl⟩ := btw (by decide) h1 (by decide)
    clear h1
    rcases hI.2.1 r (by omega) with ⟨e1, e2⟩ | ⟨n, l, b1, b2, e1, e2, e3, e4, e5⟩
    · simp (disch := omega) only [cl81, w81_0, w81_1, w81_2, w81_5, w81_8, w81_10, w81_11, w81_12, w81_15, w81_16, w81_19, w81_22, w81_23, w81_24, w81_27, w81_28, w81_29, w81_30, w81_33, w81_34, w81_37, w81_40, ht, hm, ↓neg_vM, ↓neg_vB, ↓neg_vS, ↓neg_vF, ↓neg_vO, ↓neg_vA, ↓neg_vN, lit_nI, nI_leI, nI_ltI, nI_eq, jm_in_nI, nI_clamp, nI_add, n_mul, pk_sub, n_le_t, n_le_f, n_lt_t, n_lt_f, n_eq_t, n_eq_f, true_and, and_true, ne_eq, not_false_eq_true, not_true_eq_false, min_n, max_n, dif_n, n_rem, n_div, or_nI, shl_nI, Option.toList_some, Option.toList_none, List.singleton_append, List.nil_append, if_true, if_false, or_true, true_or, or_false, false_or, and_false, false_and, Bool.false_eq_true, c_noRow, c_finding, c_isMissT (show r < 8 by omega) e1, Zx_some]
      simp (disch := omega) only [cl135, w135_0, w135_1, w135_2, w135_5, w135_6, w135_9, w135_12, w135_14, w135_15, w135_16, w135_17, w135_20, w135_21, w135_24, w135_25, w135_26, w135_29, w135_30, w135_31, w135_34, w135_35, w135_36, w135_39, w135_40, w135_41, w135_42, w135_43, w135_46, w135_47, w135_48, ht, hm, ↓neg_vM, ↓neg_vB, ↓neg_vS, ↓neg_vF, ↓neg_vO, ↓neg_vA, ↓neg_vN, lit_nI, nI_leI, nI_ltI, nI_eq, jm_in_nI, nI_clamp, nI_add, n_mul, pk_sub, n_le_t, n_le_f, n_lt_t, n_lt_f, n_eq_t, n_eq_f, true_and, and_true, ne_eq, not_false_eq_true, not_true_eq_false, min_n, max_n, dif_n, n_rem, n_div, or_nI, shl_nI, Option.toList_some, Option.toList_none, List.singleton_append, List.nil_append, if_true, if_false, or_true, true_or, or_false, false_or, and_false, false_and, Bool.false_eq_true, r_isRow, r_finding, upd_ne, e2, le_vM, Zm_some, upd_twice]
      exact ⟨k, InvK_found hI rfl⟩
    · simp (disch := omega) only [cl81, w81_0, w81_1, w81_2, w81_5, w81_8, w81_10, w81_11, w81_12, w81_15, w81_16, w81_19, w81_22, w81_23, w81_24, w81_27, w81_28, w81_29, w81_30, w81_33, w81_34, w81_37, w81_40, cl75, w75_0, w75_1, w75_4, w75_5, w75_6, w75_7, w75_8, w75_11, w75_12, w75_13, w75_14, w75_15, ht, hm, ↓neg_vM, ↓neg_vB, ↓neg_vS, ↓neg_vF, ↓neg_vO, ↓neg_vA, ↓neg_vN, lit_nI, nI_leI, nI_ltI, nI_eq, jm_in_nI, nI_clamp, nI_add, n_mul, pk_sub, n_le_t, n_le_f, n_lt_t, n_lt_f, n_eq_t, n_eq_f, true_and, and_true, ne_eq, not_false_eq_true, not_true_eq_false, min_n, max_n, dif_n, n_rem, n_div, or_nI, shl_nI, Option.toList_some, Option.toList_none, List.singleton_append, List.nil_append, if_true, if_false, or_true, true_or, or_false, false_or, and_false, false_and, Bool.false_eq_true, c_noRow, c_finding, c_unfound, c_isMissF (show r < 8 by omega) b1 e1, e1, Zx_some]
      simp (disch := omega) only [cl135, w135_0, w135_1, w135_2, w135_5, w135_6, w135_9, w135_12, w135_14, w135_15, w135_16, w135_17, w135_20, w135_21, w135_24, w135_25, w135_26, w135_29, w135_30, w135_31, w135_34, w135_35, w135_36, w135_39, w135_40, w135_41, w135_42, w135_43, w135_46, w135_47, w135_48, ht, hm, ↓neg_vM, ↓neg_vB, ↓neg_vS, ↓neg_vF, ↓neg_vO, ↓neg_vA, ↓neg_vN, lit_nI, nI_leI, nI_ltI, nI_eq, jm_in_nI, nI_clamp, nI_add, n_mul, pk_sub, n_le_t, n_le_f, n_lt_t, n_lt_f, n_eq_t, n_eq_f, true_and, and_true, ne_eq, not_false_eq_true, not_true_eq_false, min_n, max_n, dif_n, n_rem, n_div, or_nI, shl_nI, Option.toList_some, Option.toList_none, List.singleton_append, List.nil_append, if_true, if_false, or_true, true_or, or_false, false_or, and_false, false_and, Bool.false_eq_true, r_isRow, r_finding, upd_ne, e3, e4, Zm_some]
      refine ⟨k, InvK_R hI (fun r' hr' => ?_) ?_ (fun o g1 g2 g3 => ?_) ?_ (fun i hi => ?_)⟩
      · by_cases er : r' = r
        · subst er
          exact Or.inl ⟨by simp (disch := omega) only [upd_at, row_at, n_eq_f, n_eq_t, and_true, true_and, and_false, false_and, and_self, if_true, if_false,  ], by simp (disch := omega) only [upd_at, row_at, n_eq_f, n_eq_t, and_true, true_and, and_false, false_and, and_self, if_true, if_false,  ]⟩
        · refine RW1_of (hI.2.1 r' hr') ?_ ?_ ?_ ?_ (fun i hi => ?_) (fun i hi => ?_)
          · simp (disch := omega) only [upd_at, row_at, n_eq_f, n_eq_t, and_true, true_and, and_false, false_and, and_self, if_true, if_false,  er]
          · simp (disch := omega) only [upd_at, row_at, n_eq_f, n_eq_t, and_true, true_and, and_false, false_and, and_self, if_true, if_false,  er]
          · simp (disch := omega) only [upd_at, row_at, n_eq_f, n_eq_t, and_true, true_and, and_false, false_and, and_self, if_true, if_false,  er]
          · simp (disch := omega) only [upd_at, row_at, n_eq_f, n_eq_t, and_true, true_and, and_false, false_and, and_self, if_true, if_false,  er]
          · simp (disch := omega) only [upd_at, row_at, n_eq_f, n_eq_t, and_true, true_and, and_false, false_and, and_self, if_true, if_false,  er]
          · simp (disch := omega) only [upd_at, row_at, n_eq_f, n_eq_t, and_true, true_and, and_false, false_and, and_self, if_true, if_false,  er]
      · unfold IU
        simp (disch := omega) only [upd_at, row_at, n_eq_f, n_eq_t, and_true, true_and, and_false, false_and, and_self, if_true, if_false,  ]
      · funext i
        simp (disch := omega) only [upd_at, row_at, n_eq_f, n_eq_t, and_true, true_and, and_false, false_and, and_self, if_true, if_false,  ]
      · simp (disch := omega) only [upd_at, row_at, n_eq_f, n_eq_t, and_true, true_and, and_false, false_and, and_self, if_true, if_false,  ]
      · simp (disch := omega) only [upd_at, row_at, n_eq_f, n_eq_t, and_true, true_and, and_false, false_and, and_self, if_true, if_false,  ]
  · simp (disch := omega) only [cl81, w81_0, w81_1, w81_2, w81_5, w81_8, w81_10, w81_11, w81_12, w81_15, w81_16, w81_19, w81_22, w81_23, w81_24, w81_27, w81_28, w81_29, w81_30, w81_33, w81_34, w81_37, w81_40, ht, hm, ↓neg_vM, ↓neg_vB, ↓neg_vS, ↓neg_vF, ↓neg_vO, ↓neg_vA, ↓neg_vN, lit_nI, nI_leI, nI_ltI, nI_eq, jm_in_nI, nI_clamp, nI_add, n_mul, pk_sub, n_le_t, n_le_f, n_lt_t, n_lt_f, n_eq_t, n_eq_f, true_and, and_true, ne_eq, not_false_eq_true, not_true_eq_false, min_n, max_n, dif_n, n_rem, n_div, or_nI, shl_nI, Option.toList_some, Option.toList_none, List.singleton_append, List.nil_append, if_true, if_false, or_true, true_or, or_false, false_or, and_false, false_and, Bool.false_eq_true, c_noRow, Zx_some, h1]
    simp (disch := omega) only [cl135, w135_0, w135_1, w135_2, w135_5, w135_6, w135_9, w135_12, w135_14, w135_15, w135_16, w135_17, w135_20, w135_21, w135_24, w135_25, w135_26, w135_29, w135_30, w135_31, w135_34, w135_35, w135_36, w135_39, w135_40, w135_41, w135_42, w135_43, w135_46, w135_47, w135_48, ht, hm, ↓neg_vM, ↓neg_vB, ↓neg_vS, ↓neg_vF, ↓neg_vO, ↓neg_vA, ↓neg_vN, lit_nI, nI_leI, nI_ltI, nI_eq, jm_in_nI, nI_clamp, nI_add, n_mul, pk_sub, n_le_t, n_le_f, n_lt_t, n_lt_f, n_eq_t, n_eq_f, true_and, and_true, ne_eq, not_false_eq_true, not_true_eq_false, min_n, max_n, dif_n, n_rem, n_div, or_nI, shl_nI, Option.toList_some, Option.toList_none, List.singleton_append, List.nil_append, if_true, if_false, or_true, true_or, or_false, false_or, and_false, false_and, Bool.false_eq_true, r_isRow, h1, Zm_some]
    exact ⟨k, InvK_same hI Same_thrown⟩
end
