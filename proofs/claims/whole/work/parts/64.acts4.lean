theorem la35 (L : Nat) : jm_la L 35 = 2 ∧ jm_ha L 35 = true := ⟨(la_of (by decide)).trans (by decide +kernel), (ha_of (by decide)).trans (by decide +kernel)⟩
theorem rf35 : jm_rf 35 0 = 36 ∧ jm_rf 35 1 = 46 := by decide +kernel
theorem isC36 : isCamp 36 := Or.inr (Or.inr (Or.inl rfl))
theorem isC46 : isCamp 46 := Or.inr (Or.inr (Or.inr (Or.inl rfl)))
theorem nar1 : vp_nar .boolean (nI 1) = nI 1 := by decide +kernel
theorem n2sub : nI 2 - nI 1 = nI 1 := by decide +kernel
section
variable {xs : Nat → Int32} {L d : Nat} {S : jm_I2} {k : kT} {Z : Option Value → jm_I2 → Prop}
theorem c_takeBack {n nx : Nat} {f : Nat → kT} (hX : RX 25 S k) (hV : KV k) (hn : n ≤ 24) (h0 : 0 < n) (hx : nx < 24) (hC : CA S n nx f) (hK : sameK (f (n - 1)) k) (hZ : ∀ T, RX 25 T (f (n - 1)) → CA T (n - 1) ((nx + 23) % 24) f → (∀ o, o ≠ 56 → ¬ (25 ≤ o ∧ o ≤ 31) → T o = S o) → Z none T) : CL L d 3 [.ref 56, .ref 25] S Z := by
  have ht := top_sh L
  have hs := camp_sh isC25
  have hl := camp_ll L isC25
  obtain ⟨p, hp, hp2⟩ : ∃ p, p < 24 ∧ (nx + 24 - 1) % 24 = p := ⟨_, Nat.mod_lt _ (by decide), rfl⟩
  have hw := line_sh L hp
  have hp3 : nx + 24 - 1 - (nx + 24 - 1) / 24 * 24 = p := by omega
  obtain ⟨c1, c2, c3⟩ := hC
  have hln := c3 (n - 1) (by omega)
  rw [show (nx + 24 - n + (n - 1)) % 24 = p by omega] at hln
  obtain ⟨l0, l1, l2⟩ := hln
  obtain ⟨v0, v1, v2, v3, v4, v5⟩ := hV
  obtain ⟨x0, x1, x2, x3, x4, x5⟩ := hX
  obtain ⟨s0, s1, s2, s3⟩ := hK
  simp (disch := first | omega | exact nI_pos (by omega) | (rw [nI_clamp (by omega), nI_clamp (by omega)]; omega)) only [cl3, w3_0, w3_1, w3_4, w3_5, w3_8, w3_9, w3_10, w3_11, w3_14, w3_16, w3_17, w3_18, w3_19, w3_21, w3_22, w3_25, w3_26, w3_27, w3_30, w3_31, w3_32, w3_35, w3_36, w3_39, w3_40, w3_43, w3_44, w3_45, w3_46, w3_47, w3_48, w3_49, w3_52, w3_53, w3_54, w3_55, w3_58, w3_59, w3_60, w3_63, w3_64, w3_66, w3_67, w3_70, w3_71, w3_72, w3_75, w3_76, w3_78, w3_79, w3_82, w3_83, w3_84, w3_87, w3_88, w3_90, w3_91, w3_94, w3_95, w3_96, w3_99, ht, hs, hl, ↓neg_vN, lit_nI, nI_leI, nI_ltI, nI_eq, jm_in_nI, nI_clamp, nI_add, n_mul, pk_sub, n_le_t, n_le_f, n_lt_t, n_lt_f, n_eq_t, n_eq_f, true_and, and_true, ne_eq, not_false_eq_true, not_true_eq_false, min_n, max_n, dif_n, n_rem, n_div, or_nI, shl_nI, Option.toList_some, Option.toList_none, List.singleton_append, List.nil_append, if_true, if_false, or_true, true_or, or_false, false_or, and_false, false_and, Bool.false_eq_true, c1, c2, upd_at, and_self, hp2, hp3, hw, l0]
  clear ht hs hl hw
  refine hZ _ ⟨?_, ?_, ?_, ?_, fun h hh => ?_, fun r hr => ?_⟩ ⟨?_, ?_, fun q hq => ?_⟩ (fun o h1 h2 => ?_) <;> clear hZ
  · rw [s2]
    simp (disch := omega) only [upd_at, row_at, n_eq_f, n_eq_t, and_true, true_and, and_false, false_and, and_self, if_true, if_false,  x0]
  · simp (disch := omega) only [upd_at, row_at, n_eq_f, n_eq_t, and_true, true_and, and_false, false_and, and_self, if_true, if_false,  ]
  · rw [s1]
    simp (disch := omega) only [upd_at, row_at, n_eq_f, n_eq_t, and_true, true_and, and_false, false_and, and_self, if_true, if_false,  x2]
  · rw [s0]
    simp (disch := omega) only [upd_at, row_at, n_eq_f, n_eq_t, and_true, true_and, and_false, false_and, and_self, if_true, if_false,  x3]
  · obtain ⟨z1, z2⟩ := l2 h hh
    simp (disch := omega) only [upd_at, row_at, n_eq_f, n_eq_t, and_true, true_and, and_false, false_and, and_self, if_true, if_false,  pk_cpy_in, Nat.sub_zero, z1, z2]
  · obtain ⟨z1, z2⟩ := l1 r hr
    rw [s0] at hr
    obtain ⟨w1, w2, w3, w4⟩ := x5 r hr
    obtain ⟨u1, u2⟩ := s3 r hr
    rw [u1, u2]
    simp (disch := omega) only [upd_at, row_at, n_eq_f, n_eq_t, and_true, true_and, and_false, false_and, and_self, if_true, if_false,  pk_cpy_in, Nat.sub_zero, z1, z2, w1, w3]
  · simp (disch := omega) only [upd_at, row_at, n_eq_f, n_eq_t, and_true, true_and, and_false, false_and, and_self, if_true, if_false,  ]
  · rw [show (nx + 23) % 24 = p by omega]
    simp (disch := omega) only [upd_at, row_at, n_eq_f, n_eq_t, and_true, true_and, and_false, false_and, and_self, if_true, if_false,  ]
  · rw [show ((nx + 23) % 24 + 24 - (n - 1) + q) % 24 = (nx + 24 - n + q) % 24 by omega]
    refine RLn_of (c3 q (by omega)) ?_
    funext i
    simp (disch := omega) only [upd_at, row_at, n_eq_f, n_eq_t, and_true, true_and, and_false, false_and, and_self, if_true, if_false,  ]
  · funext i
    simp (disch := omega) only [upd_at, row_at, n_eq_f, n_eq_t, and_true, true_and, and_false, false_and, and_self, if_true, if_false,  ]
theorem p_undo (hI : InvK xs S k) : CL L (d + 9) 85 [.ref 0] S (Zx xs L (d + 9) 179 [.ref 128]) := by
  have ht := top_sh L
  have hm := mod_sh L
  obtain ⟨hX, hM, hG⟩ := hI.2.2.2.1
  have hV := hG.1
  obtain ⟨n, nx, f, hnx, hC, hR, hH⟩ := IA_get hI.2.2.2.2.1
  have c1 := hC.1
  have r1 := hR.1
  have hn := hH.1
  by_cases h0 : n = 0
  · simp (disch := omega) only [w85_0, w85_1, w85_4, w85_7, w85_8, w85_11, w85_13, cl85, ht, ↓neg_vM, ↓neg_vB, ↓neg_vS, ↓neg_vF, ↓neg_vO, ↓neg_vA, ↓neg_vN, lit_nI, nI_leI, nI_ltI, nI_eq, jm_in_nI, nI_clamp, nI_add, n_mul, pk_sub, n_le_t, n_le_f, n_lt_t, n_lt_f, n_eq_t, n_eq_f, true_and, and_true, ne_eq, not_false_eq_true, not_true_eq_false, min_n, max_n, dif_n, n_rem, n_div, or_nI, shl_nI, Option.toList_some, Option.toList_none, List.singleton_append, List.nil_append, if_true, if_false, or_true, true_or, or_false, false_or, and_false, false_and, Bool.false_eq_true, Zx_some, c1, h0]
    simp (disch := omega) only [w179_0, w179_1, w179_2, w179_5, w179_6, w179_9, w179_12, w179_14, cl179, hm, ↓neg_vM, ↓neg_vB, ↓neg_vS, ↓neg_vF, ↓neg_vO, ↓neg_vA, ↓neg_vN, lit_nI, nI_leI, nI_ltI, nI_eq, jm_in_nI, nI_clamp, nI_add, n_mul, pk_sub, n_le_t, n_le_f, n_lt_t, n_lt_f, n_eq_t, n_eq_f, true_and, and_true, ne_eq, not_false_eq_true, not_true_eq_false, min_n, max_n, dif_n, n_rem, n_div, or_nI, shl_nI, Option.toList_some, Option.toList_none, List.singleton_append, List.nil_append, if_true, if_false, or_true, true_or, or_false, false_or, and_false, false_and, Bool.false_eq_true, Zm_some, upd_at, r1, h0]
    exact ⟨k, InvK_same hI Same_thrown⟩
  · obtain ⟨g1, g2⟩ := hH.2 (n - 1) (by omega)
    simp (disch := omega) only [cl85, w85_0, w85_1, w85_4, w85_7, w85_8, w85_11, w85_13, w85_14, w85_15, w85_18, w85_19, w85_22, w85_25, w85_26, w85_29, w85_32, ht, ↓neg_vM, ↓neg_vB, ↓neg_vS, ↓neg_vF, ↓neg_vO, ↓neg_vA, ↓neg_vN, lit_nI, nI_leI, nI_ltI, nI_eq, jm_in_nI, nI_clamp, nI_add, n_mul, pk_sub, n_le_t, n_le_f, n_lt_t, n_lt_f, n_eq_t, n_eq_f, true_and, and_true, ne_eq, not_false_eq_true, not_true_eq_false, min_n, max_n, dif_n, n_rem, n_div, or_nI, shl_nI, Option.toList_some, Option.toList_none, List.singleton_append, List.nil_append, if_true, if_false, or_true, true_or, or_false, false_or, and_false, false_and, Bool.false_eq_true, c1]
    refine c_takeBack hX hV hn (by omega) hnx hC g2 (fun T tX tC tf => ?_)
    have t1 := tC.1
    simp (disch := omega) only [cl85, w85_0, w85_1, w85_4, w85_7, w85_8, w85_11, w85_13, w85_14, w85_15, w85_18, w85_19, w85_22, w85_25, w85_26, w85_29, w85_32, ht, ↓neg_vM, ↓neg_vB, ↓neg_vS, ↓neg_vF, ↓neg_vO, ↓neg_vA, ↓neg_vN, lit_nI, nI_leI, nI_ltI, nI_eq, jm_in_nI, nI_clamp, nI_add, n_mul, pk_sub, n_le_t, n_le_f, n_lt_t, n_lt_f, n_eq_t, n_eq_f, true_and, and_true, ne_eq, not_false_eq_true, not_true_eq_false, min_n, max_n, dif_n, n_rem, n_div, or_nI, shl_nI, Option.toList_some, Option.toList_none, List.singleton_append, List.nil_append, if_true, if_false, or_true, true_or, or_false, false_or, and_false, false_and, Bool.false_eq_true, t1, Zx_some]
    have t9 : T 128 9 = nI n := by rw [tf _ (by decide) (by decide)]; exact r1
    simp (disch := omega) only [w179_0, w179_1, w179_2, w179_5, w179_6, w179_9, w179_12, w179_14, w179_15, w179_16, w179_17, w179_20, w179_21, w179_22, w179_25, w179_26, cl179, hm, ↓neg_vM, ↓neg_vB, ↓neg_vS, ↓neg_vF, ↓neg_vO, ↓neg_vA, ↓neg_vN, lit_nI, nI_leI, nI_ltI, nI_eq, jm_in_nI, nI_clamp, nI_add, n_mul, pk_sub, n_le_t, n_le_f, n_lt_t, n_lt_f, n_eq_t, n_eq_f, true_and, and_true, ne_eq, not_false_eq_true, not_true_eq_false, min_n, max_n, dif_n, n_rem, n_div, or_nI, shl_nI, Option.toList_some, Option.toList_none, List.singleton_append, List.nil_append, if_true, if_false, or_true, true_or, or_false, false_or, and_false, false_and, Bool.false_eq_true, upd_at, t9]
    have key : ∀ i, i ≤ 34 → ∀ U, (∀ x, x < i → U 132 x = nI (f (n - 1) x)) → U 128 9 = nI (n - 1) → (∀ o, o ≠ 128 → o ≠ 132 → U o = T o) → (∀ x, x ≠ 0 → x ≠ 9 → U 128 x = T 128 x) → WQ L (d + 9) 179 27 [.ref 128, .int (nI i)] [] U (Zm xs (nI (n - 1))) := by
      apply down_ind
      · intro U u1 u2 u3 u4
        rw [w179_27]
        simp (disch := omega) only [w179_28, w179_30, w179_33, w179_34, w179_37, w179_38, w179_39, w179_42, w179_44, w179_45, w179_48, w179_49, w179_50, w179_51, w179_52, w179_53, w179_56, w179_59, w179_60, w179_63, hm, ↓neg_vM, ↓neg_vB, ↓neg_vS, ↓neg_vF, ↓neg_vO, ↓neg_vA, ↓neg_vN, lit_nI, nI_leI, nI_ltI, nI_eq, jm_in_nI, nI_clamp, nI_add, n_mul, pk_sub, n_le_t, n_le_f, n_lt_t, n_lt_f, n_eq_t, n_eq_f, true_and, and_true, ne_eq, not_false_eq_true, not_true_eq_false, min_n, max_n, dif_n, n_rem, n_div, or_nI, shl_nI, Option.toList_some, Option.toList_none, List.singleton_append, List.nil_append, if_true, if_false, or_true, true_or, or_false, false_or, and_false, false_and, Bool.false_eq_true, u2, Zm_some]
        refine ⟨f (n - 1), InvK_A (n := n - 1) (nx := (nx + 23) % 24) (g := f) hI (RX_of tX (fun o h1 h2 => u3 o (by omega) (by omega))) (fun x hx => u1 x hx) g1 (by omega) (CA_of tC (fun o ho => u3 o (by omega) (by omega))) ⟨u2, fun q hq i hi => ?_⟩ ⟨by omega, fun q hq => ?_⟩ (fun o ho => ?_) (fun i hi => ?_)⟩
        · rw [u3 135 (by decide) (by decide), tf 135 (by decide) (by decide)]
          exact hR.2 q (by omega) i hi
        · exact ⟨(hH.2 q (by omega)).1, sameK_tr (hH.2 q (by omega)).2 (sameK_sy g2)⟩
        · rw [u3 o (by omega) (by omega), tf o (by omega) (by omega)]
        · rw [u4 i (by omega) (by omega), tf _ (by decide) (by decide)]
      · intro i hi ih U u1 u2 u3 u4
        have e : U 135 (34 * (n - 1) + i) = nI (f (n - 1) i) := by
          rw [u3 135 (by decide) (by decide), tf 135 (by decide) (by decide)]
          exact hR.2 (n - 1) (by omega) i hi
        rw [w179_27]
        simp (disch := omega) only [w179_28, w179_30, w179_33, w179_34, w179_37, w179_38, w179_39, w179_42, w179_44, w179_45, w179_48, w179_49, w179_50, w179_51, w179_52, w179_53, w179_56, hm, ↓neg_vM, ↓neg_vB, ↓neg_vS, ↓neg_vF, ↓neg_vO, ↓neg_vA, ↓neg_vN, lit_nI, nI_leI, nI_ltI, nI_eq, jm_in_nI, nI_clamp, nI_add, n_mul, pk_sub, n_le_t, n_le_f, n_lt_t, n_lt_f, n_eq_t, n_eq_f, true_and, and_true, ne_eq, not_false_eq_true, not_true_eq_false, min_n, max_n, dif_n, n_rem, n_div, or_nI, shl_nI, Option.toList_some, Option.toList_none, List.singleton_append, List.nil_append, if_true, if_false, or_true, true_or, or_false, false_or, and_false, false_and, Bool.false_eq_true, u2, e]
        refine ih _ (fun x hx => ?_) ?_ (fun o h1 h2 => ?_) (fun x h1 h2 => ?_)
        · by_cases hxi : x = i
          · subst hxi
            simp (disch := omega) only [upd_at, row_at, n_eq_f, n_eq_t, and_true, true_and, and_false, false_and, and_self, if_true, if_false,  ]
          · rw [upd_at, if_neg (by omega)]; exact u1 x (by omega)
        · rw [upd_ne (by decide)]; exact u2
        · rw [upd_ne h2]; exact u3 o h1 h2
        · rw [upd_ne (by decide)]; exact u4 x h1 h2
    refine key 0 (Nat.zero_le _) _ (fun x hx => absurd hx (Nat.not_lt_zero _)) ?_ (fun o h1 h2 => ?_) (fun x h1 h2 => ?_)
    · simp (disch := omega) only [upd_at, row_at, n_eq_f, n_eq_t, and_true, true_and, and_false, false_and, and_self, if_true, if_false,  ]
    · rw [upd_ne h1, upd_ne h1]
    · rw [upd_at, if_neg (fun q => h2 q.2), upd_at, if_neg (fun q => h1 q.2)]
theorem InvK_I {U : jm_I2} (hI : InvK xs S k) (hII : II U) (f : ∀ o, ¬ (36 ≤ o ∧ o ≤ 55) → o ≠ 128 → o ≠ 141 → o ≠ 142 → U o = S o) (f1 : ∀ i, i ≠ 0 → U 128 i = S 128 i) : InvK xs U k := by
  obtain ⟨h1, h2, h3, h4, h5, h6, h7, h8, h9⟩ := hI
  have g : ∀ o, ¬ (36 ≤ o ∧ o ≤ 55) → o ≠ 128 → o ≠ 141 → o ≠ 142 → U o = S o := f
  exact ⟨IS_of h1 (fun o ho => g o (by omega) (by omega) (by omega) (by omega)), IR_of h2 (fun o ho => g o (by omega) (by omega) (by omega) (by omega)), IT_of h3 (by rw [g 13 (by omega) (by omega) (by omega) (by omega)]) (f1 _ (by decide)) (g _ (by omega) (by omega) (by omega) (by omega)) (g _ (by omega) (by omega) (by omega) (by omega)), IC_of h4 (fun o a b => g o (by omega) (by omega) (by omega) (by omega)) (g _ (by omega) (by omega) (by omega) (by omega)), IA_of h5 (by rw [g 56 (by omega) (by omega) (by omega) (by omega)]) (by rw [g 56 (by omega) (by omega) (by omega) (by omega)]) (f1 _ (by decide)) (fun o a b => g o (by omega) (by omega) (by omega) (by omega)) (g _ (by omega) (by omega) (by omega) (by omega)), hII, IQ_of h7 (by rw [g 126 (by omega) (by omega) (by omega) (by omega)]) (f1 _ (by decide)) (g _ (by omega) (by omega) (by omega) (by omega)) (g _ (by omega) (by omega) (by omega) (by omega)), IF_of h8 (by rw [g 0 (by omega) (by omega) (by omega) (by omega)]) (f1 _ (by decide)), IU_of h9 (by rw [g 0 (by omega) (by omega) (by omega) (by omega)]) (f1 _ (by decide))⟩
theorem II_at (h : II S) {j : Nat} (hj : j < 2) : IM1 S j := by
  have : j = 0 ∨ j = 1 := by omega
  rcases this with rfl | rfl
  · exact h.1
  · exact h.2
theorem cmpI {j : Nat} (hj : j < 2) : isCamp (36 + 10 * j) ∧ jm_rf 35 j = 36 + 10 * j ∧ 25 ≠ 36 + 10 * j := by
  have : j = 0 ∨ j = 1 := by omega
  rcases this with rfl | rfl
  · exact ⟨isC36, rf35.1, by decide⟩
  · exact ⟨isC46, rf35.2, by decide⟩
theorem p_image {v : Int32} (hI : InvK xs S k) : CL L (d + 9) 109 [.ref 0, .int v] S (Zx xs L (d + 9) 206 [.ref 128, .int v]) := by
  have ht := top_sh L
  have hm := mod_sh L
  have hla := la35 L
  obtain ⟨hX, hM, hG⟩ := hI.2.2.2.1
  have hV := hG.1
  have hM4 : RM 132 (jm_upd S 128 0 (nI 0)) k := RM_of hM (upd_ne (by decide))
  have v0 := hV.1
  by_cases h2 : nI 0 ≤ v ∧ v ≤ nI 1
  · obtain ⟨j, -, hj, rfl⟩ := btw (by decide) h2 (by decide)
    clear h2
    obtain ⟨hc, hrf, hne⟩ := cmpI (show j < 2 by omega)
    have hs := camp_sh hc
    by_cases h : k 0 = 0
    · simp (disch := omega) only [cl109, w109_0, w109_1, w109_2, w109_3, w109_6, w109_7, w109_8, w109_9, w109_12, w109_15, w109_17, w109_18, w109_19, w109_22, w109_25, w109_27, w109_28, w109_29, w109_32, w109_33, w109_34, w109_35, w109_38, w109_41, w109_42, ht, hla, n2sub, ↓neg_vM, ↓neg_vB, ↓neg_vS, ↓neg_vF, ↓neg_vO, ↓neg_vA, ↓neg_vN, lit_nI, nI_leI, nI_ltI, nI_eq, jm_in_nI, nI_clamp, nI_add, n_mul, pk_sub, n_le_t, n_le_f, n_lt_t, n_lt_f, n_eq_t, n_eq_f, true_and, and_true, ne_eq, not_false_eq_true, not_true_eq_false, min_n, max_n, dif_n, n_rem, n_div, or_nI, shl_nI, Option.toList_some, Option.toList_none, List.singleton_append, List.nil_append, if_true, if_false, or_true, true_or, or_false, false_or, and_false, false_and, Bool.false_eq_true, Zx_some, c_withinP, c_noCamp hX hV, h]
      simp (disch := omega) only [w206_0, w206_1, w206_2, w206_5, w206_6, w206_7, w206_8, w206_9, w206_12, w206_15, w206_17, w206_18, w206_19, w206_22, w206_25, w206_27, cl206, hm, ↓neg_vM, ↓neg_vB, ↓neg_vS, ↓neg_vF, ↓neg_vO, ↓neg_vA, ↓neg_vN, lit_nI, nI_leI, nI_ltI, nI_eq, jm_in_nI, nI_clamp, nI_add, n_mul, pk_sub, n_le_t, n_le_f, n_lt_t, n_lt_f, n_eq_t, n_eq_f, true_and, and_true, ne_eq, not_false_eq_true, not_true_eq_false, min_n, max_n, dif_n, n_rem, n_div, or_nI, shl_nI, Option.toList_some, Option.toList_none, List.singleton_append, List.nil_append, if_true, if_false, or_true, true_or, or_false, false_or, and_false, false_and, Bool.false_eq_true, Zm_some, lit_lN, nI_l, r_in, lN_le, r_isThere hM4 v0, h]
      exact ⟨k, InvK_same hI Same_thrown⟩
    · simp (disch := omega) only [cl109, w109_0, w109_1, w109_2, w109_3, w109_6, w109_7, w109_8, w109_9, w109_12, w109_15, w109_17, w109_18, w109_19, w109_22, w109_25, w109_27, w109_28, w109_29, w109_32, w109_33, w109_34, w109_35, w109_38, w109_41, w109_42, ht, hla, n2sub, hrf, hs, ↓neg_vM, ↓neg_vB, ↓neg_vS, ↓neg_vF, ↓neg_vO, ↓neg_vA, ↓neg_vN, lit_nI, nI_leI, nI_ltI, nI_eq, jm_in_nI, nI_clamp, nI_add, n_mul, pk_sub, n_le_t, n_le_f, n_lt_t, n_lt_f, n_eq_t, n_eq_f, true_and, and_true, ne_eq, not_false_eq_true, not_true_eq_false, min_n, max_n, dif_n, n_rem, n_div, or_nI, shl_nI, Option.toList_some, Option.toList_none, List.singleton_append, List.nil_append, if_true, if_false, or_true, true_or, or_false, false_or, and_false, false_and, Bool.false_eq_true, c_withinP, c_noCamp hX hV, h]
      refine c_become hc isC25 (fun q => hne q.symm) hX hV (fun T tX tf => ?_)
      simp (disch := omega) only [cl109, w109_0, w109_1, w109_2, w109_3, w109_6, w109_7, w109_8, w109_9, w109_12, w109_15, w109_17, w109_18, w109_19, w109_22, w109_25, w109_27, w109_28, w109_29, w109_32, w109_33, w109_34, w109_35, w109_38, w109_41, w109_42, ht, ↓neg_vM, ↓neg_vB, ↓neg_vS, ↓neg_vF, ↓neg_vO, ↓neg_vA, ↓neg_vN, lit_nI, nI_leI, nI_ltI, nI_eq, jm_in_nI, nI_clamp, nI_add, n_mul, pk_sub, n_le_t, n_le_f, n_lt_t, n_lt_f, n_eq_t, n_eq_f, true_and, and_true, ne_eq, not_false_eq_true, not_true_eq_false, min_n, max_n, dif_n, n_rem, n_div, or_nI, shl_nI, Option.toList_some, Option.toList_none, List.singleton_append, List.nil_append, if_true, if_false, or_true, true_or, or_false, false_or, and_false, false_and, Bool.false_eq_true, Zx_some]
      have fT : ∀ o, ¬ (36 ≤ o ∧ o ≤ 55) → T o = S o := fun o ho => tf o (by omega)
      have hM5 : RM 132 (jm_upd T 128 0 (nI 0)) k := RM_of hM (by rw [upd_ne (by decide), fT _ (by decide)])
      simp (disch := omega) only [w206_0, w206_1, w206_2, w206_5, w206_6, w206_7, w206_8, w206_9, w206_12, w206_15, w206_17, w206_18, w206_19, w206_22, w206_25, w206_27, w206_28, w206_29, cl206, hm, ↓neg_vM, ↓neg_vB, ↓neg_vS, ↓neg_vF, ↓neg_vO, ↓neg_vA, ↓neg_vN, lit_nI, nI_leI, nI_ltI, nI_eq, jm_in_nI, nI_clamp, nI_add, n_mul, pk_sub, n_le_t, n_le_f, n_lt_t, n_lt_f, n_eq_t, n_eq_f, true_and, and_true, ne_eq, not_false_eq_true, not_true_eq_false, min_n, max_n, dif_n, n_rem, n_div, or_nI, shl_nI, Option.toList_some, Option.toList_none, List.singleton_append, List.nil_append, if_true, if_false, or_true, true_or, or_false, false_or, and_false, false_and, Bool.false_eq_true, lit_lN, nI_l, r_in, lN_le, r_isThere hM5 v0, h]
      have key : ∀ i, i ≤ 34 → ∀ U, (∀ x, x < i → U 142 (34 * j + x) = nI (k x)) → (∀ x, ¬ (34 * j ≤ x ∧ x < 34 * j + 34) → U 142 x = T 142 x) → (∀ o, o ≠ 142 → U o = jm_upd T 128 0 (nI 0) o) → WQ L (d + 9) 206 30 [.ref 128, .int (nI j), .int (nI i)] [] U (Zm xs (nI 1)) := by
        apply down_ind
        · intro U u1 u2 u3
          rw [w206_30]
          simp (disch := omega) only [w206_31, w206_33, w206_36, w206_37, w206_40, w206_42, w206_43, w206_44, w206_45, w206_46, w206_47, w206_50, w206_51, w206_52, w206_53, w206_56, w206_59, w206_60, w206_63, w206_64, w206_65, w206_66, w206_67, hm, ↓neg_vM, ↓neg_vB, ↓neg_vS, ↓neg_vF, ↓neg_vO, ↓neg_vA, ↓neg_vN, lit_nI, nI_leI, nI_ltI, nI_eq, jm_in_nI, nI_clamp, nI_add, n_mul, pk_sub, n_le_t, n_le_f, n_lt_t, n_lt_f, n_eq_t, n_eq_f, true_and, and_true, ne_eq, not_false_eq_true, not_true_eq_false, min_n, max_n, dif_n, n_rem, n_div, or_nI, shl_nI, Option.toList_some, Option.toList_none, List.singleton_append, List.nil_append, if_true, if_false, or_true, true_or, or_false, false_or, and_false, false_and, Bool.false_eq_true, nar1, Zm_some]
          refine ⟨k, InvK_I hI ?_ (fun o h1 h2 h3 h4 => ?_) (fun i hi => ?_)⟩
          · have mine : IM1 (jm_upd U 141 j (nI 1)) j := by
              refine ⟨k, hG, RX_of tX (fun o h1 h2 => by rw [upd_ne (by omega), u3 o (by omega), upd_ne (by omega)]), Or.inr ⟨by omega, ?_, fun i hi => ?_⟩⟩
              · simp (disch := omega) only [upd_at, row_at, n_eq_f, n_eq_t, and_true, true_and, and_false, false_and, and_self, if_true, if_false,  ]
              · rw [upd_ne (by decide)]; exact u1 i hi
            have other : ∀ j', j' < 2 → j' ≠ j → IM1 (jm_upd U 141 j (nI 1)) j' := fun j' hj' hjj => by
              obtain ⟨k2, a1, a2, a3⟩ := II_at hI.2.2.2.2.2.1 hj'
              refine ⟨k2, a1, RX_of a2 (fun o h1 h2 => by rw [upd_ne (by omega), u3 o (by omega), upd_ne (by omega), tf o (by omega)]), ?_⟩
              have e1 : jm_upd U 141 j (nI 1) 141 j' = S 141 j' := by rw [upd_at, if_neg (fun q => hjj q.2), u3 _ (by decide), upd_ne (by decide), fT _ (by decide)]
              have e2 : ∀ i, i < 34 → jm_upd U 141 j (nI 1) 142 (34 * j' + i) = S 142 (34 * j' + i) := fun i hi => by rw [upd_ne (by decide), u2 _ (by omega), fT _ (by decide)]
              rw [e1]
              rcases a3 with a3 | ⟨b1, b2, b3⟩
              · exact Or.inl a3
              · exact Or.inr ⟨b1, b2, fun i hi => by rw [e2 i hi]; exact b3 i hi⟩
            have hj2 : j = 0 ∨ j = 1 := by omega
            rcases hj2 with rfl | rfl
            · exact ⟨mine, other 1 (by decide) (by decide)⟩
            · exact ⟨other 0 (by decide) (by decide), mine⟩
          · rw [upd_ne h3, u3 o h4, upd_ne h2, fT o h1]
          · rw [upd_ne (by decide), u3 _ (by decide), upd_at, if_neg (fun q => hi q.2), fT _ (by decide)]
        · intro i hi ih U u1 u2 u3
          have e : U 132 i = nI (k i) := by rw [u3 132 (by decide)]; exact hM5 i hi
          rw [w206_30]
          simp (disch := omega) only [w206_31, w206_33, w206_36, w206_37, w206_40, w206_42, w206_43, w206_44, w206_45, w206_46, w206_47, w206_50, w206_51, w206_52, w206_53, w206_56, hm, ↓neg_vM, ↓neg_vB, ↓neg_vS, ↓neg_vF, ↓neg_vO, ↓neg_vA, ↓neg_vN, lit_nI, nI_leI, nI_ltI, nI_eq, jm_in_nI, nI_clamp, nI_add, n_mul, pk_sub, n_le_t, n_le_f, n_lt_t, n_lt_f, n_eq_t, n_eq_f, true_and, and_true, ne_eq, not_false_eq_true, not_true_eq_false, min_n, max_n, dif_n, n_rem, n_div, or_nI, shl_nI, Option.toList_some, Option.toList_none, List.singleton_append, List.nil_append, if_true, if_false, or_true, true_or, or_false, false_or, and_false, false_and, Bool.false_eq_true, e]
          refine ih _ (fun x hx => ?_) (fun x hx => ?_) (fun o h1 => ?_)
          · by_cases hxi : x = i
            · subst hxi
              simp (disch := omega) only [upd_at, row_at, n_eq_f, n_eq_t, and_true, true_and, and_false, false_and, and_self, if_true, if_false,  ]
            · rw [upd_at, if_neg (by omega)]; exact u1 x (by omega)
          · rw [upd_at, if_neg (by omega)]; exact u2 x hx
          · rw [upd_ne h1]; exact u3 o h1
      exact key 0 (Nat.zero_le _) _ (fun x hx => absurd hx (Nat.not_lt_zero _)) (fun x _ => by rw [upd_ne (by decide)]) (fun o _ => rfl)
  · simp (disch := omega) only [w109_0, w109_1, w109_2, w109_3, w109_6, w109_7, w109_8, w109_9, w109_12, w109_15, w109_17, cl109, ht, hla, n2sub, ↓neg_vM, ↓neg_vB, ↓neg_vS, ↓neg_vF, ↓neg_vO, ↓neg_vA, ↓neg_vN, lit_nI, nI_leI, nI_ltI, nI_eq, jm_in_nI, nI_clamp, nI_add, n_mul, pk_sub, n_le_t, n_le_f, n_lt_t, n_lt_f, n_eq_t, n_eq_f, true_and, and_true, ne_eq, not_false_eq_true, not_true_eq_false, min_n, max_n, dif_n, n_rem, n_div, or_nI, shl_nI, Option.toList_some, Option.toList_none, List.singleton_append, List.nil_append, if_true, if_false, or_true, true_or, or_false, false_or, and_false, false_and, Bool.false_eq_true, Zx_some, c_withinP, h2]
    simp (disch := omega) only [w206_0, w206_1, w206_2, w206_5, w206_6, w206_7, w206_8, w206_9, w206_12, w206_15, w206_17, cl206, hm, ↓neg_vM, ↓neg_vB, ↓neg_vS, ↓neg_vF, ↓neg_vO, ↓neg_vA, ↓neg_vN, lit_nI, nI_leI, nI_ltI, nI_eq, jm_in_nI, nI_clamp, nI_add, n_mul, pk_sub, n_le_t, n_le_f, n_lt_t, n_lt_f, n_eq_t, n_eq_f, true_and, and_true, ne_eq, not_false_eq_true, not_true_eq_false, min_n, max_n, dif_n, n_rem, n_div, or_nI, shl_nI, Option.toList_some, Option.toList_none, List.singleton_append, List.nil_append, if_true, if_false, or_true, true_or, or_false, false_or, and_false, false_and, Bool.false_eq_true, Zm_some, lit_lN, r_in, lx_le, xl_le, h2]
    exact ⟨k, InvK_same hI Same_thrown⟩
theorem p_restore {v : Int32} (hI : InvK xs S k) : CL L (d + 9) 110 [.ref 0, .int v] S (Zx xs L (d + 9) 207 [.ref 128, .int v]) := by
  have ht := top_sh L
  have hm := mod_sh L
  have hla := la35 L
  by_cases h2 : nI 0 ≤ v ∧ v ≤ nI 1
  · obtain ⟨j, -, hj, rfl⟩ := btw (by decide) h2 (by decide)
    clear h2
    obtain ⟨hc, hrf, hne⟩ := cmpI (show j < 2 by omega)
    have hs := camp_sh hc
    obtain ⟨k2, hG, hX, hK⟩ := II_at hI.2.2.2.2.2.1 (show j < 2 by omega)
    have hV := hG.1
    rcases hK with ⟨h0, e0⟩ | ⟨h0, e0, e1⟩
    · simp (disch := omega) only [cl110, w110_0, w110_1, w110_2, w110_3, w110_6, w110_7, w110_8, w110_9, w110_12, w110_15, w110_17, w110_18, w110_19, w110_22, w110_23, w110_24, w110_27, w110_30, w110_32, w110_33, w110_34, w110_37, w110_38, w110_41, w110_42, w110_43, w110_46, w110_47, w110_50, w110_53, w110_54, ht, hla, n2sub, hrf, hs, ↓neg_vM, ↓neg_vB, ↓neg_vS, ↓neg_vF, ↓neg_vO, ↓neg_vA, ↓neg_vN, lit_nI, nI_leI, nI_ltI, nI_eq, jm_in_nI, nI_clamp, nI_add, n_mul, pk_sub, n_le_t, n_le_f, n_lt_t, n_lt_f, n_eq_t, n_eq_f, true_and, and_true, ne_eq, not_false_eq_true, not_true_eq_false, min_n, max_n, dif_n, n_rem, n_div, or_nI, shl_nI, Option.toList_some, Option.toList_none, List.singleton_append, List.nil_append, if_true, if_false, or_true, true_or, or_false, false_or, and_false, false_and, Bool.false_eq_true, Zx_some, c_withinP, c_isNone hc hX hV, h0]
      simp (disch := omega) only [w207_0, w207_1, w207_2, w207_5, w207_6, w207_7, w207_8, w207_9, w207_12, w207_15, w207_17, w207_18, w207_19, w207_22, w207_23, w207_24, w207_27, w207_29, cl207, hm, ↓neg_vM, ↓neg_vB, ↓neg_vS, ↓neg_vF, ↓neg_vO, ↓neg_vA, ↓neg_vN, lit_nI, nI_leI, nI_ltI, nI_eq, jm_in_nI, nI_clamp, nI_add, n_mul, pk_sub, n_le_t, n_le_f, n_lt_t, n_lt_f, n_eq_t, n_eq_f, true_and, and_true, ne_eq, not_false_eq_true, not_true_eq_false, min_n, max_n, dif_n, n_rem, n_div, or_nI, shl_nI, Option.toList_some, Option.toList_none, List.singleton_append, List.nil_append, if_true, if_false, or_true, true_or, or_false, false_or, and_false, false_and, Bool.false_eq_true, Zm_some, lit_lN, nI_l, r_in, lN_le, upd_ne, e0]
      exact ⟨k, InvK_same hI Same_thrown⟩
    · have h0' : ¬ k2 0 = 0 := by omega
      simp (disch := omega) only [cl110, w110_0, w110_1, w110_2, w110_3, w110_6, w110_7, w110_8, w110_9, w110_12, w110_15, w110_17, w110_18, w110_19, w110_22, w110_23, w110_24, w110_27, w110_30, w110_32, w110_33, w110_34, w110_37, w110_38, w110_41, w110_42, w110_43, w110_46, w110_47, w110_50, w110_53, w110_54, ht, hla, n2sub, hrf, hs, ↓neg_vM, ↓neg_vB, ↓neg_vS, ↓neg_vF, ↓neg_vO, ↓neg_vA, ↓neg_vN, lit_nI, nI_leI, nI_ltI, nI_eq, jm_in_nI, nI_clamp, nI_add, n_mul, pk_sub, n_le_t, n_le_f, n_lt_t, n_lt_f, n_eq_t, n_eq_f, true_and, and_true, ne_eq, not_false_eq_true, not_true_eq_false, min_n, max_n, dif_n, n_rem, n_div, or_nI, shl_nI, Option.toList_some, Option.toList_none, List.singleton_append, List.nil_append, if_true, if_false, or_true, true_or, or_false, false_or, and_false, false_and, Bool.false_eq_true, c_withinP, c_isNone hc hX hV, h0']
      refine c_become isC25 hc hne hX hV (fun T tX tf => ?_)
      simp (disch := omega) only [cl110, w110_0, w110_1, w110_2, w110_3, w110_6, w110_7, w110_8, w110_9, w110_12, w110_15, w110_17, w110_18, w110_19, w110_22, w110_23, w110_24, w110_27, w110_30, w110_32, w110_33, w110_34, w110_37, w110_38, w110_41, w110_42, w110_43, w110_46, w110_47, w110_50, w110_53, w110_54, cl1, w1_0, w1_1, w1_2, w1_5, w1_6, w1_7, w1_10, ht, ↓neg_vM, ↓neg_vB, ↓neg_vS, ↓neg_vF, ↓neg_vO, ↓neg_vA, ↓neg_vN, lit_nI, nI_leI, nI_ltI, nI_eq, jm_in_nI, nI_clamp, nI_add, n_mul, pk_sub, n_le_t, n_le_f, n_lt_t, n_lt_f, n_eq_t, n_eq_f, true_and, and_true, ne_eq, not_false_eq_true, not_true_eq_false, min_n, max_n, dif_n, n_rem, n_div, or_nI, shl_nI, Option.toList_some, Option.toList_none, List.singleton_append, List.nil_append, if_true, if_false, or_true, true_or, or_false, false_or, and_false, false_and, Bool.false_eq_true, Zx_some]
      have fT : ∀ o, ¬ (25 ≤ o ∧ o ≤ 34) → T o = S o := fun o ho => tf o (by omega)
      have e5 : jm_upd (jm_upd (jm_upd T 56 1 (nI 0)) 56 2 (nI 0)) 128 0 (nI 0) 141 j = nI 1 := by rw [upd_ne (by decide), upd_ne (by decide), upd_ne (by decide), fT _ (by decide)]; exact e0
      simp (disch := omega) only [w207_0, w207_1, w207_2, w207_5, w207_6, w207_7, w207_8, w207_9, w207_12, w207_15, w207_17, w207_18, w207_19, w207_22, w207_23, w207_24, w207_27, w207_29, w207_30, w207_31, cl207, hm, ↓neg_vM, ↓neg_vB, ↓neg_vS, ↓neg_vF, ↓neg_vO, ↓neg_vA, ↓neg_vN, lit_nI, nI_leI, nI_ltI, nI_eq, jm_in_nI, nI_clamp, nI_add, n_mul, pk_sub, n_le_t, n_le_f, n_lt_t, n_lt_f, n_eq_t, n_eq_f, true_and, and_true, ne_eq, not_false_eq_true, not_true_eq_false, min_n, max_n, dif_n, n_rem, n_div, or_nI, shl_nI, Option.toList_some, Option.toList_none, List.singleton_append, List.nil_append, if_true, if_false, or_true, true_or, or_false, false_or, and_false, false_and, Bool.false_eq_true, lit_lN, nI_l, r_in, lN_le, e5]
      have key : ∀ i, i ≤ 34 → ∀ U, (∀ x, x < i → U 132 x = nI (k2 x)) → (∀ o, o ≠ 132 → U o = jm_upd (jm_upd (jm_upd T 56 1 (nI 0)) 56 2 (nI 0)) 128 0 (nI 0) o) → WQ L (d + 9) 207 32 [.ref 128, .int (nI j), .int (nI i)] [] U (Zm xs (nI 1)) := by
        apply down_ind
        · intro U u1 u3
          rw [w207_32]
          simp (disch := omega) only [w207_33, w207_35, w207_38, w207_39, w207_42, w207_43, w207_44, w207_47, w207_49, w207_50, w207_51, w207_52, w207_53, w207_54, w207_55, w207_58, w207_61, w207_62, w207_63, w207_66, w207_67, hm, ↓neg_vM, ↓neg_vB, ↓neg_vS, ↓neg_vF, ↓neg_vO, ↓neg_vA, ↓neg_vN, lit_nI, nI_leI, nI_ltI, nI_eq, jm_in_nI, nI_clamp, nI_add, n_mul, pk_sub, n_le_t, n_le_f, n_lt_t, n_lt_f, n_eq_t, n_eq_f, true_and, and_true, ne_eq, not_false_eq_true, not_true_eq_false, min_n, max_n, dif_n, n_rem, n_div, or_nI, shl_nI, Option.toList_some, Option.toList_none, List.singleton_append, List.nil_append, if_true, if_false, or_true, true_or, or_false, false_or, and_false, false_and, Bool.false_eq_true, Zm_some]
          refine ⟨k2, InvK_A (n := 0) (nx := 0) (g := fun _ => k2) hI (RX_of tX (fun o h1 h2 => ?_)) (fun x hx => ?_) hG (by decide) ⟨?_, ?_, fun q hq => absurd hq (Nat.not_lt_zero _)⟩ ⟨?_, fun q hq => absurd hq (Nat.not_lt_zero _)⟩ ⟨by decide, fun q hq => absurd hq (Nat.not_lt_zero _)⟩ (fun o ho => ?_) (fun i hi => ?_)⟩
          · rw [upd_ne (by omega), u3 o (by omega), upd_ne (by omega), upd_ne (by omega), upd_ne (by omega)]
          · rw [upd_ne (by decide)]; exact u1 x hx
          · rw [upd_ne (by decide), u3 _ (by decide), upd_ne (by decide)]
            simp (disch := omega) only [upd_at, row_at, n_eq_f, n_eq_t, and_true, true_and, and_false, false_and, and_self, if_true, if_false,  ]
          · rw [upd_ne (by decide), u3 _ (by decide), upd_ne (by decide)]
            simp (disch := omega) only [upd_at, row_at, n_eq_f, n_eq_t, and_true, true_and, and_false, false_and, and_self, if_true, if_false,  ]
          · simp (disch := omega) only [upd_at, row_at, n_eq_f, n_eq_t, and_true, true_and, and_false, false_and, and_self, if_true, if_false,  ]
          · rw [upd_ne (by omega), u3 o (by omega), upd_ne (by omega), upd_ne (by omega), upd_ne (by omega), fT o (by omega)]
          · rw [upd_at, if_neg (by omega), u3 _ (by decide), upd_at, if_neg (by omega), upd_ne (by decide), upd_ne (by decide), fT _ (by decide)]
        · intro i hi ih U u1 u3
          have e : U 142 (34 * j + i) = nI (k2 i) := by
            rw [u3 142 (by decide), upd_ne (by decide), upd_ne (by decide), upd_ne (by decide), fT _ (by decide)]
            exact e1 i hi
          rw [w207_32]
          simp (disch := omega) only [w207_33, w207_35, w207_38, w207_39, w207_42, w207_43, w207_44, w207_47, w207_49, w207_50, w207_51, w207_52, w207_53, w207_54, w207_55, w207_58, hm, ↓neg_vM, ↓neg_vB, ↓neg_vS, ↓neg_vF, ↓neg_vO, ↓neg_vA, ↓neg_vN, lit_nI, nI_leI, nI_ltI, nI_eq, jm_in_nI, nI_clamp, nI_add, n_mul, pk_sub, n_le_t, n_le_f, n_lt_t, n_lt_f, n_eq_t, n_eq_f, true_and, and_true, ne_eq, not_false_eq_true, not_true_eq_false, min_n, max_n, dif_n, n_rem, n_div, or_nI, shl_nI, Option.toList_some, Option.toList_none, List.singleton_append, List.nil_append, if_true, if_false, or_true, true_or, or_false, false_or, and_false, false_and, Bool.false_eq_true, e]
          refine ih _ (fun x hx => ?_) (fun o h1 => ?_)
          · by_cases hxi : x = i
            · subst hxi
              simp (disch := omega) only [upd_at, row_at, n_eq_f, n_eq_t, and_true, true_and, and_false, false_and, and_self, if_true, if_false,  ]
            · rw [upd_at, if_neg (by omega)]; exact u1 x (by omega)
          · rw [upd_ne h1]; exact u3 o h1
      exact key 0 (Nat.zero_le _) _ (fun x hx => absurd hx (Nat.not_lt_zero _)) (fun o _ => rfl)
  · simp (disch := omega) only [w110_0, w110_1, w110_2, w110_3, w110_6, w110_7, w110_8, w110_9, w110_12, w110_15, w110_17, cl110, ht, hla, n2sub, ↓neg_vM, ↓neg_vB, ↓neg_vS, ↓neg_vF, ↓neg_vO, ↓neg_vA, ↓neg_vN, lit_nI, nI_leI, nI_ltI, nI_eq, jm_in_nI, nI_clamp, nI_add, n_mul, pk_sub, n_le_t, n_le_f, n_lt_t, n_lt_f, n_eq_t, n_eq_f, true_and, and_true, ne_eq, not_false_eq_true, not_true_eq_false, min_n, max_n, dif_n, n_rem, n_div, or_nI, shl_nI, Option.toList_some, Option.toList_none, List.singleton_append, List.nil_append, if_true, if_false, or_true, true_or, or_false, false_or, and_false, false_and, Bool.false_eq_true, Zx_some, c_withinP, h2]
    simp (disch := omega) only [w207_0, w207_1, w207_2, w207_5, w207_6, w207_7, w207_8, w207_9, w207_12, w207_15, w207_17, cl207, hm, ↓neg_vM, ↓neg_vB, ↓neg_vS, ↓neg_vF, ↓neg_vO, ↓neg_vA, ↓neg_vN, lit_nI, nI_leI, nI_ltI, nI_eq, jm_in_nI, nI_clamp, nI_add, n_mul, pk_sub, n_le_t, n_le_f, n_lt_t, n_lt_f, n_eq_t, n_eq_f, true_and, and_true, ne_eq, not_false_eq_true, not_true_eq_false, min_n, max_n, dif_n, n_rem, n_div, or_nI, shl_nI, Option.toList_some, Option.toList_none, List.singleton_append, List.nil_append, if_true, if_false, or_true, true_or, or_false, false_or, and_false, false_and, Bool.false_eq_true, Zm_some, lit_lN, r_in, lx_le, xl_le, h2]
    exact ⟨k, InvK_same hI Same_thrown⟩
end
