section
variable {L d : Nat} {S : jm_I2} {Z : Option Value → jm_I2 → Prop}
theorem r_holding {a : Nat} {k : kT} (ha : isRA a) (hM : RM a S k) (hV : KV k) : CL L (d + 1) 168 [.ref a] S Z ↔ Z (some (.int (nI (bset (kHd k) (k 0))))) S := by
  have hs := ra_sh L ha
  have e0 := hM 0 (by decide)
  have v0 := hV.1
  have key : ∀ i, i ≤ k 0 → (WQ L (d + 1) 168 4 [.ref a, .int (nI (bset (kHd k) i)), .int (nI i)] [] S Z ↔ Z (some (.int (nI (bset (kHd k) (k 0))))) S) := by
    apply down_ind
    · rw [w168_4]
      simp (disch := omega) only [w168_5, w168_6, w168_7, w168_8, w168_11, w168_12, w168_13, w168_14, w168_15, w168_18, w168_21, w168_22, w168_23, w168_24, w168_27, w168_28, w168_29, w168_30, w168_33, w168_36, w168_37, hs, ↓neg_vN, lit_nI, nI_leI, nI_ltI, nI_eq, jm_in_nI, nI_clamp, nI_add, n_mul, pk_sub, n_le_t, n_le_f, n_lt_t, n_lt_f, n_eq_t, n_eq_f, true_and, and_true, ne_eq, not_false_eq_true, not_true_eq_false, min_n, max_n, dif_n, n_rem, n_div, or_nI, shl_nI, Option.toList_some, Option.toList_none, List.singleton_append, List.nil_append, if_true, if_false, or_true, true_or, or_false, false_or, and_false, false_and, Bool.false_eq_true, e0]
    · intro i hi ih
      obtain ⟨b1, b2, b3, b4, b5, b6⟩ := hV.2.2.2.2.2 i hi
      rw [← ih, w168_4]
      by_cases hP : 0 < kBt k i
      · rw [bset_T (p := kHd k) (by simp [kHd, hP])]
        simp (disch := omega) only [w168_5, w168_6, w168_7, w168_8, w168_11, w168_12, w168_13, w168_14, w168_15, w168_18, w168_21, w168_22, w168_23, w168_24, w168_27, w168_28, w168_29, w168_30, w168_33, w168_36, w168_37, hs, ↓neg_vN, lit_nI, nI_leI, nI_ltI, nI_eq, jm_in_nI, nI_clamp, nI_add, n_mul, pk_sub, n_le_t, n_le_f, n_lt_t, n_lt_f, n_eq_t, n_eq_f, true_and, and_true, ne_eq, not_false_eq_true, not_true_eq_false, min_n, max_n, dif_n, n_rem, n_div, or_nI, shl_nI, Option.toList_some, Option.toList_none, List.singleton_append, List.nil_append, if_true, if_false, or_true, true_or, or_false, false_or, and_false, false_and, Bool.false_eq_true, e0, r_of1 ha hM]
      · rw [bset_F (p := kHd k) (by simp [kHd, hP])]
        simp (disch := omega) only [w168_5, w168_6, w168_7, w168_8, w168_11, w168_12, w168_13, w168_14, w168_15, w168_18, w168_21, w168_22, w168_23, w168_24, w168_27, w168_28, w168_29, w168_30, w168_33, w168_36, w168_37, hs, ↓neg_vN, lit_nI, nI_leI, nI_ltI, nI_eq, jm_in_nI, nI_clamp, nI_add, n_mul, pk_sub, n_le_t, n_le_f, n_lt_t, n_lt_f, n_eq_t, n_eq_f, true_and, and_true, ne_eq, not_false_eq_true, not_true_eq_false, min_n, max_n, dif_n, n_rem, n_div, or_nI, shl_nI, Option.toList_some, Option.toList_none, List.singleton_append, List.nil_append, if_true, if_false, or_true, true_or, or_false, false_or, and_false, false_and, Bool.false_eq_true, e0, r_of1 ha hM]
  simp (disch := omega) only [cl168, w168_0, w168_1, w168_2, w168_3, ↓neg_vN, lit_nI, nI_leI, nI_ltI, nI_eq, jm_in_nI, nI_clamp, nI_add, n_mul, pk_sub, n_le_t, n_le_f, n_lt_t, n_lt_f, n_eq_t, n_eq_f, true_and, and_true, ne_eq, not_false_eq_true, not_true_eq_false, min_n, max_n, dif_n, n_rem, n_div, or_nI, shl_nI, Option.toList_some, Option.toList_none, List.singleton_append, List.nil_append, if_true, if_false, or_true, true_or, or_false, false_or, and_false, false_and, Bool.false_eq_true]
  exact key 0 (Nat.zero_le _)
theorem r_barredBy {a : Nat} {k : kT} (ha : isRA a) (hM : RM a S k) (hV : KV k) : CL L (d + 1) 169 [.ref a] S Z ↔ Z (some (.int (nI (orB k (bset (kHd k) (k 0)) (k 0))))) S := by
  have hs := ra_sh L ha
  have e0 := hM 0 (by decide)
  have v0 := hV.1
  have key : ∀ i, i ≤ k 0 → (WQ L (d + 1) 169 4 [.ref a, .int (nI (orB k (bset (kHd k) (k 0)) i)), .int (nI i)] [] S Z ↔ Z (some (.int (nI (orB k (bset (kHd k) (k 0)) (k 0))))) S) := by
    apply down_ind
    · rw [w169_4]
      simp (disch := omega) only [w169_5, w169_6, w169_7, w169_8, w169_11, w169_12, w169_13, w169_14, w169_15, w169_18, w169_21, w169_22, w169_23, w169_24, w169_27, w169_30, w169_31, w169_32, w169_33, w169_36, w169_39, w169_40, hs, ↓neg_vN, lit_nI, nI_leI, nI_ltI, nI_eq, jm_in_nI, nI_clamp, nI_add, n_mul, pk_sub, n_le_t, n_le_f, n_lt_t, n_lt_f, n_eq_t, n_eq_f, true_and, and_true, ne_eq, not_false_eq_true, not_true_eq_false, min_n, max_n, dif_n, n_rem, n_div, or_nI, shl_nI, Option.toList_some, Option.toList_none, List.singleton_append, List.nil_append, if_true, if_false, or_true, true_or, or_false, false_or, and_false, false_and, Bool.false_eq_true, e0]
    · intro i hi ih
      obtain ⟨b1, b2, b3, b4, b5, b6⟩ := hV.2.2.2.2.2 i hi
      rw [← ih, w169_4, orB, bset_bit]
      by_cases hP : 0 < kBt k i
      · have e : kHd k i = true := by simp [kHd, hP]
        simp (disch := omega) only [w169_5, w169_6, w169_7, w169_8, w169_11, w169_12, w169_13, w169_14, w169_15, w169_18, w169_21, w169_22, w169_23, w169_24, w169_27, w169_30, w169_31, w169_32, w169_33, w169_36, w169_39, w169_40, hs, ↓neg_vN, lit_nI, nI_leI, nI_ltI, nI_eq, jm_in_nI, nI_clamp, nI_add, n_mul, pk_sub, n_le_t, n_le_f, n_lt_t, n_lt_f, n_eq_t, n_eq_f, true_and, and_true, ne_eq, not_false_eq_true, not_true_eq_false, min_n, max_n, dif_n, n_rem, n_div, or_nI, shl_nI, Option.toList_some, Option.toList_none, List.singleton_append, List.nil_append, if_true, if_false, or_true, true_or, or_false, false_or, and_false, false_and, Bool.false_eq_true, e0, r_of1 ha hM, r_of3 ha hM, e, decide_true, Bool.and_self]
      · have e : kHd k i = false := by simp [kHd, hP]
        simp (disch := omega) only [w169_5, w169_6, w169_7, w169_8, w169_11, w169_12, w169_13, w169_14, w169_15, w169_18, w169_21, w169_22, w169_23, w169_24, w169_27, w169_30, w169_31, w169_32, w169_33, w169_36, w169_39, w169_40, hs, ↓neg_vN, lit_nI, nI_leI, nI_ltI, nI_eq, jm_in_nI, nI_clamp, nI_add, n_mul, pk_sub, n_le_t, n_le_f, n_lt_t, n_lt_f, n_eq_t, n_eq_f, true_and, and_true, ne_eq, not_false_eq_true, not_true_eq_false, min_n, max_n, dif_n, n_rem, n_div, or_nI, shl_nI, Option.toList_some, Option.toList_none, List.singleton_append, List.nil_append, if_true, if_false, or_true, true_or, or_false, false_or, and_false, false_and, Bool.false_eq_true, e0, r_of1 ha hM, r_of3 ha hM, e, decide_true, Bool.and_false]
  simp (disch := omega) only [cl169, w169_0, w169_1, w169_2, w169_3, ↓neg_vN, lit_nI, nI_leI, nI_ltI, nI_eq, jm_in_nI, nI_clamp, nI_add, n_mul, pk_sub, n_le_t, n_le_f, n_lt_t, n_lt_f, n_eq_t, n_eq_f, true_and, and_true, ne_eq, not_false_eq_true, not_true_eq_false, min_n, max_n, dif_n, n_rem, n_div, or_nI, shl_nI, Option.toList_some, Option.toList_none, List.singleton_append, List.nil_append, if_true, if_false, or_true, true_or, or_false, false_or, and_false, false_and, Bool.false_eq_true]
  exact key 0 (Nat.zero_le _)
theorem r_allBeat {a : Nat} {k : kT} (ha : isRA a) (hM : RM a S k) (hV : KV k) : CL L (d + 1) 170 [.ref a] S Z ↔ Z (some (.int (nI (sumB k (k 0))))) S := by
  have hs := ra_sh L ha
  have e0 := hM 0 (by decide)
  have v0 := hV.1
  have key : ∀ i, i ≤ k 0 → (WQ L (d + 1) 170 4 [.ref a, .int (nI (sumB k i)), .int (nI i)] [] S Z ↔ Z (some (.int (nI (sumB k (k 0))))) S) := by
    apply down_ind
    · rw [w170_4]
      simp (disch := omega) only [w170_5, w170_6, w170_7, w170_8, w170_11, w170_12, w170_13, w170_14, w170_15, w170_18, w170_19, w170_20, w170_23, w170_26, w170_27, hs, ↓neg_vN, lit_nI, nI_leI, nI_ltI, nI_eq, jm_in_nI, nI_clamp, nI_add, n_mul, pk_sub, n_le_t, n_le_f, n_lt_t, n_lt_f, n_eq_t, n_eq_f, true_and, and_true, ne_eq, not_false_eq_true, not_true_eq_false, min_n, max_n, dif_n, n_rem, n_div, or_nI, shl_nI, Option.toList_some, Option.toList_none, List.singleton_append, List.nil_append, if_true, if_false, or_true, true_or, or_false, false_or, and_false, false_and, Bool.false_eq_true, e0]
    · intro i hi ih
      rw [← ih, w170_4, sumB]
      simp (disch := omega) only [w170_5, w170_6, w170_7, w170_8, w170_11, w170_12, w170_13, w170_14, w170_15, w170_18, w170_19, w170_20, w170_23, w170_26, w170_27, hs, ↓neg_vN, lit_nI, nI_leI, nI_ltI, nI_eq, jm_in_nI, nI_clamp, nI_add, n_mul, pk_sub, n_le_t, n_le_f, n_lt_t, n_lt_f, n_eq_t, n_eq_f, true_and, and_true, ne_eq, not_false_eq_true, not_true_eq_false, min_n, max_n, dif_n, n_rem, n_div, or_nI, shl_nI, Option.toList_some, Option.toList_none, List.singleton_append, List.nil_append, if_true, if_false, or_true, true_or, or_false, false_or, and_false, false_and, Bool.false_eq_true, e0, r_of1 ha hM]
  simp (disch := omega) only [cl170, w170_0, w170_1, w170_2, w170_3, ↓neg_vN, lit_nI, nI_leI, nI_ltI, nI_eq, jm_in_nI, nI_clamp, nI_add, n_mul, pk_sub, n_le_t, n_le_f, n_lt_t, n_lt_f, n_eq_t, n_eq_f, true_and, and_true, ne_eq, not_false_eq_true, not_true_eq_false, min_n, max_n, dif_n, n_rem, n_div, or_nI, shl_nI, Option.toList_some, Option.toList_none, List.singleton_append, List.nil_append, if_true, if_false, or_true, true_or, or_false, false_or, and_false, false_and, Bool.false_eq_true]
  exact key 0 (Nat.zero_le _)
theorem r_allStrength {a : Nat} {k : kT} (ha : isRA a) (hM : RM a S k) (hV : KV k) : CL L (d + 1) 171 [.ref a] S Z ↔ Z (some (.int (nI (sumS k (k 1))))) S := by
  have hs := ra_sh L ha
  have e0 := hM 1 (by decide)
  have v0 := hV.2.1
  have key : ∀ i, i ≤ k 1 → (WQ L (d + 1) 171 4 [.ref a, .int (nI (sumS k i)), .int (nI i)] [] S Z ↔ Z (some (.int (nI (sumS k (k 1))))) S) := by
    apply down_ind
    · rw [w171_4]
      simp (disch := omega) only [w171_5, w171_6, w171_7, w171_8, w171_11, w171_12, w171_13, w171_14, w171_17, w171_18, w171_19, w171_22, w171_25, w171_26, hs, ↓neg_vN, lit_nI, nI_leI, nI_ltI, nI_eq, jm_in_nI, nI_clamp, nI_add, n_mul, pk_sub, n_le_t, n_le_f, n_lt_t, n_lt_f, n_eq_t, n_eq_f, true_and, and_true, ne_eq, not_false_eq_true, not_true_eq_false, min_n, max_n, dif_n, n_rem, n_div, or_nI, shl_nI, Option.toList_some, Option.toList_none, List.singleton_append, List.nil_append, if_true, if_false, or_true, true_or, or_false, false_or, and_false, false_and, Bool.false_eq_true, e0]
    · intro i hi ih
      rw [← ih, w171_4, sumS]
      simp (disch := omega) only [w171_5, w171_6, w171_7, w171_8, w171_11, w171_12, w171_13, w171_14, w171_17, w171_18, w171_19, w171_22, w171_25, w171_26, hs, ↓neg_vN, lit_nI, nI_leI, nI_ltI, nI_eq, jm_in_nI, nI_clamp, nI_add, n_mul, pk_sub, n_le_t, n_le_f, n_lt_t, n_lt_f, n_eq_t, n_eq_f, true_and, and_true, ne_eq, not_false_eq_true, not_true_eq_false, min_n, max_n, dif_n, n_rem, n_div, or_nI, shl_nI, Option.toList_some, Option.toList_none, List.singleton_append, List.nil_append, if_true, if_false, or_true, true_or, or_false, false_or, and_false, false_and, Bool.false_eq_true, e0, r_strength ha hM]
  simp (disch := omega) only [cl171, w171_0, w171_1, w171_2, w171_3, ↓neg_vN, lit_nI, nI_leI, nI_ltI, nI_eq, jm_in_nI, nI_clamp, nI_add, n_mul, pk_sub, n_le_t, n_le_f, n_lt_t, n_lt_f, n_eq_t, n_eq_f, true_and, and_true, ne_eq, not_false_eq_true, not_true_eq_false, min_n, max_n, dif_n, n_rem, n_div, or_nI, shl_nI, Option.toList_some, Option.toList_none, List.singleton_append, List.nil_append, if_true, if_false, or_true, true_or, or_false, false_or, and_false, false_and, Bool.false_eq_true]
  exact key 0 (Nat.zero_le _)
/-! the reference's hour -/
theorem rh_gain {a r : Nat} {k : kT} {S : jm_I2} (ha : isRA a) (hM : RM a S k) (hV : KV k) (hr : r < k 0) : ∀ i, i ≤ k 1 → (WQ L (d + 4) 166 19 [.ref 128, .ref a, .int (nI r), .int (nI (kBt k r + kGn k r i)), .int (nI i)] [] S Z ↔ WQ L (d + 4) 166 66 [.ref 128, .ref a, .int (nI r), .int (nI (kBt k r + kGn k r (k 1))), .int (nI (k 1))] [] S Z) := by
  have hs := ra_sh L ha
  have e1 := hM 1 (by decide)
  have v1 := hV.2.1
  apply down_ind
  · rw [w166_19]
    simp (disch := omega) only [w166_21, w166_22, w166_23, w166_24, w166_27, w166_28, w166_29, w166_30, w166_32, w166_35, w166_38, w166_39, w166_42, w166_43, w166_45, w166_48, w166_50, w166_53, w166_54, w166_57, w166_58, w166_59, w166_60, w166_63, hs, ↓neg_vN, lit_nI, nI_leI, nI_ltI, nI_eq, jm_in_nI, nI_clamp, nI_add, n_mul, pk_sub, n_le_t, n_le_f, n_lt_t, n_lt_f, n_eq_t, n_eq_f, true_and, and_true, ne_eq, not_false_eq_true, not_true_eq_false, min_n, max_n, dif_n, n_rem, n_div, or_nI, shl_nI, Option.toList_some, Option.toList_none, List.singleton_append, List.nil_append, if_true, if_false, or_true, true_or, or_false, false_or, and_false, false_and, Bool.false_eq_true, e1]
  · intro i hi ih
    obtain ⟨w1, w2⟩ := hV.2.2.2.2.1 i hi
    rw [← ih, w166_19, kGn, kWt, ← Nat.add_assoc]
    by_cases hP : kPd k r i = true
    · by_cases hQ : 10 ≤ kSt k i
      · simp (disch := omega) only [w166_21, w166_22, w166_23, w166_24, w166_27, w166_28, w166_29, w166_30, w166_32, w166_35, w166_38, w166_39, w166_42, w166_43, w166_45, w166_48, w166_50, w166_53, w166_54, w166_57, w166_58, w166_59, w166_60, w166_63, hs, ↓neg_vN, lit_nI, nI_leI, nI_ltI, nI_eq, jm_in_nI, nI_clamp, nI_add, n_mul, pk_sub, n_le_t, n_le_f, n_lt_t, n_lt_f, n_eq_t, n_eq_f, true_and, and_true, ne_eq, not_false_eq_true, not_true_eq_false, min_n, max_n, dif_n, n_rem, n_div, or_nI, shl_nI, Option.toList_some, Option.toList_none, List.singleton_append, List.nil_append, if_true, if_false, or_true, true_or, or_false, false_or, and_false, false_and, Bool.false_eq_true, e1, r_isPlayedBy ha hM hV, r_strength ha hM, hP]
      · simp (disch := omega) only [w166_21, w166_22, w166_23, w166_24, w166_27, w166_28, w166_29, w166_30, w166_32, w166_35, w166_38, w166_39, w166_42, w166_43, w166_45, w166_48, w166_50, w166_53, w166_54, w166_57, w166_58, w166_59, w166_60, w166_63, hs, ↓neg_vN, lit_nI, nI_leI, nI_ltI, nI_eq, jm_in_nI, nI_clamp, nI_add, n_mul, pk_sub, n_le_t, n_le_f, n_lt_t, n_lt_f, n_eq_t, n_eq_f, true_and, and_true, ne_eq, not_false_eq_true, not_true_eq_false, min_n, max_n, dif_n, n_rem, n_div, or_nI, shl_nI, Option.toList_some, Option.toList_none, List.singleton_append, List.nil_append, if_true, if_false, or_true, true_or, or_false, false_or, and_false, false_and, Bool.false_eq_true, e1, r_isPlayedBy ha hM hV, r_strength ha hM, hP]
    · have hP' : kPd k r i = false := by simpa using hP
      simp (disch := omega) only [w166_21, w166_22, w166_23, w166_24, w166_27, w166_28, w166_29, w166_30, w166_32, w166_35, w166_38, w166_39, w166_42, w166_43, w166_45, w166_48, w166_50, w166_53, w166_54, w166_57, w166_58, w166_59, w166_60, w166_63, hs, ↓neg_vN, lit_nI, nI_leI, nI_ltI, nI_eq, jm_in_nI, nI_clamp, nI_add, n_mul, pk_sub, n_le_t, n_le_f, n_lt_t, n_lt_f, n_eq_t, n_eq_f, true_and, and_true, ne_eq, not_false_eq_true, not_true_eq_false, min_n, max_n, dif_n, n_rem, n_div, or_nI, shl_nI, Option.toList_some, Option.toList_none, List.singleton_append, List.nil_append, if_true, if_false, or_true, true_or, or_false, false_or, and_false, false_and, Bool.false_eq_true, e1, r_isPlayedBy ha hM hV, r_strength ha hM, hP']
theorem rh_body {a r : Nat} {k : kT} {S : jm_I2} {u3 u4 : Value} (ha : isRA a) (hM : RM a S k) (hV : KV k) (hr : r < k 0) (hZ : ∀ u3 u4, WQ L (d + 4) 166 2 [.ref 128, .ref a, .int (nI (r + 1)), u3, u4] [] (jm_upd S 137 r (nI (newBt k r))) Z) : WQ L (d + 4) 166 2 [.ref 128, .ref a, .int (nI r), u3, u4] [] S Z := by
  have hs := ra_sh L ha
  have hm := mod_sh L
  have e0 := hM 0 (by decide)
  have e2 := hM 2 (by decide)
  obtain ⟨v0, v1, v2, v3, v4, v5⟩ := hV
  have hV : KV k := ⟨v0, v1, v2, v3, v4, v5⟩
  obtain ⟨b1, b2, b3, b4, b5, b6⟩ := v5 r hr
  have hg := kGn_le k r (k 1)
  have hb := bset64 (kPd k r) v1
  have hv := lossV_le (kd := kKd k r) (p := bset (kPd k r) (k 1)) b5
  rw [w166_2]
  simp (disch := omega) only [w166_3, w166_4, w166_5, w166_6, w166_9, w166_10, w166_11, w166_12, w166_15, w166_16, w166_17, hs, hm, ↓neg_vN, lit_nI, nI_leI, nI_ltI, nI_eq, jm_in_nI, nI_clamp, nI_add, n_mul, pk_sub, n_le_t, n_le_f, n_lt_t, n_lt_f, n_eq_t, n_eq_f, true_and, and_true, ne_eq, not_false_eq_true, not_true_eq_false, min_n, max_n, dif_n, n_rem, n_div, or_nI, shl_nI, Option.toList_some, Option.toList_none, List.singleton_append, List.nil_append, if_true, if_false, or_true, true_or, or_false, false_or, and_false, false_and, Bool.false_eq_true, e0, r_of1 ha hM]
  have A := (rh_gain (L := L) (d := d) (Z := Z) ha hM hV hr 0 (Nat.zero_le _)).mpr
  rw [kGn, Nat.add_zero] at A
  apply A
  clear A
  have B : WQ L (d + 4) 166 81 [.ref 128, .ref a, .int (nI r), .int (nI (min (kBt k r + kGn k r (k 1)) (k 2))), .int (nI (k 1))] [] S Z := by
    have C : WQ L (d + 4) 166 102 [.ref 128, .ref a, .int (nI r), .int (nI (min (kBt k r + kGn k r (k 1)) (k 2)) - nI (lossV (kKd k r) (kLs k r) (bset (kPd k r) (k 1)))), .int (nI (k 1))] [] S Z := by
      have D : WQ L (d + 4) 166 128 [.ref 128, .ref a, .int (nI r), .int (nI (min (kBt k r + kGn k r (k 1)) (k 2)) - nI (lossV (kKd k r) (kLs k r) (bset (kPd k r) (k 1)))), .int (nI (if kKd k r = 5 ∧ 0 < kBt k r then 1 else 0))] [] S Z := by
        have hm1 : (if kKd k r = 5 ∧ 0 < kBt k r then 1 else 0) ≤ 1 := by split <;> omega
        unfold newBt beatV at hZ
        generalize (if kKd k r = 5 ∧ 0 < kBt k r then 1 else 0) = m at hm1 hZ ⊢
        generalize lossV (kKd k r) (kLs k r) (bset (kPd k r) (k 1)) = lo at hv hZ ⊢
        generalize hB : min (kBt k r + kGn k r (k 1)) (k 2) = B at hZ ⊢
        by_cases hd : lo ≤ B
        · by_cases hd2 : m ≤ B - lo
          · rw [show max m (B - lo) = B - lo by omega] at hZ
            simp (disch := omega) only [w166_128, w166_129, w166_132, w166_133, w166_134, w166_136, w166_139, w166_141, w166_144, w166_145, w166_146, w166_149, hs, hm, ↓neg_vN, lit_nI, nI_leI, nI_ltI, nI_eq, jm_in_nI, nI_clamp, nI_add, n_mul, pk_sub, n_le_t, n_le_f, n_lt_t, n_lt_f, n_eq_t, n_eq_f, true_and, and_true, ne_eq, not_false_eq_true, not_true_eq_false, min_n, max_n, dif_n, n_rem, n_div, or_nI, shl_nI, Option.toList_some, Option.toList_none, List.singleton_append, List.nil_append, if_true, if_false, or_true, true_or, or_false, false_or, and_false, false_and, Bool.false_eq_true]
            exact hZ _ _
          · rw [show max m (B - lo) = m by omega] at hZ
            simp (disch := omega) only [w166_128, w166_129, w166_132, w166_133, w166_134, w166_136, w166_139, w166_141, w166_144, w166_145, w166_146, w166_149, hs, hm, ↓neg_vN, lit_nI, nI_leI, nI_ltI, nI_eq, jm_in_nI, nI_clamp, nI_add, n_mul, pk_sub, n_le_t, n_le_f, n_lt_t, n_lt_f, n_eq_t, n_eq_f, true_and, and_true, ne_eq, not_false_eq_true, not_true_eq_false, min_n, max_n, dif_n, n_rem, n_div, or_nI, shl_nI, Option.toList_some, Option.toList_none, List.singleton_append, List.nil_append, if_true, if_false, or_true, true_or, or_false, false_or, and_false, false_and, Bool.false_eq_true]
            exact hZ _ _
        · rw [show max m (B - lo) = m by omega] at hZ
          simp (disch := omega) only [w166_128, w166_129, w166_132, w166_133, w166_134, w166_136, w166_139, w166_141, w166_144, w166_145, w166_146, w166_149, hs, hm, ↓neg_vN, lit_nI, nI_leI, nI_ltI, nI_eq, jm_in_nI, nI_clamp, nI_add, n_mul, pk_sub, n_le_t, n_le_f, n_lt_t, n_lt_f, n_eq_t, n_eq_f, true_and, and_true, ne_eq, not_false_eq_true, not_true_eq_false, min_n, max_n, dif_n, n_rem, n_div, or_nI, shl_nI, Option.toList_some, Option.toList_none, List.singleton_append, List.nil_append, if_true, if_false, or_true, true_or, or_false, false_or, and_false, false_and, Bool.false_eq_true, f_dif]
          exact hZ _ _
      by_cases hP : kKd k r = 5
      · by_cases hQ : 0 < kBt k r
        · rw [if_pos ⟨hP, hQ⟩] at D
          simp (disch := omega) only [w166_102, w166_103, w166_104, w166_105, w166_108, w166_109, w166_112, w166_113, w166_114, w166_115, w166_118, w166_121, w166_122, w166_125, w166_126, hs, hm, ↓neg_vN, lit_nI, nI_leI, nI_ltI, nI_eq, jm_in_nI, nI_clamp, nI_add, n_mul, pk_sub, n_le_t, n_le_f, n_lt_t, n_lt_f, n_eq_t, n_eq_f, true_and, and_true, ne_eq, not_false_eq_true, not_true_eq_false, min_n, max_n, dif_n, n_rem, n_div, or_nI, shl_nI, Option.toList_some, Option.toList_none, List.singleton_append, List.nil_append, if_true, if_false, or_true, true_or, or_false, false_or, and_false, false_and, Bool.false_eq_true, r_of0 ha hM, r_of1 ha hM]
          exact D
        · rw [if_neg (by omega)] at D
          simp (disch := omega) only [w166_102, w166_103, w166_104, w166_105, w166_108, w166_109, w166_112, w166_113, w166_114, w166_115, w166_118, w166_121, w166_122, w166_125, w166_126, hs, hm, ↓neg_vN, lit_nI, nI_leI, nI_ltI, nI_eq, jm_in_nI, nI_clamp, nI_add, n_mul, pk_sub, n_le_t, n_le_f, n_lt_t, n_lt_f, n_eq_t, n_eq_f, true_and, and_true, ne_eq, not_false_eq_true, not_true_eq_false, min_n, max_n, dif_n, n_rem, n_div, or_nI, shl_nI, Option.toList_some, Option.toList_none, List.singleton_append, List.nil_append, if_true, if_false, or_true, true_or, or_false, false_or, and_false, false_and, Bool.false_eq_true, r_of0 ha hM, r_of1 ha hM]
          exact D
      · rw [if_neg (by omega)] at D
        simp (disch := omega) only [w166_102, w166_103, w166_104, w166_105, w166_108, w166_109, w166_112, w166_113, w166_114, w166_115, w166_118, w166_121, w166_122, w166_125, w166_126, hs, hm, ↓neg_vN, lit_nI, nI_leI, nI_ltI, nI_eq, jm_in_nI, nI_clamp, nI_add, n_mul, pk_sub, n_le_t, n_le_f, n_lt_t, n_lt_f, n_eq_t, n_eq_f, true_and, and_true, ne_eq, not_false_eq_true, not_true_eq_false, min_n, max_n, dif_n, n_rem, n_div, or_nI, shl_nI, Option.toList_some, Option.toList_none, List.singleton_append, List.nil_append, if_true, if_false, or_true, true_or, or_false, false_or, and_false, false_and, Bool.false_eq_true, r_of0 ha hM, r_of1 ha hM]
        exact D
    have q := fun Z => r_lossOf (L := L) (d := d + 2) (p := bset (kPd k r) (k 1)) (Z := Z) ha hM hV hr
    by_cases hP : bset (kPd k r) (k 1) = 0
    · simp only [hP, if_true] at q
      rw [hP] at C
      simp (disch := omega) only [w166_81, w166_82, w166_83, w166_84, w166_85, w166_86, w166_89, w166_92, w166_93, w166_96, w166_97, w166_100, w166_101, hs, hm, lit_nI, r_handsOf ha hM hV, hP, n_eq_t, if_true, Option.toList_some, List.singleton_append, q]
      exact C
    · simp only [hP, if_false] at q
      simp (disch := omega) only [w166_81, w166_82, w166_83, w166_84, w166_85, w166_86, w166_89, w166_92, w166_93, w166_96, w166_97, w166_100, w166_101, hs, hm, lit_nI, r_handsOf ha hM hV, nI_eq, hP, if_false, Option.toList_some, List.singleton_append, q]
      exact C
  by_cases hP : k 2 ≤ kBt k r + kGn k r (k 1)
  · rw [show min (kBt k r + kGn k r (k 1)) (k 2) = k 2 by omega] at B
    simp (disch := omega) only [w166_66, w166_67, w166_68, w166_69, w166_70, w166_73, w166_74, w166_77, w166_78, w166_79, w166_80, hs, hm, ↓neg_vN, lit_nI, nI_leI, nI_ltI, nI_eq, jm_in_nI, nI_clamp, nI_add, n_mul, pk_sub, n_le_t, n_le_f, n_lt_t, n_lt_f, n_eq_t, n_eq_f, true_and, and_true, ne_eq, not_false_eq_true, not_true_eq_false, min_n, max_n, dif_n, n_rem, n_div, or_nI, shl_nI, Option.toList_some, Option.toList_none, List.singleton_append, List.nil_append, if_true, if_false, or_true, true_or, or_false, false_or, and_false, false_and, Bool.false_eq_true, e2]
    exact B
  · rw [show min (kBt k r + kGn k r (k 1)) (k 2) = kBt k r + kGn k r (k 1) by omega] at B
    simp (disch := omega) only [w166_66, w166_67, w166_68, w166_69, w166_70, w166_73, w166_74, w166_77, w166_78, w166_79, w166_80, hs, hm, ↓neg_vN, lit_nI, nI_leI, nI_ltI, nI_eq, jm_in_nI, nI_clamp, nI_add, n_mul, pk_sub, n_le_t, n_le_f, n_lt_t, n_lt_f, n_eq_t, n_eq_f, true_and, and_true, ne_eq, not_false_eq_true, not_true_eq_false, min_n, max_n, dif_n, n_rem, n_div, or_nI, shl_nI, Option.toList_some, Option.toList_none, List.singleton_append, List.nil_append, if_true, if_false, or_true, true_or, or_false, false_or, and_false, false_and, Bool.false_eq_true, e2]
    exact B
end
