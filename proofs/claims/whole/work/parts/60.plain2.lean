/-! ===== fall, share, ask ===== -/
def shA (k : kT) (hand : Nat) (i : Nat) : Bool := decide (i < hand) && decide (0 < lk k i)
def shV (k : kT) (hand n : Nat) : Int32 := if sumL k (k 1) = 0 ∨ lk k hand = 0 then nI 0 else if nI (cnt (shA k hand) (k 1)) < shO k n (sumL k (k 1)) (k 1) then nI (n * lk k hand / sumL k (k 1) + 1) else nI (n * lk k hand / sumL k (k 1) + 0)
theorem lk_le (k : kT) (h : Nat) : lk k h ≤ 20 := by unfold lk; omega
theorem mul_le999 {n l : Nat} (h1 : n ≤ 999) (h2 : l ≤ 20) : n * l ≤ 19980 := Nat.le_trans (Nat.mul_le_mul h1 h2) (by decide)
theorem div_le {a b c : Nat} (h : a ≤ c) : a / b ≤ c := Nat.le_trans (Nat.div_le_self a b) h
/-- the trace, laid -/
def lvC (S : jm_I2) (ts : List Nat) : jm_I2 := fun o i => if o = 127 ∧ i < ts.length then nI (ts.getD i 0) else if o = 126 ∧ i = 1 then nI ts.length else S o i
def lvR (S : jm_I2) (ts : List Nat) : jm_I2 := fun o i => if o = 143 ∧ i < ts.length then nI (ts.getD i 0) else if o = 128 ∧ i = 26 then nI ts.length else S o i
theorem lvC_ne {S : jm_I2} {ts : List Nat} {o : Nat} (h : o ≠ 127) (h2 : o ≠ 126) : lvC S ts o = S o := by
  funext i
  unfold lvC
  rw [if_neg (fun q => h q.1), if_neg (fun q => h2 q.1)]
theorem lvR_ne {S : jm_I2} {ts : List Nat} {o : Nat} (h : o ≠ 143) (h2 : o ≠ 128) : lvR S ts o = S o := by
  funext i
  unfold lvR
  rw [if_neg (fun q => h q.1), if_neg (fun q => h2 q.1)]
theorem lvC_0 {S : jm_I2} : jm_upd S 126 1 (nI 0) = lvC S [] := by
  funext o i
  rw [upd_at]
  unfold lvC
  rw [if_neg (show ¬ (o = 127 ∧ i < ([] : List Nat).length) from fun q => absurd q.2 (Nat.not_lt_zero _))]
  rfl
theorem lvR_0 {S : jm_I2} : jm_upd S 128 26 (nI 0) = lvR S [] := by
  funext o i
  rw [upd_at]
  unfold lvR
  rw [if_neg (show ¬ (o = 143 ∧ i < ([] : List Nat).length) from fun q => absurd q.2 (Nat.not_lt_zero _))]
  rfl
theorem getD_snoc (ts : List Nat) (v i : Nat) : (ts ++ [v]).getD i 0 = if i < ts.length then ts.getD i 0 else if i = ts.length then v else 0 := by
  simp only [List.getD_eq_getElem?_getD]
  by_cases h : i < ts.length
  · rw [if_pos h, List.getElem?_append_left h]
  · rw [if_neg h, List.getElem?_append_right (by omega)]
    by_cases h2 : i = ts.length
    · rw [if_pos h2, h2, Nat.sub_self]
      rfl
    · rw [if_neg h2]
      obtain ⟨q, hq⟩ : ∃ q, i - ts.length = q + 1 := ⟨i - ts.length - 1, by omega⟩
      rw [hq]
      rfl
theorem lvC_S {S : jm_I2} {ts : List Nat} {v : Nat} : jm_upd (jm_upd (lvC S ts) 127 ts.length (nI v)) 126 1 (nI (ts.length + 1)) = lvC S (ts ++ [v]) := by
  funext o i
  rw [upd_at, upd_at]
  unfold lvC
  rw [List.length_append, List.length_singleton, getD_snoc]
  by_cases h1 : o = 126 ∧ i = 1
  · rw [if_pos h1, if_neg (by omega), if_pos h1]
  · rw [if_neg h1, if_neg h1, if_neg h1]
    by_cases h2 : o = 127 ∧ i = ts.length
    · rw [if_pos h2, if_pos (by omega), if_neg (by omega), if_pos h2.2]
    · rw [if_neg h2]
      by_cases h3 : o = 127 ∧ i < ts.length
      · rw [if_pos h3, if_pos (by omega), if_pos h3.2]
      · rw [if_neg h3, if_neg (by omega)]
theorem lvR_S {S : jm_I2} {ts : List Nat} {v : Nat} : jm_upd (jm_upd (lvR S ts) 143 ts.length (nI v)) 128 26 (nI (ts.length + 1)) = lvR S (ts ++ [v]) := by
  funext o i
  rw [upd_at, upd_at]
  unfold lvR
  rw [List.length_append, List.length_singleton, getD_snoc]
  by_cases h1 : o = 128 ∧ i = 26
  · rw [if_pos h1, if_neg (by omega), if_pos h1]
  · rw [if_neg h1, if_neg h1, if_neg h1]
    by_cases h2 : o = 143 ∧ i = ts.length
    · rw [if_pos h2, if_pos (by omega), if_neg (by omega), if_pos h2.2]
    · rw [if_neg h2]
      by_cases h3 : o = 143 ∧ i < ts.length
      · rw [if_pos h3, if_pos (by omega), if_pos h3.2]
      · rw [if_neg h3, if_neg (by omega)]
section
variable {xs : Nat → Int32} {L d : Nat} {S : jm_I2} {k : kT} {Z : Option Value → jm_I2 → Prop}
theorem InvK_Q (hI : InvK xs S k) {ts : List Nat} (hts : ts.length ≤ 16) : InvK xs (lvR (jm_upd (lvC S ts) 128 0 (nI 0)) ts) k := by
  obtain ⟨h1, h2, h3, h4, h5, h6, h7, h8, h9⟩ := hI
  have g : ∀ o, o ≠ 143 → o ≠ 128 → o ≠ 127 → o ≠ 126 → lvR (jm_upd (lvC S ts) 128 0 (nI 0)) ts o = S o := fun o a b c e => by rw [lvR_ne a b, upd_ne b, lvC_ne c e]
  have g1 : ∀ i, i ≠ 0 → i ≠ 26 → lvR (jm_upd (lvC S ts) 128 0 (nI 0)) ts 128 i = S 128 i := fun i a b => by
    unfold lvR
    rw [if_neg (by omega), if_neg (by omega), upd_at, if_neg (by omega), lvC_ne (by decide) (by decide)]
  refine ⟨IS_of h1 (fun o ho => g o (by omega) (by omega) (by omega) (by omega)), IR_of h2 (fun o ho => g o (by omega) (by omega) (by omega) (by omega)), IT_of h3 (by rw [g 13 (by omega) (by omega) (by omega) (by omega)]) (g1 _ (by decide) (by decide)) (g _ (by omega) (by omega) (by omega) (by omega)) (g _ (by omega) (by omega) (by omega) (by omega)), IC_of h4 (fun o a b => g o (by omega) (by omega) (by omega) (by omega)) (g _ (by omega) (by omega) (by omega) (by omega)), IA_of h5 (by rw [g 56 (by omega) (by omega) (by omega) (by omega)]) (by rw [g 56 (by omega) (by omega) (by omega) (by omega)]) (g1 _ (by decide) (by decide)) (fun o a b => g o (by omega) (by omega) (by omega) (by omega)) (g _ (by omega) (by omega) (by omega) (by omega)), II_of h6 (fun o a b => g o (by omega) (by omega) (by omega) (by omega)) (g _ (by omega) (by omega) (by omega) (by omega)) (g _ (by omega) (by omega) (by omega) (by omega)), ⟨ts.length, hts, ?_, ?_, fun i hi => ?_⟩, IF_of h8 (by rw [g 0 (by omega) (by omega) (by omega) (by omega)]) (g1 _ (by decide) (by decide)), IU_of h9 (by rw [g 0 (by omega) (by omega) (by omega) (by omega)]) (g1 _ (by decide) (by decide))⟩
  · rw [lvR_ne (by decide) (by decide), upd_ne (by decide)]
    unfold lvC
    rw [if_neg (by omega), if_pos ⟨rfl, rfl⟩]
  · unfold lvR
    rw [if_neg (by omega), if_pos ⟨rfl, rfl⟩]
  · rw [lvR_ne (by decide) (by decide), upd_ne (by decide)]
    unfold lvC lvR
    rw [if_pos ⟨rfl, hi⟩, if_pos ⟨rfl, hi⟩]
theorem c_leave {v : Nat} {ts : List Nat} (h : ts.length < 16) : CL L d 5 [.ref 126, .int (nI v)] (lvC S ts) Z ↔ Z none (lvC S (ts ++ [v])) := by
  have ht := top_sh L
  have e : lvC S ts 126 1 = nI ts.length := by unfold lvC; rw [if_neg (by omega), if_pos ⟨rfl, rfl⟩]
  rw [← lvC_S]
  simp (disch := omega) only [cl5, w5_0, w5_1, w5_4, w5_6, w5_9, w5_10, w5_13, w5_14, w5_17, w5_18, w5_19, w5_20, w5_21, w5_24, w5_25, w5_26, w5_29, ht, ↓neg_vM, ↓neg_vB, ↓neg_vS, ↓neg_vF, ↓neg_vO, ↓neg_vA, ↓neg_vN, lit_nI, nI_leI, nI_ltI, nI_eq, jm_in_nI, nI_clamp, nI_add, n_mul, pk_sub, n_le_t, n_le_f, n_lt_t, n_lt_f, n_eq_t, n_eq_f, true_and, and_true, ne_eq, not_false_eq_true, not_true_eq_false, min_n, max_n, dif_n, n_rem, n_div, or_nI, shl_nI, Option.toList_some, Option.toList_none, List.singleton_append, List.nil_append, if_true, if_false, or_true, true_or, or_false, false_or, and_false, false_and, Bool.false_eq_true, e, upd_at]
theorem r_began {v : Nat} {ts : List Nat} (h : ts.length < 16) : CL L d 211 [.ref 128, .int (nI v)] (lvR S ts) Z ↔ Z none (lvR S (ts ++ [v])) := by
  have hm := mod_sh L
  have e : lvR S ts 128 26 = nI ts.length := by unfold lvR; rw [if_neg (by omega), if_pos ⟨rfl, rfl⟩]
  rw [← lvR_S]
  simp (disch := omega) only [cl211, w211_0, w211_1, w211_4, w211_6, w211_9, w211_10, w211_13, w211_14, w211_17, w211_18, w211_19, w211_20, w211_21, w211_24, w211_25, w211_26, w211_29, hm, ↓neg_vM, ↓neg_vB, ↓neg_vS, ↓neg_vF, ↓neg_vO, ↓neg_vA, ↓neg_vN, lit_nI, nI_leI, nI_ltI, nI_eq, jm_in_nI, nI_clamp, nI_add, n_mul, pk_sub, n_le_t, n_le_f, n_lt_t, n_lt_f, n_eq_t, n_eq_f, true_and, and_true, ne_eq, not_false_eq_true, not_true_eq_false, min_n, max_n, dif_n, n_rem, n_div, or_nI, shl_nI, Option.toList_some, Option.toList_none, List.singleton_append, List.nil_append, if_true, if_false, or_true, true_or, or_false, false_or, and_false, false_and, Bool.false_eq_true, e, upd_at]
theorem r_fall {t : Nat} {T : jm_I2} (hM : RM 132 T k) (hV : KV k) (ht : t < 64) : WQ L (d + 1) 191 30 [.ref 128, .int (nI t), .null, .null] [] T Z ↔ Z (some (.int (nI (bset (kHo k t) (k 0))))) T := by
  have hm := mod_sh L
  have e0 := hM 0 (by decide)
  have v0 := hV.1
  have key : ∀ i, i ≤ k 0 → (WQ L (d + 1) 191 34 [.ref 128, .int (nI t), .int (nI (bset (kHo k t) i)), .int (nI i)] [] T Z ↔ Z (some (.int (nI (bset (kHo k t) (k 0))))) T) := by
    apply down_ind
    · rw [w191_34]
      simp (disch := omega) only [w191_35, w191_36, w191_39, w191_40, w191_41, w191_44, w191_45, w191_46, w191_49, w191_50, w191_51, w191_54, w191_57, w191_58, w191_61, w191_62, w191_63, w191_66, w191_67, w191_68, w191_71, w191_72, w191_73, w191_74, w191_77, w191_78, w191_79, w191_80, w191_83, w191_86, w191_87, hm, ↓neg_vM, ↓neg_vB, ↓neg_vS, ↓neg_vF, ↓neg_vO, ↓neg_vA, ↓neg_vN, lit_nI, nI_leI, nI_ltI, nI_eq, jm_in_nI, nI_clamp, nI_add, n_mul, pk_sub, n_le_t, n_le_f, n_lt_t, n_lt_f, n_eq_t, n_eq_f, true_and, and_true, ne_eq, not_false_eq_true, not_true_eq_false, min_n, max_n, dif_n, n_rem, n_div, or_nI, shl_nI, Option.toList_some, Option.toList_none, List.singleton_append, List.nil_append, if_true, if_false, or_true, true_or, or_false, false_or, and_false, false_and, Bool.false_eq_true, e0]
    · intro i hi ih
      obtain ⟨b1, b2, b3, b4, b5, b6⟩ := hV.2.2.2.2.2 i hi
      have hand : kBr k i &&& t ≤ kBr k i := Nat.and_le_left
      have eA := and_nI (kBr k i) t
      rw [← ih, w191_34]
      by_cases hP : 0 < kBt k i
      · by_cases hQ : kBr k i &&& t = 0
        · rw [bset_F (p := kHo k t) (by simp [kHo, hP, hQ])]
          simp (disch := omega) only [w191_35, w191_36, w191_39, w191_40, w191_41, w191_44, w191_45, w191_46, w191_49, w191_50, w191_51, w191_54, w191_57, w191_58, w191_61, w191_62, w191_63, w191_66, w191_67, w191_68, w191_71, w191_72, w191_73, w191_74, w191_77, w191_78, w191_79, w191_80, w191_83, w191_86, w191_87, hm, ↓neg_vM, ↓neg_vB, ↓neg_vS, ↓neg_vF, ↓neg_vO, ↓neg_vA, ↓neg_vN, lit_nI, nI_leI, nI_ltI, nI_eq, jm_in_nI, nI_clamp, nI_add, n_mul, pk_sub, n_le_t, n_le_f, n_lt_t, n_lt_f, n_eq_t, n_eq_f, true_and, and_true, ne_eq, not_false_eq_true, not_true_eq_false, min_n, max_n, dif_n, n_rem, n_div, or_nI, shl_nI, Option.toList_some, Option.toList_none, List.singleton_append, List.nil_append, if_true, if_false, or_true, true_or, or_false, false_or, and_false, false_and, Bool.false_eq_true, e0, r_of1 isR132 hM, r_of3 isR132 hM, eA, hQ]
        · rw [bset_T (p := kHo k t) (by simp [kHo, hP, hQ])]
          simp (disch := omega) only [w191_35, w191_36, w191_39, w191_40, w191_41, w191_44, w191_45, w191_46, w191_49, w191_50, w191_51, w191_54, w191_57, w191_58, w191_61, w191_62, w191_63, w191_66, w191_67, w191_68, w191_71, w191_72, w191_73, w191_74, w191_77, w191_78, w191_79, w191_80, w191_83, w191_86, w191_87, hm, ↓neg_vM, ↓neg_vB, ↓neg_vS, ↓neg_vF, ↓neg_vO, ↓neg_vA, ↓neg_vN, lit_nI, nI_leI, nI_ltI, nI_eq, jm_in_nI, nI_clamp, nI_add, n_mul, pk_sub, n_le_t, n_le_f, n_lt_t, n_lt_f, n_eq_t, n_eq_f, true_and, and_true, ne_eq, not_false_eq_true, not_true_eq_false, min_n, max_n, dif_n, n_rem, n_div, or_nI, shl_nI, Option.toList_some, Option.toList_none, List.singleton_append, List.nil_append, if_true, if_false, or_true, true_or, or_false, false_or, and_false, false_and, Bool.false_eq_true, e0, r_of1 isR132 hM, r_of3 isR132 hM, eA, hQ]
      · rw [bset_F (p := kHo k t) (by simp [kHo, hP])]
        simp (disch := omega) only [w191_35, w191_36, w191_39, w191_40, w191_41, w191_44, w191_45, w191_46, w191_49, w191_50, w191_51, w191_54, w191_57, w191_58, w191_61, w191_62, w191_63, w191_66, w191_67, w191_68, w191_71, w191_72, w191_73, w191_74, w191_77, w191_78, w191_79, w191_80, w191_83, w191_86, w191_87, hm, ↓neg_vM, ↓neg_vB, ↓neg_vS, ↓neg_vF, ↓neg_vO, ↓neg_vA, ↓neg_vN, lit_nI, nI_leI, nI_ltI, nI_eq, jm_in_nI, nI_clamp, nI_add, n_mul, pk_sub, n_le_t, n_le_f, n_lt_t, n_lt_f, n_eq_t, n_eq_f, true_and, and_true, ne_eq, not_false_eq_true, not_true_eq_false, min_n, max_n, dif_n, n_rem, n_div, or_nI, shl_nI, Option.toList_some, Option.toList_none, List.singleton_append, List.nil_append, if_true, if_false, or_true, true_or, or_false, false_or, and_false, false_and, Bool.false_eq_true, e0, r_of1 isR132 hM]
  simp (disch := omega) only [w191_30, w191_31, w191_32, w191_33, ↓neg_vM, ↓neg_vB, ↓neg_vS, ↓neg_vF, ↓neg_vO, ↓neg_vA, ↓neg_vN, lit_nI, nI_leI, nI_ltI, nI_eq, jm_in_nI, nI_clamp, nI_add, n_mul, pk_sub, n_le_t, n_le_f, n_lt_t, n_lt_f, n_eq_t, n_eq_f, true_and, and_true, ne_eq, not_false_eq_true, not_true_eq_false, min_n, max_n, dif_n, n_rem, n_div, or_nI, shl_nI, Option.toList_some, Option.toList_none, List.singleton_append, List.nil_append, if_true, if_false, or_true, true_or, or_false, false_or, and_false, false_and, Bool.false_eq_true]
  exact key 0 (Nat.zero_le _)
theorem p_fall {v : Int32} (hI : InvK xs S k) : CL L (d + 9) 102 [.ref 0, .int v] S (Zx xs L (d + 9) 191 [.ref 128, .int v]) := by
  have ht := top_sh L
  have hm := mod_sh L
  obtain ⟨hX, hM, hV, -, h01⟩ := hI.2.2.2.1
  have hM4 : RM 132 (jm_upd S 128 0 (nI 0)) k := RM_of hM (upd_ne (by decide))
  have v0 := hV.1
  by_cases h : k 0 = 0
  · simp (disch := omega) only [w102_0, w102_1, w102_4, w102_7, w102_9, cl102, ht, ↓neg_vM, ↓neg_vB, ↓neg_vS, ↓neg_vF, ↓neg_vO, ↓neg_vA, ↓neg_vN, lit_nI, nI_leI, nI_ltI, nI_eq, jm_in_nI, nI_clamp, nI_add, n_mul, pk_sub, n_le_t, n_le_f, n_lt_t, n_lt_f, n_eq_t, n_eq_f, true_and, and_true, ne_eq, not_false_eq_true, not_true_eq_false, min_n, max_n, dif_n, n_rem, n_div, or_nI, shl_nI, Option.toList_some, Option.toList_none, List.singleton_append, List.nil_append, if_true, if_false, or_true, true_or, or_false, false_or, and_false, false_and, Bool.false_eq_true, Zx_some, c_noCamp hX hV, h]
    simp (disch := omega) only [w191_0, w191_1, w191_2, w191_5, w191_6, w191_9, w191_12, w191_14, cl191, hm, ↓neg_vM, ↓neg_vB, ↓neg_vS, ↓neg_vF, ↓neg_vO, ↓neg_vA, ↓neg_vN, lit_nI, nI_leI, nI_ltI, nI_eq, jm_in_nI, nI_clamp, nI_add, n_mul, pk_sub, n_le_t, n_le_f, n_lt_t, n_lt_f, n_eq_t, n_eq_f, true_and, and_true, ne_eq, not_false_eq_true, not_true_eq_false, min_n, max_n, dif_n, n_rem, n_div, or_nI, shl_nI, Option.toList_some, Option.toList_none, List.singleton_append, List.nil_append, if_true, if_false, or_true, true_or, or_false, false_or, and_false, false_and, Bool.false_eq_true, Zm_some, r_isThere hM4 v0, h]
    exact ⟨k, InvK_same hI Same_thrown⟩
  · by_cases h2 : nI 0 ≤ v ∧ v ≤ nI 63
    · obtain ⟨t, -, ht2, rfl⟩ := btw (by decide) h2 (by decide)
      clear h2
      simp (disch := omega) only [cl102, w102_0, w102_1, w102_4, w102_7, w102_9, w102_10, w102_11, w102_12, w102_14, w102_17, w102_20, w102_22, w102_23, w102_24, w102_27, w102_28, w102_31, ht, ↓neg_vM, ↓neg_vB, ↓neg_vS, ↓neg_vF, ↓neg_vO, ↓neg_vA, ↓neg_vN, lit_nI, nI_leI, nI_ltI, nI_eq, jm_in_nI, nI_clamp, nI_add, n_mul, pk_sub, n_le_t, n_le_f, n_lt_t, n_lt_f, n_eq_t, n_eq_f, true_and, and_true, ne_eq, not_false_eq_true, not_true_eq_false, min_n, max_n, dif_n, n_rem, n_div, or_nI, shl_nI, Option.toList_some, Option.toList_none, List.singleton_append, List.nil_append, if_true, if_false, or_true, true_or, or_false, false_or, and_false, false_and, Bool.false_eq_true, Zx_some, c_noCamp hX hV, h, c_withinP, c_holdingOver isC25 hX hV]
      simp (disch := omega) only [w191_0, w191_1, w191_2, w191_5, w191_6, w191_9, w191_12, w191_14, w191_15, w191_16, w191_17, w191_18, w191_21, w191_24, w191_27, w191_29, cl191, hm, ↓neg_vM, ↓neg_vB, ↓neg_vS, ↓neg_vF, ↓neg_vO, ↓neg_vA, ↓neg_vN, lit_nI, nI_leI, nI_ltI, nI_eq, jm_in_nI, nI_clamp, nI_add, n_mul, pk_sub, n_le_t, n_le_f, n_lt_t, n_lt_f, n_eq_t, n_eq_f, true_and, and_true, ne_eq, not_false_eq_true, not_true_eq_false, min_n, max_n, dif_n, n_rem, n_div, or_nI, shl_nI, Option.toList_some, Option.toList_none, List.singleton_append, List.nil_append, if_true, if_false, or_true, true_or, or_false, false_or, and_false, false_and, Bool.false_eq_true, Zm_some, r_isThere hM4 v0, h, lit_lN, nI_l, r_in, lN_le, r_fall hM4 hV]
      exact ⟨k, InvK_same hI Same_thrown⟩
    · simp (disch := omega) only [cl102, w102_0, w102_1, w102_4, w102_7, w102_9, w102_10, w102_11, w102_12, w102_14, w102_17, w102_20, w102_22, w102_23, w102_24, w102_27, w102_28, w102_31, ht, ↓neg_vM, ↓neg_vB, ↓neg_vS, ↓neg_vF, ↓neg_vO, ↓neg_vA, ↓neg_vN, lit_nI, nI_leI, nI_ltI, nI_eq, jm_in_nI, nI_clamp, nI_add, n_mul, pk_sub, n_le_t, n_le_f, n_lt_t, n_lt_f, n_eq_t, n_eq_f, true_and, and_true, ne_eq, not_false_eq_true, not_true_eq_false, min_n, max_n, dif_n, n_rem, n_div, or_nI, shl_nI, Option.toList_some, Option.toList_none, List.singleton_append, List.nil_append, if_true, if_false, or_true, true_or, or_false, false_or, and_false, false_and, Bool.false_eq_true, Zx_some, c_noCamp hX hV, h, c_withinP, h2]
      simp (disch := omega) only [w191_0, w191_1, w191_2, w191_5, w191_6, w191_9, w191_12, w191_14, w191_15, w191_16, w191_17, w191_18, w191_21, w191_24, w191_27, w191_29, cl191, hm, ↓neg_vM, ↓neg_vB, ↓neg_vS, ↓neg_vF, ↓neg_vO, ↓neg_vA, ↓neg_vN, lit_nI, nI_leI, nI_ltI, nI_eq, jm_in_nI, nI_clamp, nI_add, n_mul, pk_sub, n_le_t, n_le_f, n_lt_t, n_lt_f, n_eq_t, n_eq_f, true_and, and_true, ne_eq, not_false_eq_true, not_true_eq_false, min_n, max_n, dif_n, n_rem, n_div, or_nI, shl_nI, Option.toList_some, Option.toList_none, List.singleton_append, List.nil_append, if_true, if_false, or_true, true_or, or_false, false_or, and_false, false_and, Bool.false_eq_true, Zm_some, r_isThere hM4 v0, h, lit_lN, r_in, lx_le, xl_le, h2]
      exact ⟨k, InvK_same hI Same_thrown⟩
theorem c_shareOf {h n : Nat} (hX : RX 25 S k) (hV : KV k) (hh : h < k 1) (hn : n ≤ 999) : CL L (d + 1) 32 [.ref 25, .int (nI h), .int (nI n)] S Z ↔ Z (some (.int (shV k h n))) S := by
  have hs := camp_sh isC25
  have hl := camp_ll L isC25
  have x2 := hX.2.2.1
  have v1 := hV.2.1
  obtain ⟨z1, z2⟩ := hX.2.2.2.2.1 h hh
  obtain ⟨b1, b2⟩ := hV.2.2.2.2.1 h hh
  have hSL := sumL_S hV (k 1) (Nat.le_refl _)
  have e1 : k 1 * 20 - sumS k (k 1) = sumL k (k 1) := by omega
  have e2 : 20 - kSt k h = lk k h := rfl
  have hlk := lk_le k h
  have hml := mul_le999 hn hlk
  by_cases c1 : sumL k (k 1) = 0
  · have e : shV k h n = nI 0 := by unfold shV; rw [if_pos (Or.inl c1)]
    rw [e]
    simp (disch := omega) only [cl32, w32_0, w32_1, w32_4, w32_6, w32_7, w32_8, w32_11, w32_12, w32_13, w32_14, w32_15, w32_18, w32_19, w32_22, w32_23, w32_24, w32_26, w32_29, w32_30, w32_31, w32_32, w32_34, w32_35, w32_37, w32_38, hs, hl, ↓neg_vM, ↓neg_vB, ↓neg_vS, ↓neg_vF, ↓neg_vO, ↓neg_vA, ↓neg_vN, lit_nI, nI_leI, nI_ltI, nI_eq, jm_in_nI, nI_clamp, nI_add, n_mul, pk_sub, n_le_t, n_le_f, n_lt_t, n_lt_f, n_eq_t, n_eq_f, true_and, and_true, ne_eq, not_false_eq_true, not_true_eq_false, min_n, max_n, dif_n, n_rem, n_div, or_nI, shl_nI, Option.toList_some, Option.toList_none, List.singleton_append, List.nil_append, if_true, if_false, or_true, true_or, or_false, false_or, and_false, false_and, Bool.false_eq_true, x2, c_allStrength isC25 hX hV, e1, c1]
  · by_cases c2 : lk k h = 0
    · have e : shV k h n = nI 0 := by unfold shV; rw [if_pos (Or.inr c2)]
      have c3 : 20 ≤ kSt k h := by unfold lk at c2; omega
      rw [e]
      simp (disch := omega) only [cl32, w32_0, w32_1, w32_4, w32_6, w32_7, w32_8, w32_11, w32_12, w32_13, w32_14, w32_15, w32_18, w32_19, w32_22, w32_23, w32_24, w32_26, w32_29, w32_30, w32_31, w32_32, w32_34, w32_35, w32_37, w32_38, hs, hl, ↓neg_vM, ↓neg_vB, ↓neg_vS, ↓neg_vF, ↓neg_vO, ↓neg_vA, ↓neg_vN, lit_nI, nI_leI, nI_ltI, nI_eq, jm_in_nI, nI_clamp, nI_add, n_mul, pk_sub, n_le_t, n_le_f, n_lt_t, n_lt_f, n_eq_t, n_eq_f, true_and, and_true, ne_eq, not_false_eq_true, not_true_eq_false, min_n, max_n, dif_n, n_rem, n_div, or_nI, shl_nI, Option.toList_some, Option.toList_none, List.singleton_append, List.nil_append, if_true, if_false, or_true, true_or, or_false, false_or, and_false, false_and, Bool.false_eq_true, x2, c_allStrength isC25 hX hV, e1, z1]
    · have c3 : ¬ 20 ≤ kSt k h := by unfold lk at c2; omega
      have key : ∀ i, i ≤ k 1 → ∀ u, (WQ L (d + 1) 32 40 [.ref 25, .int (nI h), .int (nI n), .int (nI (sumL k (k 1))), .int (shO k n (sumL k (k 1)) i), .int (nI (cnt (shA k h) i)), .int (nI i), u] [] S Z ↔ Z (some (.int (shV k h n))) S) := by
        apply down_ind
        · intro u
          rw [w32_40]
          have hdv := div_le (b := sumL k (k 1)) hml
          by_cases c4 : nI (cnt (shA k h) (k 1)) < shO k n (sumL k (k 1)) (k 1)
          · have e : shV k h n = nI (n * lk k h / sumL k (k 1) + 1) := by unfold shV; rw [if_neg (by omega), if_pos c4]
            have c5 : ¬ shO k n (sumL k (k 1)) (k 1) ≤ nI (cnt (shA k h) (k 1)) := Int32.not_le.mpr c4
            rw [e]
            simp (disch := omega) only [w32_42, w32_43, w32_46, w32_49, w32_51, w32_52, w32_55, w32_57, w32_58, w32_59, w32_61, w32_63, w32_64, w32_66, w32_67, w32_68, w32_69, w32_70, w32_72, w32_74, w32_76, w32_77, w32_80, w32_82, w32_85, w32_86, w32_89, w32_90, w32_91, w32_93, w32_96, w32_99, w32_100, w32_102, w32_103, w32_106, w32_107, w32_108, w32_109, w32_110, w32_111, w32_112, w32_114, w32_116, w32_119, w32_120, w32_123, w32_124, w32_125, hs, hl, ↓neg_vM, ↓neg_vB, ↓neg_vS, ↓neg_vF, ↓neg_vO, ↓neg_vA, ↓neg_vN, lit_nI, nI_leI, nI_ltI, nI_eq, jm_in_nI, nI_clamp, nI_add, n_mul, pk_sub, n_le_t, n_le_f, n_lt_t, n_lt_f, n_eq_t, n_eq_f, true_and, and_true, ne_eq, not_false_eq_true, not_true_eq_false, min_n, max_n, dif_n, n_rem, n_div, or_nI, shl_nI, Option.toList_some, Option.toList_none, List.singleton_append, List.nil_append, if_true, if_false, or_true, true_or, or_false, false_or, and_false, false_and, Bool.false_eq_true, x2, z1, e2, c5]
          · have e : shV k h n = nI (n * lk k h / sumL k (k 1) + 0) := by unfold shV; rw [if_neg (by omega), if_neg c4]
            have c5 : shO k n (sumL k (k 1)) (k 1) ≤ nI (cnt (shA k h) (k 1)) := Int32.not_lt.mp c4
            rw [e]
            simp (disch := omega) only [w32_42, w32_43, w32_46, w32_49, w32_51, w32_52, w32_55, w32_57, w32_58, w32_59, w32_61, w32_63, w32_64, w32_66, w32_67, w32_68, w32_69, w32_70, w32_72, w32_74, w32_76, w32_77, w32_80, w32_82, w32_85, w32_86, w32_89, w32_90, w32_91, w32_93, w32_96, w32_99, w32_100, w32_102, w32_103, w32_106, w32_107, w32_108, w32_109, w32_110, w32_111, w32_112, w32_114, w32_116, w32_119, w32_120, w32_123, w32_124, w32_125, hs, hl, ↓neg_vM, ↓neg_vB, ↓neg_vS, ↓neg_vF, ↓neg_vO, ↓neg_vA, ↓neg_vN, lit_nI, nI_leI, nI_ltI, nI_eq, jm_in_nI, nI_clamp, nI_add, n_mul, pk_sub, n_le_t, n_le_f, n_lt_t, n_lt_f, n_eq_t, n_eq_f, true_and, and_true, ne_eq, not_false_eq_true, not_true_eq_false, min_n, max_n, dif_n, n_rem, n_div, or_nI, shl_nI, Option.toList_some, Option.toList_none, List.singleton_append, List.nil_append, if_true, if_false, or_true, true_or, or_false, false_or, and_false, false_and, Bool.false_eq_true, x2, z1, e2, c5]
        · intro i hi ih u
          obtain ⟨y1, y2⟩ := hX.2.2.2.2.1 i hi
          obtain ⟨a1, a2⟩ := hV.2.2.2.2.1 i hi
          have e3 : 20 - kSt k i = lk k i := rfl
          have hlk2 := lk_le k i
          have hml2 := mul_le999 hn hlk2
          rw [← ih (.int (nI (lk k i))), w32_40, shO, cnt]
          by_cases c4 : i < h
          · by_cases c5 : 0 < lk k i
            · have e : shA k h i = true := by simp [shA, c4, c5]
              simp (disch := omega) only [w32_42, w32_43, w32_46, w32_49, w32_51, w32_52, w32_55, w32_57, w32_58, w32_59, w32_61, w32_63, w32_64, w32_66, w32_67, w32_68, w32_69, w32_70, w32_72, w32_74, w32_76, w32_77, w32_80, w32_82, w32_85, w32_86, w32_89, w32_90, w32_91, w32_93, w32_96, hs, hl, ↓neg_vM, ↓neg_vB, ↓neg_vS, ↓neg_vF, ↓neg_vO, ↓neg_vA, ↓neg_vN, lit_nI, nI_leI, nI_ltI, nI_eq, jm_in_nI, nI_clamp, nI_add, n_mul, pk_sub, n_le_t, n_le_f, n_lt_t, n_lt_f, n_eq_t, n_eq_f, true_and, and_true, ne_eq, not_false_eq_true, not_true_eq_false, min_n, max_n, dif_n, n_rem, n_div, or_nI, shl_nI, Option.toList_some, Option.toList_none, List.singleton_append, List.nil_append, if_true, if_false, or_true, true_or, or_false, false_or, and_false, false_and, Bool.false_eq_true, x2, y1, e3, e]
            · have e : shA k h i = false := by simp [shA, c5]
              simp (disch := omega) only [w32_42, w32_43, w32_46, w32_49, w32_51, w32_52, w32_55, w32_57, w32_58, w32_59, w32_61, w32_63, w32_64, w32_66, w32_67, w32_68, w32_69, w32_70, w32_72, w32_74, w32_76, w32_77, w32_80, w32_82, w32_85, w32_86, w32_89, w32_90, w32_91, w32_93, w32_96, hs, hl, ↓neg_vM, ↓neg_vB, ↓neg_vS, ↓neg_vF, ↓neg_vO, ↓neg_vA, ↓neg_vN, lit_nI, nI_leI, nI_ltI, nI_eq, jm_in_nI, nI_clamp, nI_add, n_mul, pk_sub, n_le_t, n_le_f, n_lt_t, n_lt_f, n_eq_t, n_eq_f, true_and, and_true, ne_eq, not_false_eq_true, not_true_eq_false, min_n, max_n, dif_n, n_rem, n_div, or_nI, shl_nI, Option.toList_some, Option.toList_none, List.singleton_append, List.nil_append, if_true, if_false, or_true, true_or, or_false, false_or, and_false, false_and, Bool.false_eq_true, x2, y1, e3, e]
          · have e : shA k h i = false := by simp [shA, c4]
            simp (disch := omega) only [w32_42, w32_43, w32_46, w32_49, w32_51, w32_52, w32_55, w32_57, w32_58, w32_59, w32_61, w32_63, w32_64, w32_66, w32_67, w32_68, w32_69, w32_70, w32_72, w32_74, w32_76, w32_77, w32_80, w32_82, w32_85, w32_86, w32_89, w32_90, w32_91, w32_93, w32_96, hs, hl, ↓neg_vM, ↓neg_vB, ↓neg_vS, ↓neg_vF, ↓neg_vO, ↓neg_vA, ↓neg_vN, lit_nI, nI_leI, nI_ltI, nI_eq, jm_in_nI, nI_clamp, nI_add, n_mul, pk_sub, n_le_t, n_le_f, n_lt_t, n_lt_f, n_eq_t, n_eq_f, true_and, and_true, ne_eq, not_false_eq_true, not_true_eq_false, min_n, max_n, dif_n, n_rem, n_div, or_nI, shl_nI, Option.toList_some, Option.toList_none, List.singleton_append, List.nil_append, if_true, if_false, or_true, true_or, or_false, false_or, and_false, false_and, Bool.false_eq_true, x2, y1, e3, e]
      simp (disch := omega) only [cl32, w32_0, w32_1, w32_4, w32_6, w32_7, w32_8, w32_11, w32_12, w32_13, w32_14, w32_15, w32_18, w32_19, w32_22, w32_23, w32_24, w32_26, w32_29, w32_30, w32_31, w32_32, w32_34, w32_35, w32_37, w32_38, hs, hl, ↓neg_vM, ↓neg_vB, ↓neg_vS, ↓neg_vF, ↓neg_vO, ↓neg_vA, ↓neg_vN, lit_nI, nI_leI, nI_ltI, nI_eq, jm_in_nI, nI_clamp, nI_add, n_mul, pk_sub, n_le_t, n_le_f, n_lt_t, n_lt_f, n_eq_t, n_eq_f, true_and, and_true, ne_eq, not_false_eq_true, not_true_eq_false, min_n, max_n, dif_n, n_rem, n_div, or_nI, shl_nI, Option.toList_some, Option.toList_none, List.singleton_append, List.nil_append, if_true, if_false, or_true, true_or, or_false, false_or, and_false, false_and, Bool.false_eq_true, x2, c_allStrength isC25 hX hV, e1, z1]
      exact key 0 (Nat.zero_le _) _
theorem r_lacks {h : Nat} {T : jm_I2} (hM : RM 132 T k) (hV : KV k) (hh : h < k 1) : CL L (d + 1) 197 [.ref 128, .int (nI h)] T Z ↔ Z (some (.int (nI (lk k h)))) T := by
  have hm := mod_sh L
  have v1 := hV.2.1
  obtain ⟨b1, b2⟩ := hV.2.2.2.2.1 h hh
  simp (disch := omega) only [cl197, w197_0, w197_2, w197_3, w197_6, w197_7, w197_10, w197_11, hm, ↓neg_vM, ↓neg_vB, ↓neg_vS, ↓neg_vF, ↓neg_vO, ↓neg_vA, ↓neg_vN, lit_nI, nI_leI, nI_ltI, nI_eq, jm_in_nI, nI_clamp, nI_add, n_mul, pk_sub, n_le_t, n_le_f, n_lt_t, n_lt_f, n_eq_t, n_eq_f, true_and, and_true, ne_eq, not_false_eq_true, not_true_eq_false, min_n, max_n, dif_n, n_rem, n_div, or_nI, shl_nI, Option.toList_some, Option.toList_none, List.singleton_append, List.nil_append, if_true, if_false, or_true, true_or, or_false, false_or, and_false, false_and, Bool.false_eq_true, r_strength isR132 hM]
  exact Iff.rfl
theorem sumL_le (k : kT) : ∀ n, sumL k n ≤ 20 * n
  | 0 => Nat.le_refl _
  | n + 1 => by
    have := sumL_le k n
    have := lk_le k n
    rw [sumL]
    omega
theorem r_share {h n : Nat} {T : jm_I2} (hM : RM 132 T k) (hV : KV k) (hh : h < k 1) (hn : n ≤ 999) : WQ L (d + 2) 198 28 [.ref 128, .int (nI h), .int (nI n), .null, .null, .null, .null] [] T Z ↔ Z (some (.int (shV k h n))) T := by
  have hm := mod_sh L
  have e0 := hM 1 (by decide)
  have v1 := hV.2.1
  have hlk := lk_le k h
  have hml := mul_le999 hn hlk
  have hsl := sumL_le k (k 1)
  have l1 : ∀ i, i ≤ k 1 → (WQ L (d + 2) 198 33 [.ref 128, .int (nI h), .int (nI n), .int (nI (sumL k i)), .int (nI i), .null, .null] [] T Z ↔ WQ L (d + 2) 198 59 [.ref 128, .int (nI h), .int (nI n), .int (nI (sumL k (k 1))), .int (nI (k 1)), .null, .null] [] T Z) := by
    apply down_ind
    · rw [w198_33]
      simp (disch := omega) only [w198_35, w198_36, w198_39, w198_40, w198_41, w198_44, w198_45, w198_46, w198_48, w198_51, w198_52, w198_53, w198_56, hm, ↓neg_vM, ↓neg_vB, ↓neg_vS, ↓neg_vF, ↓neg_vO, ↓neg_vA, ↓neg_vN, lit_nI, nI_leI, nI_ltI, nI_eq, jm_in_nI, nI_clamp, nI_add, n_mul, pk_sub, n_le_t, n_le_f, n_lt_t, n_lt_f, n_eq_t, n_eq_f, true_and, and_true, ne_eq, not_false_eq_true, not_true_eq_false, min_n, max_n, dif_n, n_rem, n_div, or_nI, shl_nI, Option.toList_some, Option.toList_none, List.singleton_append, List.nil_append, if_true, if_false, or_true, true_or, or_false, false_or, and_false, false_and, Bool.false_eq_true, e0]
    · intro i hi ih
      rw [← ih, w198_33, sumL]
      simp (disch := omega) only [w198_35, w198_36, w198_39, w198_40, w198_41, w198_44, w198_45, w198_46, w198_48, w198_51, w198_52, w198_53, w198_56, hm, ↓neg_vM, ↓neg_vB, ↓neg_vS, ↓neg_vF, ↓neg_vO, ↓neg_vA, ↓neg_vN, lit_nI, nI_leI, nI_ltI, nI_eq, jm_in_nI, nI_clamp, nI_add, n_mul, pk_sub, n_le_t, n_le_f, n_lt_t, n_lt_f, n_eq_t, n_eq_f, true_and, and_true, ne_eq, not_false_eq_true, not_true_eq_false, min_n, max_n, dif_n, n_rem, n_div, or_nI, shl_nI, Option.toList_some, Option.toList_none, List.singleton_append, List.nil_append, if_true, if_false, or_true, true_or, or_false, false_or, and_false, false_and, Bool.false_eq_true, e0, r_lacks hM hV]
  simp (disch := omega) only [w198_28, w198_29, w198_30, w198_31, ↓neg_vM, ↓neg_vB, ↓neg_vS, ↓neg_vF, ↓neg_vO, ↓neg_vA, ↓neg_vN, lit_nI, nI_leI, nI_ltI, nI_eq, jm_in_nI, nI_clamp, nI_add, n_mul, pk_sub, n_le_t, n_le_f, n_lt_t, n_lt_f, n_eq_t, n_eq_f, true_and, and_true, ne_eq, not_false_eq_true, not_true_eq_false, min_n, max_n, dif_n, n_rem, n_div, or_nI, shl_nI, Option.toList_some, Option.toList_none, List.singleton_append, List.nil_append, if_true, if_false, or_true, true_or, or_false, false_or, and_false, false_and, Bool.false_eq_true]
  have l0 := l1 0 (Nat.zero_le _)
  rw [sumL] at l0
  rw [l0]
  by_cases c1 : sumL k (k 1) = 0
  · have e : shV k h n = nI 0 := by unfold shV; rw [if_pos (Or.inl c1)]
    rw [e]
    simp (disch := omega) only [w198_59, w198_60, w198_63, w198_64, ↓neg_vM, ↓neg_vB, ↓neg_vS, ↓neg_vF, ↓neg_vO, ↓neg_vA, ↓neg_vN, lit_nI, nI_leI, nI_ltI, nI_eq, jm_in_nI, nI_clamp, nI_add, n_mul, pk_sub, n_le_t, n_le_f, n_lt_t, n_lt_f, n_eq_t, n_eq_f, true_and, and_true, ne_eq, not_false_eq_true, not_true_eq_false, min_n, max_n, dif_n, n_rem, n_div, or_nI, shl_nI, Option.toList_some, Option.toList_none, List.singleton_append, List.nil_append, if_true, if_false, or_true, true_or, or_false, false_or, and_false, false_and, Bool.false_eq_true, c1]
  · have key : ∀ i, i ≤ k 1 → (WQ L (d + 2) 198 74 [.ref 128, .int (nI h), .int (nI n), .int (nI (sumL k (k 1))), .int (shO k n (sumL k (k 1)) i), .int (nI (cnt (shA k h) i)), .int (nI i)] [] T Z ↔ Z (some (.int (shV k h n))) T) := by
      apply down_ind
      · rw [w198_74]
        have hdv := div_le (b := sumL k (k 1)) hml
        by_cases c2 : lk k h = 0
        · have e : shV k h n = nI 0 := by unfold shV; rw [if_pos (Or.inr c2)]
          have e2 : n * lk k h / sumL k (k 1) + 0 = 0 := by rw [c2]; simp
          rw [e]
          simp (disch := omega) only [w198_76, w198_77, w198_80, w198_81, w198_82, w198_85, w198_87, w198_88, w198_89, w198_91, w198_94, w198_95, w198_96, w198_97, w198_98, w198_100, w198_102, w198_104, w198_105, w198_108, w198_109, w198_111, w198_114, w198_117, w198_118, w198_121, w198_122, w198_123, w198_125, w198_128, w198_131, w198_132, w198_133, w198_134, w198_137, w198_138, w198_139, w198_140, w198_141, w198_142, w198_145, w198_148, w198_150, w198_152, w198_155, w198_156, w198_159, w198_160, w198_161, hm, ↓neg_vM, ↓neg_vB, ↓neg_vS, ↓neg_vF, ↓neg_vO, ↓neg_vA, ↓neg_vN, lit_nI, nI_leI, nI_ltI, nI_eq, jm_in_nI, nI_clamp, nI_add, n_mul, pk_sub, n_le_t, n_le_f, n_lt_t, n_lt_f, n_eq_t, n_eq_f, true_and, and_true, ne_eq, not_false_eq_true, not_true_eq_false, min_n, max_n, dif_n, n_rem, n_div, or_nI, shl_nI, Option.toList_some, Option.toList_none, List.singleton_append, List.nil_append, if_true, if_false, or_true, true_or, or_false, false_or, and_false, false_and, Bool.false_eq_true, e0, r_lacks hM hV, c2, e2, Nat.mul_zero, Nat.zero_div]
        · by_cases c4 : nI (cnt (shA k h) (k 1)) < shO k n (sumL k (k 1)) (k 1)
          · have e : shV k h n = nI (n * lk k h / sumL k (k 1) + 1) := by unfold shV; rw [if_neg (by omega), if_pos c4]
            have c5 : ¬ shO k n (sumL k (k 1)) (k 1) ≤ nI (cnt (shA k h) (k 1)) := Int32.not_le.mpr c4
            rw [e]
            simp (disch := omega) only [w198_76, w198_77, w198_80, w198_81, w198_82, w198_85, w198_87, w198_88, w198_89, w198_91, w198_94, w198_95, w198_96, w198_97, w198_98, w198_100, w198_102, w198_104, w198_105, w198_108, w198_109, w198_111, w198_114, w198_117, w198_118, w198_121, w198_122, w198_123, w198_125, w198_128, w198_131, w198_132, w198_133, w198_134, w198_137, w198_138, w198_139, w198_140, w198_141, w198_142, w198_145, w198_148, w198_150, w198_152, w198_155, w198_156, w198_159, w198_160, w198_161, hm, ↓neg_vM, ↓neg_vB, ↓neg_vS, ↓neg_vF, ↓neg_vO, ↓neg_vA, ↓neg_vN, lit_nI, nI_leI, nI_ltI, nI_eq, jm_in_nI, nI_clamp, nI_add, n_mul, pk_sub, n_le_t, n_le_f, n_lt_t, n_lt_f, n_eq_t, n_eq_f, true_and, and_true, ne_eq, not_false_eq_true, not_true_eq_false, min_n, max_n, dif_n, n_rem, n_div, or_nI, shl_nI, Option.toList_some, Option.toList_none, List.singleton_append, List.nil_append, if_true, if_false, or_true, true_or, or_false, false_or, and_false, false_and, Bool.false_eq_true, e0, r_lacks hM hV, c5]
          · have e : shV k h n = nI (n * lk k h / sumL k (k 1) + 0) := by unfold shV; rw [if_neg (by omega), if_neg c4]
            have c5 : shO k n (sumL k (k 1)) (k 1) ≤ nI (cnt (shA k h) (k 1)) := Int32.not_lt.mp c4
            rw [e]
            simp (disch := omega) only [w198_76, w198_77, w198_80, w198_81, w198_82, w198_85, w198_87, w198_88, w198_89, w198_91, w198_94, w198_95, w198_96, w198_97, w198_98, w198_100, w198_102, w198_104, w198_105, w198_108, w198_109, w198_111, w198_114, w198_117, w198_118, w198_121, w198_122, w198_123, w198_125, w198_128, w198_131, w198_132, w198_133, w198_134, w198_137, w198_138, w198_139, w198_140, w198_141, w198_142, w198_145, w198_148, w198_150, w198_152, w198_155, w198_156, w198_159, w198_160, w198_161, hm, ↓neg_vM, ↓neg_vB, ↓neg_vS, ↓neg_vF, ↓neg_vO, ↓neg_vA, ↓neg_vN, lit_nI, nI_leI, nI_ltI, nI_eq, jm_in_nI, nI_clamp, nI_add, n_mul, pk_sub, n_le_t, n_le_f, n_lt_t, n_lt_f, n_eq_t, n_eq_f, true_and, and_true, ne_eq, not_false_eq_true, not_true_eq_false, min_n, max_n, dif_n, n_rem, n_div, or_nI, shl_nI, Option.toList_some, Option.toList_none, List.singleton_append, List.nil_append, if_true, if_false, or_true, true_or, or_false, false_or, and_false, false_and, Bool.false_eq_true, e0, r_lacks hM hV, c5]
      · intro i hi ih
        have hlk2 := lk_le k i
        have hml2 := mul_le999 hn hlk2
        rw [← ih, w198_74, shO, cnt]
        by_cases c4 : i < h
        · by_cases c5 : 0 < lk k i
          · have e : shA k h i = true := by simp [shA, c4, c5]
            simp (disch := omega) only [w198_76, w198_77, w198_80, w198_81, w198_82, w198_85, w198_87, w198_88, w198_89, w198_91, w198_94, w198_95, w198_96, w198_97, w198_98, w198_100, w198_102, w198_104, w198_105, w198_108, w198_109, w198_111, w198_114, w198_117, w198_118, w198_121, w198_122, w198_123, w198_125, w198_128, hm, ↓neg_vM, ↓neg_vB, ↓neg_vS, ↓neg_vF, ↓neg_vO, ↓neg_vA, ↓neg_vN, lit_nI, nI_leI, nI_ltI, nI_eq, jm_in_nI, nI_clamp, nI_add, n_mul, pk_sub, n_le_t, n_le_f, n_lt_t, n_lt_f, n_eq_t, n_eq_f, true_and, and_true, ne_eq, not_false_eq_true, not_true_eq_false, min_n, max_n, dif_n, n_rem, n_div, or_nI, shl_nI, Option.toList_some, Option.toList_none, List.singleton_append, List.nil_append, if_true, if_false, or_true, true_or, or_false, false_or, and_false, false_and, Bool.false_eq_true, e0, r_lacks hM hV, e]
          · have e : shA k h i = false := by simp [shA, c5]
            simp (disch := omega) only [w198_76, w198_77, w198_80, w198_81, w198_82, w198_85, w198_87, w198_88, w198_89, w198_91, w198_94, w198_95, w198_96, w198_97, w198_98, w198_100, w198_102, w198_104, w198_105, w198_108, w198_109, w198_111, w198_114, w198_117, w198_118, w198_121, w198_122, w198_123, w198_125, w198_128, hm, ↓neg_vM, ↓neg_vB, ↓neg_vS, ↓neg_vF, ↓neg_vO, ↓neg_vA, ↓neg_vN, lit_nI, nI_leI, nI_ltI, nI_eq, jm_in_nI, nI_clamp, nI_add, n_mul, pk_sub, n_le_t, n_le_f, n_lt_t, n_lt_f, n_eq_t, n_eq_f, true_and, and_true, ne_eq, not_false_eq_true, not_true_eq_false, min_n, max_n, dif_n, n_rem, n_div, or_nI, shl_nI, Option.toList_some, Option.toList_none, List.singleton_append, List.nil_append, if_true, if_false, or_true, true_or, or_false, false_or, and_false, false_and, Bool.false_eq_true, e0, r_lacks hM hV, e]
        · have e : shA k h i = false := by simp [shA, c4]
          simp (disch := omega) only [w198_76, w198_77, w198_80, w198_81, w198_82, w198_85, w198_87, w198_88, w198_89, w198_91, w198_94, w198_95, w198_96, w198_97, w198_98, w198_100, w198_102, w198_104, w198_105, w198_108, w198_109, w198_111, w198_114, w198_117, w198_118, w198_121, w198_122, w198_123, w198_125, w198_128, hm, ↓neg_vM, ↓neg_vB, ↓neg_vS, ↓neg_vF, ↓neg_vO, ↓neg_vA, ↓neg_vN, lit_nI, nI_leI, nI_ltI, nI_eq, jm_in_nI, nI_clamp, nI_add, n_mul, pk_sub, n_le_t, n_le_f, n_lt_t, n_lt_f, n_eq_t, n_eq_f, true_and, and_true, ne_eq, not_false_eq_true, not_true_eq_false, min_n, max_n, dif_n, n_rem, n_div, or_nI, shl_nI, Option.toList_some, Option.toList_none, List.singleton_append, List.nil_append, if_true, if_false, or_true, true_or, or_false, false_or, and_false, false_and, Bool.false_eq_true, e0, r_lacks hM hV, e]
    simp (disch := omega) only [w198_59, w198_60, w198_63, w198_64, w198_65, w198_66, w198_68, w198_69, w198_71, w198_72, ↓neg_vM, ↓neg_vB, ↓neg_vS, ↓neg_vF, ↓neg_vO, ↓neg_vA, ↓neg_vN, lit_nI, nI_leI, nI_ltI, nI_eq, jm_in_nI, nI_clamp, nI_add, n_mul, pk_sub, n_le_t, n_le_f, n_lt_t, n_lt_f, n_eq_t, n_eq_f, true_and, and_true, ne_eq, not_false_eq_true, not_true_eq_false, min_n, max_n, dif_n, n_rem, n_div, or_nI, shl_nI, Option.toList_some, Option.toList_none, List.singleton_append, List.nil_append, if_true, if_false, or_true, true_or, or_false, false_or, and_false, false_and, Bool.false_eq_true]
    exact key 0 (Nat.zero_le _)
theorem p_share {v w : Int32} (hI : InvK xs S k) : CL L (d + 9) 104 [.ref 0, .int v, .int w] S (Zx xs L (d + 9) 198 [.ref 128, .int v, .int w]) := by
  have ht := top_sh L
  have hm := mod_sh L
  obtain ⟨hX, hM, hV, -, h01⟩ := hI.2.2.2.1
  have hM4 : RM 132 (jm_upd S 128 0 (nI 0)) k := RM_of hM (upd_ne (by decide))
  have v1 := hV.2.1
  by_cases h : isN v (k 1) = true
  · by_cases h2 : nI 0 ≤ w ∧ w ≤ nI 999
    · obtain ⟨r, hr, rfl⟩ := isN_of (by omega) h
      obtain ⟨n, -, hn, rfl⟩ := btw (by decide) h2 (by decide)
      clear h2
      simp (disch := omega) only [cl104, w104_0, w104_1, w104_2, w104_5, w104_8, w104_9, w104_10, w104_13, w104_16, w104_19, w104_21, w104_22, w104_23, w104_26, w104_27, w104_28, w104_31, ht, ↓neg_vM, ↓neg_vB, ↓neg_vS, ↓neg_vF, ↓neg_vO, ↓neg_vA, ↓neg_vN, lit_nI, nI_leI, nI_ltI, nI_eq, jm_in_nI, nI_clamp, nI_add, n_mul, pk_sub, n_le_t, n_le_f, n_lt_t, n_lt_f, n_eq_t, n_eq_f, true_and, and_true, ne_eq, not_false_eq_true, not_true_eq_false, min_n, max_n, dif_n, n_rem, n_div, or_nI, shl_nI, Option.toList_some, Option.toList_none, List.singleton_append, List.nil_append, if_true, if_false, or_true, true_or, or_false, false_or, and_false, false_and, Bool.false_eq_true, Zx_some, c_noHand hX hV, h, c_withinP, c_shareOf hX hV]
      simp (disch := omega) only [w198_0, w198_1, w198_2, w198_5, w198_6, w198_7, w198_10, w198_13, w198_14, w198_15, w198_16, w198_19, w198_22, w198_25, w198_27, cl198, hm, ↓neg_vM, ↓neg_vB, ↓neg_vS, ↓neg_vF, ↓neg_vO, ↓neg_vA, ↓neg_vN, lit_nI, nI_leI, nI_ltI, nI_eq, jm_in_nI, nI_clamp, nI_add, n_mul, pk_sub, n_le_t, n_le_f, n_lt_t, n_lt_f, n_eq_t, n_eq_f, true_and, and_true, ne_eq, not_false_eq_true, not_true_eq_false, min_n, max_n, dif_n, n_rem, n_div, or_nI, shl_nI, Option.toList_some, Option.toList_none, List.singleton_append, List.nil_append, if_true, if_false, or_true, true_or, or_false, false_or, and_false, false_and, Bool.false_eq_true, Zm_some, r_isHand hM4 v1, h, lit_lN, nI_l, r_in, lN_le, r_share hM4 hV]
      exact ⟨k, InvK_same hI Same_thrown⟩
    · simp (disch := omega) only [cl104, w104_0, w104_1, w104_2, w104_5, w104_8, w104_9, w104_10, w104_13, w104_16, w104_19, w104_21, w104_22, w104_23, w104_26, w104_27, w104_28, w104_31, ht, ↓neg_vM, ↓neg_vB, ↓neg_vS, ↓neg_vF, ↓neg_vO, ↓neg_vA, ↓neg_vN, lit_nI, nI_leI, nI_ltI, nI_eq, jm_in_nI, nI_clamp, nI_add, n_mul, pk_sub, n_le_t, n_le_f, n_lt_t, n_lt_f, n_eq_t, n_eq_f, true_and, and_true, ne_eq, not_false_eq_true, not_true_eq_false, min_n, max_n, dif_n, n_rem, n_div, or_nI, shl_nI, Option.toList_some, Option.toList_none, List.singleton_append, List.nil_append, if_true, if_false, or_true, true_or, or_false, false_or, and_false, false_and, Bool.false_eq_true, Zx_some, c_noHand hX hV, h, c_withinP, h2]
      simp (disch := omega) only [w198_0, w198_1, w198_2, w198_5, w198_6, w198_7, w198_10, w198_13, w198_14, w198_15, w198_16, w198_19, w198_22, w198_25, w198_27, cl198, hm, ↓neg_vM, ↓neg_vB, ↓neg_vS, ↓neg_vF, ↓neg_vO, ↓neg_vA, ↓neg_vN, lit_nI, nI_leI, nI_ltI, nI_eq, jm_in_nI, nI_clamp, nI_add, n_mul, pk_sub, n_le_t, n_le_f, n_lt_t, n_lt_f, n_eq_t, n_eq_f, true_and, and_true, ne_eq, not_false_eq_true, not_true_eq_false, min_n, max_n, dif_n, n_rem, n_div, or_nI, shl_nI, Option.toList_some, Option.toList_none, List.singleton_append, List.nil_append, if_true, if_false, or_true, true_or, or_false, false_or, and_false, false_and, Bool.false_eq_true, Zm_some, r_isHand hM4 v1, h, lit_lN, r_in, lx_le, xl_le, h2]
      exact ⟨k, InvK_same hI Same_thrown⟩
  · simp (disch := omega) only [cl104, w104_0, w104_1, w104_2, w104_5, w104_8, w104_9, w104_10, w104_13, w104_16, w104_19, w104_21, w104_22, w104_23, w104_26, w104_27, w104_28, w104_31, ht, ↓neg_vM, ↓neg_vB, ↓neg_vS, ↓neg_vF, ↓neg_vO, ↓neg_vA, ↓neg_vN, lit_nI, nI_leI, nI_ltI, nI_eq, jm_in_nI, nI_clamp, nI_add, n_mul, pk_sub, n_le_t, n_le_f, n_lt_t, n_lt_f, n_eq_t, n_eq_f, true_and, and_true, ne_eq, not_false_eq_true, not_true_eq_false, min_n, max_n, dif_n, n_rem, n_div, or_nI, shl_nI, Option.toList_some, Option.toList_none, List.singleton_append, List.nil_append, if_true, if_false, or_true, true_or, or_false, false_or, and_false, false_and, Bool.false_eq_true, Zx_some, c_noHand hX hV, h]
    simp (disch := omega) only [w198_0, w198_1, w198_2, w198_5, w198_6, w198_7, w198_10, w198_13, w198_14, w198_15, w198_16, w198_19, w198_22, w198_25, w198_27, cl198, hm, ↓neg_vM, ↓neg_vB, ↓neg_vS, ↓neg_vF, ↓neg_vO, ↓neg_vA, ↓neg_vN, lit_nI, nI_leI, nI_ltI, nI_eq, jm_in_nI, nI_clamp, nI_add, n_mul, pk_sub, n_le_t, n_le_f, n_lt_t, n_lt_f, n_eq_t, n_eq_f, true_and, and_true, ne_eq, not_false_eq_true, not_true_eq_false, min_n, max_n, dif_n, n_rem, n_div, or_nI, shl_nI, Option.toList_some, Option.toList_none, List.singleton_append, List.nil_append, if_true, if_false, or_true, true_or, or_false, false_or, and_false, false_and, Bool.false_eq_true, Zm_some, r_isHand hM4 v1, h]
    exact ⟨k, InvK_same hI Same_thrown⟩
end
