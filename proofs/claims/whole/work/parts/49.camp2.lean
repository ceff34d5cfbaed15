/-! ===== what the class says of a camp ===== -/
def kHd (k : kT) (r : Nat) : Bool := decide (0 < kBt k r)
def kHo (k : kT) (t : Nat) (r : Nat) : Bool := decide (0 < kBt k r) && decide (kBr k r &&& t ≠ 0)
def sumB (k : kT) : Nat → Nat
  | 0 => 0
  | n + 1 => sumB k n + kBt k n
def sumS (k : kT) : Nat → Nat
  | 0 => 0
  | n + 1 => sumS k n + kSt k n
def orB (k : kT) (m : Nat) : Nat → Nat
  | 0 => 0
  | n + 1 => orB k m n ||| (if m.testBit n = true then kBr k n else 0)
theorem bset_T {p : Nat → Bool} {i : Nat} (h : p i = true) : bset p (i + 1) = bset p i ||| 2 ^ i := by rw [bset, if_pos h, or_pow (bset_lt p i)]
theorem bset_F {p : Nat → Bool} {i : Nat} (h : p i = false) : bset p (i + 1) = bset p i ||| 0 := by rw [bset, h]; simp
theorem sumB_le {k : kT} (hV : KV k) : ∀ n, n ≤ k 0 → sumB k n ≤ 60 * n
  | 0, _ => Nat.le_refl _
  | n + 1, h => by
    have := sumB_le hV n (by omega)
    have := (hV.2.2.2.2.2 n (by omega)).2.2.1
    rw [sumB]
    omega
theorem sumS_le {k : kT} (hV : KV k) : ∀ n, n ≤ k 1 → sumS k n ≤ 20 * n
  | 0, _ => Nat.le_refl _
  | n + 1, h => by
    have := sumS_le hV n (by omega)
    have := (hV.2.2.2.2.1 n (by omega)).1
    rw [sumS]
    omega
theorem orB_lt {k : kT} (hV : KV k) (m : Nat) : ∀ n, n ≤ k 0 → orB k m n < 64
  | 0, _ => show 0 < 64 by decide
  | n + 1, h => by
    have h1 := orB_lt hV m n (by omega)
    have h2 := (hV.2.2.2.2.2 n (by omega)).2.2.2.2.2
    rw [orB]
    refine Nat.or_lt_two_pow (n := 6) h1 ?_
    split <;> omega
section
variable {L d : Nat} {S : jm_I2} {Z : Option Value → jm_I2 → Prop}
theorem c_withinP {v a b : Int32} : CL L d 117 [.int v, .int a, .int b] S Z ↔ (if a ≤ v ∧ v ≤ b then Z (some (.int (nI 1))) S else Z (some (.int (nI 0))) S) := by
  rw [c_within]
  by_cases h : a ≤ v ∧ v ≤ b
  · rw [if_pos h, if_pos h]; rfl
  · rw [if_neg h, if_neg h]; rfl
theorem c_isNone {c : Nat} {k : kT} (hc : isCamp c) (hX : RX c S k) (hV : KV k) : CL L d 13 [.ref c] S Z ↔ (if k 0 = 0 then Z (some (.int (nI 1))) S else Z (some (.int (nI 0))) S) := by
  have hs := camp_sh hc
  obtain ⟨v0, v1, v2, v3, v4, v5⟩ := hV
  obtain ⟨x0, x1, x2, x3, x4, x5⟩ := hX
  by_cases h : k 0 = 0
  · simp (disch := omega) only [cl13, w13_0, w13_1, w13_4, w13_5, w13_8, w13_9, w13_12, w13_13, hs, ↓neg_vN, lit_nI, nI_leI, nI_ltI, nI_eq, jm_in_nI, nI_clamp, nI_add, n_mul, pk_sub, n_le_t, n_le_f, n_lt_t, n_lt_f, n_eq_t, n_eq_f, true_and, and_true, ne_eq, not_false_eq_true, not_true_eq_false, min_n, max_n, dif_n, n_rem, n_div, or_nI, shl_nI, Option.toList_some, Option.toList_none, List.singleton_append, List.nil_append, if_true, if_false, or_true, true_or, or_false, false_or, and_false, false_and, Bool.false_eq_true, x3, h]
  · simp (disch := omega) only [cl13, w13_0, w13_1, w13_4, w13_5, w13_8, w13_9, w13_12, w13_13, hs, ↓neg_vN, lit_nI, nI_leI, nI_ltI, nI_eq, jm_in_nI, nI_clamp, nI_add, n_mul, pk_sub, n_le_t, n_le_f, n_lt_t, n_lt_f, n_eq_t, n_eq_f, true_and, and_true, ne_eq, not_false_eq_true, not_true_eq_false, min_n, max_n, dif_n, n_rem, n_div, or_nI, shl_nI, Option.toList_some, Option.toList_none, List.singleton_append, List.nil_append, if_true, if_false, or_true, true_or, or_false, false_or, and_false, false_and, Bool.false_eq_true, x3, h]
theorem c_holds {c r : Nat} {k : kT} (hc : isCamp c) (hX : RX c S k) (hV : KV k) (hr : r < k 0) : CL L d 24 [.ref c, .int (nI r)] S Z ↔ (if 0 < kBt k r then Z (some (.int (nI 1))) S else Z (some (.int (nI 0))) S) := by
  have hs := camp_sh hc
  have hl := camp_ll L hc
  obtain ⟨v0, v1, v2, v3, v4, v5⟩ := hV
  obtain ⟨x0, x1, x2, x3, x4, x5⟩ := hX
  obtain ⟨z1, z2, z3, z4⟩ := x5 r hr
  obtain ⟨b1, b2, b3, b4, b5, b6⟩ := v5 r hr
  by_cases h : 0 < kBt k r
  · simp (disch := omega) only [cl24, w24_0, w24_1, w24_4, w24_5, w24_6, w24_9, w24_10, w24_13, w24_14, hs, hl, ↓neg_vN, lit_nI, nI_leI, nI_ltI, nI_eq, jm_in_nI, nI_clamp, nI_add, n_mul, pk_sub, n_le_t, n_le_f, n_lt_t, n_lt_f, n_eq_t, n_eq_f, true_and, and_true, ne_eq, not_false_eq_true, not_true_eq_false, min_n, max_n, dif_n, n_rem, n_div, or_nI, shl_nI, Option.toList_some, Option.toList_none, List.singleton_append, List.nil_append, if_true, if_false, or_true, true_or, or_false, false_or, and_false, false_and, Bool.false_eq_true, z2, h]
  · simp (disch := omega) only [cl24, w24_0, w24_1, w24_4, w24_5, w24_6, w24_9, w24_10, w24_13, w24_14, hs, hl, ↓neg_vN, lit_nI, nI_leI, nI_ltI, nI_eq, jm_in_nI, nI_clamp, nI_add, n_mul, pk_sub, n_le_t, n_le_f, n_lt_t, n_lt_f, n_eq_t, n_eq_f, true_and, and_true, ne_eq, not_false_eq_true, not_true_eq_false, min_n, max_n, dif_n, n_rem, n_div, or_nI, shl_nI, Option.toList_some, Option.toList_none, List.singleton_append, List.nil_append, if_true, if_false, or_true, true_or, or_false, false_or, and_false, false_and, Bool.false_eq_true, z2, h]
theorem c_holding {c : Nat} {k : kT} (hc : isCamp c) (hX : RX c S k) (hV : KV k) : CL L (d + 1) 25 [.ref c] S Z ↔ Z (some (.int (nI (bset (kHd k) (k 0))))) S := by
  have hs := camp_sh hc
  have hH := @c_holds L d S
  have x3 := hX.2.2.2.1
  have v0 := hV.1
  have key : ∀ i, i ≤ k 0 → (WQ L (d + 1) 25 4 [.ref c, .int (nI (bset (kHd k) i)), .int (nI i)] [] S Z ↔ Z (some (.int (nI (bset (kHd k) (k 0))))) S) := by
    apply down_ind
    · rw [w25_4]
      simp (disch := omega) only [w25_5, w25_6, w25_9, w25_12, w25_13, w25_14, w25_15, w25_18, w25_21, w25_22, w25_23, w25_24, w25_27, w25_28, w25_29, w25_30, w25_33, w25_36, w25_37, hs, ↓neg_vN, lit_nI, nI_leI, nI_ltI, nI_eq, jm_in_nI, nI_clamp, nI_add, n_mul, pk_sub, n_le_t, n_le_f, n_lt_t, n_lt_f, n_eq_t, n_eq_f, true_and, and_true, ne_eq, not_false_eq_true, not_true_eq_false, min_n, max_n, dif_n, n_rem, n_div, or_nI, shl_nI, Option.toList_some, Option.toList_none, List.singleton_append, List.nil_append, if_true, if_false, or_true, true_or, or_false, false_or, and_false, false_and, Bool.false_eq_true, x3]
    · intro i hi ih
      rw [← ih, w25_4]
      by_cases hP : 0 < kBt k i
      · rw [bset_T (p := kHd k) (by simp [kHd, hP])]
        simp (disch := omega) only [w25_5, w25_6, w25_9, w25_12, w25_13, w25_14, w25_15, w25_18, w25_21, w25_22, w25_23, w25_24, w25_27, w25_28, w25_29, w25_30, w25_33, w25_36, w25_37, hs, ↓neg_vN, lit_nI, nI_leI, nI_ltI, nI_eq, jm_in_nI, nI_clamp, nI_add, n_mul, pk_sub, n_le_t, n_le_f, n_lt_t, n_lt_f, n_eq_t, n_eq_f, true_and, and_true, ne_eq, not_false_eq_true, not_true_eq_false, min_n, max_n, dif_n, n_rem, n_div, or_nI, shl_nI, Option.toList_some, Option.toList_none, List.singleton_append, List.nil_append, if_true, if_false, or_true, true_or, or_false, false_or, and_false, false_and, Bool.false_eq_true, x3, c_holds hc hX hV]
      · rw [bset_F (p := kHd k) (by simp [kHd, hP])]
        simp (disch := omega) only [w25_5, w25_6, w25_9, w25_12, w25_13, w25_14, w25_15, w25_18, w25_21, w25_22, w25_23, w25_24, w25_27, w25_28, w25_29, w25_30, w25_33, w25_36, w25_37, hs, ↓neg_vN, lit_nI, nI_leI, nI_ltI, nI_eq, jm_in_nI, nI_clamp, nI_add, n_mul, pk_sub, n_le_t, n_le_f, n_lt_t, n_lt_f, n_eq_t, n_eq_f, true_and, and_true, ne_eq, not_false_eq_true, not_true_eq_false, min_n, max_n, dif_n, n_rem, n_div, or_nI, shl_nI, Option.toList_some, Option.toList_none, List.singleton_append, List.nil_append, if_true, if_false, or_true, true_or, or_false, false_or, and_false, false_and, Bool.false_eq_true, x3, c_holds hc hX hV]
  simp (disch := omega) only [cl25, w25_0, w25_1, w25_2, w25_3, ↓neg_vN, lit_nI, nI_leI, nI_ltI, nI_eq, jm_in_nI, nI_clamp, nI_add, n_mul, pk_sub, n_le_t, n_le_f, n_lt_t, n_lt_f, n_eq_t, n_eq_f, true_and, and_true, ne_eq, not_false_eq_true, not_true_eq_false, min_n, max_n, dif_n, n_rem, n_div, or_nI, shl_nI, Option.toList_some, Option.toList_none, List.singleton_append, List.nil_append, if_true, if_false, or_true, true_or, or_false, false_or, and_false, false_and, Bool.false_eq_true]
  exact key 0 (Nat.zero_le _)
theorem c_holdingOver {c t : Nat} {k : kT} (hc : isCamp c) (hX : RX c S k) (hV : KV k) (ht : t < 64) : CL L (d + 1) 26 [.ref c, .int (nI t)] S Z ↔ Z (some (.int (nI (bset (kHo k t) (k 0))))) S := by
  have hs := camp_sh hc
  have hl := camp_ll L hc
  have x3 := hX.2.2.2.1
  have v0 := hV.1
  have key : ∀ i, i ≤ k 0 → (WQ L (d + 1) 26 4 [.ref c, .int (nI t), .int (nI (bset (kHo k t) i)), .int (nI i)] [] S Z ↔ Z (some (.int (nI (bset (kHo k t) (k 0))))) S) := by
    apply down_ind
    · rw [w26_4]
      simp (disch := omega) only [w26_5, w26_6, w26_9, w26_12, w26_13, w26_14, w26_15, w26_18, w26_21, w26_22, w26_25, w26_26, w26_27, w26_28, w26_29, w26_32, w26_33, w26_34, w26_35, w26_38, w26_39, w26_40, w26_41, w26_44, w26_47, w26_48, hs, ↓neg_vN, lit_nI, nI_leI, nI_ltI, nI_eq, jm_in_nI, nI_clamp, nI_add, n_mul, pk_sub, n_le_t, n_le_f, n_lt_t, n_lt_f, n_eq_t, n_eq_f, true_and, and_true, ne_eq, not_false_eq_true, not_true_eq_false, min_n, max_n, dif_n, n_rem, n_div, or_nI, shl_nI, Option.toList_some, Option.toList_none, List.singleton_append, List.nil_append, if_true, if_false, or_true, true_or, or_false, false_or, and_false, false_and, Bool.false_eq_true, x3]
    · intro i hi ih
      obtain ⟨z1, z2, z3, z4⟩ := hX.2.2.2.2.2 i hi
      obtain ⟨b1, b2, b3, b4, b5, b6⟩ := hV.2.2.2.2.2 i hi
      have hand : kBr k i &&& t ≤ kBr k i := Nat.and_le_left
      have eA := and_nI (kBr k i) t
      rw [← ih, w26_4]
      by_cases hP : 0 < kBt k i
      · by_cases hQ : kBr k i &&& t = 0
        · rw [bset_F (p := kHo k t) (by simp [kHo, hP, hQ])]
          simp (disch := omega) only [w26_5, w26_6, w26_9, w26_12, w26_13, w26_14, w26_15, w26_18, w26_21, w26_22, w26_25, w26_26, w26_27, w26_28, w26_29, w26_32, w26_33, w26_34, w26_35, w26_38, w26_39, w26_40, w26_41, w26_44, w26_47, w26_48, hs, hl, ↓neg_vN, lit_nI, nI_leI, nI_ltI, nI_eq, jm_in_nI, nI_clamp, nI_add, n_mul, pk_sub, n_le_t, n_le_f, n_lt_t, n_lt_f, n_eq_t, n_eq_f, true_and, and_true, ne_eq, not_false_eq_true, not_true_eq_false, min_n, max_n, dif_n, n_rem, n_div, or_nI, shl_nI, Option.toList_some, Option.toList_none, List.singleton_append, List.nil_append, if_true, if_false, or_true, true_or, or_false, false_or, and_false, false_and, Bool.false_eq_true, x3, c_holds hc hX hV, z4, eA, hQ]
        · rw [bset_T (p := kHo k t) (by simp [kHo, hP, hQ])]
          simp (disch := omega) only [w26_5, w26_6, w26_9, w26_12, w26_13, w26_14, w26_15, w26_18, w26_21, w26_22, w26_25, w26_26, w26_27, w26_28, w26_29, w26_32, w26_33, w26_34, w26_35, w26_38, w26_39, w26_40, w26_41, w26_44, w26_47, w26_48, hs, hl, ↓neg_vN, lit_nI, nI_leI, nI_ltI, nI_eq, jm_in_nI, nI_clamp, nI_add, n_mul, pk_sub, n_le_t, n_le_f, n_lt_t, n_lt_f, n_eq_t, n_eq_f, true_and, and_true, ne_eq, not_false_eq_true, not_true_eq_false, min_n, max_n, dif_n, n_rem, n_div, or_nI, shl_nI, Option.toList_some, Option.toList_none, List.singleton_append, List.nil_append, if_true, if_false, or_true, true_or, or_false, false_or, and_false, false_and, Bool.false_eq_true, x3, c_holds hc hX hV, z4, eA, hQ]
      · rw [bset_F (p := kHo k t) (by simp [kHo, hP])]
        simp (disch := omega) only [w26_5, w26_6, w26_9, w26_12, w26_13, w26_14, w26_15, w26_18, w26_21, w26_22, w26_25, w26_26, w26_27, w26_28, w26_29, w26_32, w26_33, w26_34, w26_35, w26_38, w26_39, w26_40, w26_41, w26_44, w26_47, w26_48, hs, hl, ↓neg_vN, lit_nI, nI_leI, nI_ltI, nI_eq, jm_in_nI, nI_clamp, nI_add, n_mul, pk_sub, n_le_t, n_le_f, n_lt_t, n_lt_f, n_eq_t, n_eq_f, true_and, and_true, ne_eq, not_false_eq_true, not_true_eq_false, min_n, max_n, dif_n, n_rem, n_div, or_nI, shl_nI, Option.toList_some, Option.toList_none, List.singleton_append, List.nil_append, if_true, if_false, or_true, true_or, or_false, false_or, and_false, false_and, Bool.false_eq_true, x3, c_holds hc hX hV]
  simp (disch := omega) only [cl26, w26_0, w26_1, w26_2, w26_3, ↓neg_vN, lit_nI, nI_leI, nI_ltI, nI_eq, jm_in_nI, nI_clamp, nI_add, n_mul, pk_sub, n_le_t, n_le_f, n_lt_t, n_lt_f, n_eq_t, n_eq_f, true_and, and_true, ne_eq, not_false_eq_true, not_true_eq_false, min_n, max_n, dif_n, n_rem, n_div, or_nI, shl_nI, Option.toList_some, Option.toList_none, List.singleton_append, List.nil_append, if_true, if_false, or_true, true_or, or_false, false_or, and_false, false_and, Bool.false_eq_true]
  exact key 0 (Nat.zero_le _)
theorem c_barredBy {c m : Nat} {k : kT} (hc : isCamp c) (hX : RX c S k) (hV : KV k) (hm : m < 64) : CL L d 28 [.ref c, .int (nI m)] S Z ↔ Z (some (.int (nI (orB k m (k 0))))) S := by
  have hs := camp_sh hc
  have hl := camp_ll L hc
  have x3 := hX.2.2.2.1
  have v0 := hV.1
  have key : ∀ i, i ≤ k 0 → (WQ L d 28 4 [.ref c, .int (nI m), .int (nI (orB k m i)), .int (nI i)] [] S Z ↔ Z (some (.int (nI (orB k m (k 0))))) S) := by
    apply down_ind
    · rw [w28_4]
      simp (disch := omega) only [w28_5, w28_6, w28_9, w28_12, w28_13, w28_14, w28_15, w28_16, w28_17, w28_18, w28_21, w28_22, w28_25, w28_26, w28_27, w28_30, w28_31, w28_32, w28_33, w28_36, w28_39, w28_40, hs, ↓neg_vN, lit_nI, nI_leI, nI_ltI, nI_eq, jm_in_nI, nI_clamp, nI_add, n_mul, pk_sub, n_le_t, n_le_f, n_lt_t, n_lt_f, n_eq_t, n_eq_f, true_and, and_true, ne_eq, not_false_eq_true, not_true_eq_false, min_n, max_n, dif_n, n_rem, n_div, or_nI, shl_nI, Option.toList_some, Option.toList_none, List.singleton_append, List.nil_append, if_true, if_false, or_true, true_or, or_false, false_or, and_false, false_and, Bool.false_eq_true, x3]
    · intro i hi ih
      obtain ⟨z1, z2, z3, z4⟩ := hX.2.2.2.2.2 i hi
      rw [← ih, w28_4, orB]
      by_cases hP : m.testBit i = true
      · simp (disch := omega) only [w28_5, w28_6, w28_9, w28_12, w28_13, w28_14, w28_15, w28_16, w28_17, w28_18, w28_21, w28_22, w28_25, w28_26, w28_27, w28_30, w28_31, w28_32, w28_33, w28_36, w28_39, w28_40, hs, hl, ↓neg_vN, lit_nI, nI_leI, nI_ltI, nI_eq, jm_in_nI, nI_clamp, nI_add, n_mul, pk_sub, n_le_t, n_le_f, n_lt_t, n_lt_f, n_eq_t, n_eq_f, true_and, and_true, ne_eq, not_false_eq_true, not_true_eq_false, min_n, max_n, dif_n, n_rem, n_div, or_nI, shl_nI, Option.toList_some, Option.toList_none, List.singleton_append, List.nil_append, if_true, if_false, or_true, true_or, or_false, false_or, and_false, false_and, Bool.false_eq_true, x3, shr_n5, hP, z4]
      · simp (disch := omega) only [w28_5, w28_6, w28_9, w28_12, w28_13, w28_14, w28_15, w28_16, w28_17, w28_18, w28_21, w28_22, w28_25, w28_26, w28_27, w28_30, w28_31, w28_32, w28_33, w28_36, w28_39, w28_40, hs, hl, ↓neg_vN, lit_nI, nI_leI, nI_ltI, nI_eq, jm_in_nI, nI_clamp, nI_add, n_mul, pk_sub, n_le_t, n_le_f, n_lt_t, n_lt_f, n_eq_t, n_eq_f, true_and, and_true, ne_eq, not_false_eq_true, not_true_eq_false, min_n, max_n, dif_n, n_rem, n_div, or_nI, shl_nI, Option.toList_some, Option.toList_none, List.singleton_append, List.nil_append, if_true, if_false, or_true, true_or, or_false, false_or, and_false, false_and, Bool.false_eq_true, x3, shr_n5, hP, z4]
  simp (disch := omega) only [cl28, w28_0, w28_1, w28_2, w28_3, ↓neg_vN, lit_nI, nI_leI, nI_ltI, nI_eq, jm_in_nI, nI_clamp, nI_add, n_mul, pk_sub, n_le_t, n_le_f, n_lt_t, n_lt_f, n_eq_t, n_eq_f, true_and, and_true, ne_eq, not_false_eq_true, not_true_eq_false, min_n, max_n, dif_n, n_rem, n_div, or_nI, shl_nI, Option.toList_some, Option.toList_none, List.singleton_append, List.nil_append, if_true, if_false, or_true, true_or, or_false, false_or, and_false, false_and, Bool.false_eq_true]
  exact key 0 (Nat.zero_le _)
theorem c_barring {c : Nat} {k : kT} (hc : isCamp c) (hX : RX c S k) (hV : KV k) : CL L (d + 2) 27 [.ref c] S Z ↔ Z (some (.int (nI (orB k (bset (kHd k) (k 0)) (k 0))))) S := by
  have hs := camp_sh hc
  have hb := bset64 (kHd k) hV.1
  simp (disch := omega) only [cl27, w27_0, w27_1, w27_2, w27_5, w27_8, hs, ↓neg_vN, lit_nI, nI_leI, nI_ltI, nI_eq, jm_in_nI, nI_clamp, nI_add, n_mul, pk_sub, n_le_t, n_le_f, n_lt_t, n_lt_f, n_eq_t, n_eq_f, true_and, and_true, ne_eq, not_false_eq_true, not_true_eq_false, min_n, max_n, dif_n, n_rem, n_div, or_nI, shl_nI, Option.toList_some, Option.toList_none, List.singleton_append, List.nil_append, if_true, if_false, or_true, true_or, or_false, false_or, and_false, false_and, Bool.false_eq_true, c_holding hc hX hV, c_barredBy hc hX hV]
theorem c_allBeat {c : Nat} {k : kT} (hc : isCamp c) (hX : RX c S k) (hV : KV k) : CL L d 30 [.ref c] S Z ↔ Z (some (.int (nI (sumB k (k 0))))) S := by
  have hs := camp_sh hc
  have hl := camp_ll L hc
  have x3 := hX.2.2.2.1
  have v0 := hV.1
  have key : ∀ i, i ≤ k 0 → (WQ L d 30 4 [.ref c, .int (nI (sumB k i)), .int (nI i)] [] S Z ↔ Z (some (.int (nI (sumB k (k 0))))) S) := by
    apply down_ind
    · rw [w30_4]
      simp (disch := omega) only [w30_5, w30_6, w30_9, w30_12, w30_13, w30_14, w30_17, w30_18, w30_19, w30_20, w30_21, w30_24, w30_27, w30_28, hs, ↓neg_vN, lit_nI, nI_leI, nI_ltI, nI_eq, jm_in_nI, nI_clamp, nI_add, n_mul, pk_sub, n_le_t, n_le_f, n_lt_t, n_lt_f, n_eq_t, n_eq_f, true_and, and_true, ne_eq, not_false_eq_true, not_true_eq_false, min_n, max_n, dif_n, n_rem, n_div, or_nI, shl_nI, Option.toList_some, Option.toList_none, List.singleton_append, List.nil_append, if_true, if_false, or_true, true_or, or_false, false_or, and_false, false_and, Bool.false_eq_true, x3]
    · intro i hi ih
      obtain ⟨z1, z2, z3, z4⟩ := hX.2.2.2.2.2 i hi
      rw [← ih, w30_4, sumB]
      simp (disch := omega) only [w30_5, w30_6, w30_9, w30_12, w30_13, w30_14, w30_17, w30_18, w30_19, w30_20, w30_21, w30_24, w30_27, w30_28, hs, hl, ↓neg_vN, lit_nI, nI_leI, nI_ltI, nI_eq, jm_in_nI, nI_clamp, nI_add, n_mul, pk_sub, n_le_t, n_le_f, n_lt_t, n_lt_f, n_eq_t, n_eq_f, true_and, and_true, ne_eq, not_false_eq_true, not_true_eq_false, min_n, max_n, dif_n, n_rem, n_div, or_nI, shl_nI, Option.toList_some, Option.toList_none, List.singleton_append, List.nil_append, if_true, if_false, or_true, true_or, or_false, false_or, and_false, false_and, Bool.false_eq_true, x3, z2]
  simp (disch := omega) only [cl30, w30_0, w30_1, w30_2, w30_3, ↓neg_vN, lit_nI, nI_leI, nI_ltI, nI_eq, jm_in_nI, nI_clamp, nI_add, n_mul, pk_sub, n_le_t, n_le_f, n_lt_t, n_lt_f, n_eq_t, n_eq_f, true_and, and_true, ne_eq, not_false_eq_true, not_true_eq_false, min_n, max_n, dif_n, n_rem, n_div, or_nI, shl_nI, Option.toList_some, Option.toList_none, List.singleton_append, List.nil_append, if_true, if_false, or_true, true_or, or_false, false_or, and_false, false_and, Bool.false_eq_true]
  exact key 0 (Nat.zero_le _)
theorem c_allStrength {c : Nat} {k : kT} (hc : isCamp c) (hX : RX c S k) (hV : KV k) : CL L d 31 [.ref c] S Z ↔ Z (some (.int (nI (sumS k (k 1))))) S := by
  have hs := camp_sh hc
  have hl := camp_ll L hc
  have x2 := hX.2.2.1
  have v1 := hV.2.1
  have key : ∀ i, i ≤ k 1 → (WQ L d 31 4 [.ref c, .int (nI (sumS k i)), .int (nI i)] [] S Z ↔ Z (some (.int (nI (sumS k (k 1))))) S) := by
    apply down_ind
    · rw [w31_4]
      simp (disch := omega) only [w31_5, w31_6, w31_9, w31_12, w31_13, w31_14, w31_17, w31_18, w31_19, w31_20, w31_21, w31_24, w31_27, w31_28, hs, ↓neg_vN, lit_nI, nI_leI, nI_ltI, nI_eq, jm_in_nI, nI_clamp, nI_add, n_mul, pk_sub, n_le_t, n_le_f, n_lt_t, n_lt_f, n_eq_t, n_eq_f, true_and, and_true, ne_eq, not_false_eq_true, not_true_eq_false, min_n, max_n, dif_n, n_rem, n_div, or_nI, shl_nI, Option.toList_some, Option.toList_none, List.singleton_append, List.nil_append, if_true, if_false, or_true, true_or, or_false, false_or, and_false, false_and, Bool.false_eq_true, x2]
    · intro i hi ih
      obtain ⟨z1, z2⟩ := hX.2.2.2.2.1 i hi
      rw [← ih, w31_4, sumS]
      simp (disch := omega) only [w31_5, w31_6, w31_9, w31_12, w31_13, w31_14, w31_17, w31_18, w31_19, w31_20, w31_21, w31_24, w31_27, w31_28, hs, hl, ↓neg_vN, lit_nI, nI_leI, nI_ltI, nI_eq, jm_in_nI, nI_clamp, nI_add, n_mul, pk_sub, n_le_t, n_le_f, n_lt_t, n_lt_f, n_eq_t, n_eq_f, true_and, and_true, ne_eq, not_false_eq_true, not_true_eq_false, min_n, max_n, dif_n, n_rem, n_div, or_nI, shl_nI, Option.toList_some, Option.toList_none, List.singleton_append, List.nil_append, if_true, if_false, or_true, true_or, or_false, false_or, and_false, false_and, Bool.false_eq_true, x2, z1]
  simp (disch := omega) only [cl31, w31_0, w31_1, w31_2, w31_3, ↓neg_vN, lit_nI, nI_leI, nI_ltI, nI_eq, jm_in_nI, nI_clamp, nI_add, n_mul, pk_sub, n_le_t, n_le_f, n_lt_t, n_lt_f, n_eq_t, n_eq_f, true_and, and_true, ne_eq, not_false_eq_true, not_true_eq_false, min_n, max_n, dif_n, n_rem, n_div, or_nI, shl_nI, Option.toList_some, Option.toList_none, List.singleton_append, List.nil_append, if_true, if_false, or_true, true_or, or_false, false_or, and_false, false_and, Bool.false_eq_true]
  exact key 0 (Nat.zero_le _)
end
