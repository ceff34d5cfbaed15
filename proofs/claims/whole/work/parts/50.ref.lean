/-! ===== the reference's rows ===== -/
def isRA (a : Nat) : Prop := a = 132 ∨ a = 133 ∨ a = 134
theorem ra_sh (L : Nat) {a : Nat} (h : isRA a) : jm_kd a = 9 ∧ jm_ll L a = 34 ∧ jm_lw 9 a = 34 ∧ 132 ≤ a ∧ a ≤ 134 := by
  have h1 := sh_kd
  have h2 := sh_ll L
  have h3 := sh_lw
  rcases h with rfl | rfl | rfl <;> simp only [h1, h2, h3] <;> decide
theorem mod_sh (L : Nat) : jm_kd 128 = 8 ∧ jm_kd 129 = 9 ∧ jm_kd 130 = 9 ∧ jm_kd 131 = 9 ∧ jm_kd 132 = 9 ∧ jm_kd 133 = 9 ∧ jm_kd 134 = 9 ∧ jm_kd 135 = 9 ∧ jm_kd 136 = 9 ∧ jm_kd 137 = 9 ∧ jm_kd 138 = 9 ∧ jm_kd 139 = 9 ∧ jm_kd 140 = 9 ∧ jm_kd 141 = 10 ∧ jm_kd 142 = 9 ∧ jm_kd 143 = 9 ∧ jm_rf 128 2 = 129 ∧ jm_rf 128 3 = 130 ∧ jm_rf 128 4 = 131 ∧ jm_rf 128 5 = 132 ∧ jm_rf 128 6 = 133 ∧ jm_rf 128 7 = 134 ∧ jm_rf 128 8 = 135 ∧ jm_rf 128 10 = 136 ∧ jm_rf 128 19 = 137 ∧ jm_rf 128 20 = 138 ∧ jm_rf 128 21 = 139 ∧ jm_rf 128 22 = 140 ∧ jm_rf 128 23 = 141 ∧ jm_rf 128 24 = 142 ∧ jm_rf 128 25 = 143 ∧ jm_ll L 129 = 8 ∧ jm_ll L 130 = 8 ∧ jm_ll L 131 = 320 ∧ jm_ll L 132 = 34 ∧ jm_ll L 133 = 34 ∧ jm_ll L 134 = 34 ∧ jm_ll L 135 = 816 ∧ jm_ll L 136 = 120 ∧ jm_ll L 137 = 5 ∧ jm_ll L 138 = 5 ∧ jm_ll L 139 = 5 ∧ jm_ll L 140 = 4 ∧ jm_ll L 142 = 68 ∧ jm_ll L 143 = 16 ∧ jm_lw 9 129 = 8 ∧ jm_lw 9 130 = 8 ∧ jm_lw 9 131 = 320 ∧ jm_lw 9 132 = 34 ∧ jm_lw 9 133 = 34 ∧ jm_lw 9 134 = 34 ∧ jm_lw 9 135 = 816 ∧ jm_lw 9 136 = 120 ∧ jm_lw 9 137 = 5 ∧ jm_lw 9 138 = 5 ∧ jm_lw 9 139 = 5 ∧ jm_lw 9 140 = 4 ∧ jm_lw 10 141 = 2 ∧ jm_lw 9 142 = 68 ∧ jm_lw 9 143 = 16 := by
  have h1 := sh_kd
  have h2 := sh_ll L
  have h3 := sh_lw
  have h4 := sh_rf
  simp only [h1, h2, h3, h4, and_self]
def RM (a : Nat) (S : jm_I2) (k : kT) : Prop := ∀ i, i < 34 → S a i = nI (k i)
/-- v is one of the first n numbers -/
def isN (v : Int32) (n : Nat) : Bool := decide (0 ≤ v.toInt) && decide (v.toInt < n)
theorem isN_of {v : Int32} {n : Nat} (hn : n < 2 ^ 31) (h : isN v n = true) : ∃ q, q < n ∧ v = nI q := by
  unfold isN at h
  simp at h
  refine ⟨v.toInt.toNat, by omega, ?_⟩
  apply Int32.toInt_inj.mp
  rw [nI_toInt (by omega)]
  omega
theorem isN_nI {q n : Nat} (hq : q < 2 ^ 31) : isN (nI q) n = decide (q < n) := by
  unfold isN
  rw [nI_toInt hq]
  simp
theorem m1_toInt : (nI 0 - nI 1).toInt = -1 := by decide +kernel
/-- between nothing and n less one -/
theorem isN_iff {v : Int32} {n : Nat} (hn : n < 2 ^ 30) : (nI 0 ≤ v ∧ v ≤ nI n - nI 1) ↔ isN v n = true := by
  unfold isN
  rw [Int32.le_iff_toInt_le, Int32.le_iff_toInt_le, nI_toInt (by decide), sub_toInt hn (by decide)]
  simp
  omega
theorem btw {v : Int32} {a b : Nat} (hb : b < 2 ^ 31) (h : nI a ≤ v ∧ v ≤ nI b) (ha : a < 2 ^ 31) : ∃ q, a ≤ q ∧ q ≤ b ∧ v = nI q := by
  obtain ⟨h1, h2⟩ := h
  rw [Int32.le_iff_toInt_le, nI_toInt ha] at h1
  rw [Int32.le_iff_toInt_le, nI_toInt hb] at h2
  refine ⟨v.toInt.toNat, by omega, by omega, ?_⟩
  apply Int32.toInt_inj.mp
  rw [nI_toInt (by omega)]
  omega
theorem lit_lN (n : Nat) : (OfNat.ofNat n : Int64) = lN n := rfl
theorem lx_le {a : Nat} {x : Int32} (h : a < 2 ^ 31) : (lN a ≤ x.toInt64) = (nI a ≤ x) := by
  rw [Int64.le_iff_toInt_le, Int32.le_iff_toInt_le, lN_toInt h, nI_toInt h, Int32.toInt_toInt64]
theorem xl_le {a : Nat} {x : Int32} (h : a < 2 ^ 31) : (x.toInt64 ≤ lN a) = (x ≤ nI a) := by
  rw [Int64.le_iff_toInt_le, Int32.le_iff_toInt_le, lN_toInt h, nI_toInt h, Int32.toInt_toInt64]
theorem xx_le {x y : Int32} : (x.toInt64 ≤ y.toInt64) = (x ≤ y) := by
  rw [Int64.le_iff_toInt_le, Int32.le_iff_toInt_le, Int32.toInt_toInt64, Int32.toInt_toInt64]
theorem plv_eq {p r : Nat} (hp : p < 2 ^ 31) (hr : r < 2 ^ 31) : (plv p = nI r) ↔ p = r + 1 := by
  cases p with
  | zero => rw [plv_0, vN_eq hr]; simp
  | succ q => rw [plv_S, nI_eq (by omega) hr]; omega
theorem f_dif {a b m : Nat} (h : a < b) (ha : a < 2 ^ 30) (hb : b < 2 ^ 30) (hm : m < 2 ^ 30) : (nI m ≤ nI a - nI b) = False := eq_false (by
  rw [Int32.le_iff_toInt_le, nI_toInt (by omega), sub_toInt ha hb]
  omega)
theorem lg_lt {x y : Int64} : (lg_cmp x y < nI 0) ↔ x < y := by
  show lg_cmp x y < 0 ↔ x < y
  unfold lg_cmp
  by_cases h : y < x
  · rw [if_pos h]
    exact ⟨fun q => absurd q (by decide), fun q => (Int64.lt_irrefl (Int64.lt_trans h q)).elim⟩
  · rw [if_neg h]
    by_cases h2 : x = y
    · rw [if_pos h2]
      exact ⟨fun q => absurd q (by decide), fun q => (Int64.lt_irrefl (h2 ▸ q)).elim⟩
    · rw [if_neg h2]
      exact ⟨fun _ => Int64.lt_of_le_of_ne (Int64.not_lt.mp h) h2, fun _ => by decide⟩
theorem lg_gt {x y : Int64} : (nI 0 < lg_cmp x y) ↔ y < x := by
  show 0 < lg_cmp x y ↔ y < x
  unfold lg_cmp
  by_cases h : y < x
  · rw [if_pos h]
    exact ⟨fun _ => h, fun _ => by decide⟩
  · rw [if_neg h]
    by_cases h2 : x = y
    · rw [if_pos h2]
      exact ⟨fun q => absurd q (by decide), fun q => absurd q h⟩
    · rw [if_neg h2]
      exact ⟨fun q => absurd q (by decide), fun q => absurd q h⟩
theorem lg_eq0 {x y : Int64} : (lg_cmp x y = nI 0) ↔ x = y := by
  show lg_cmp x y = 0 ↔ x = y
  unfold lg_cmp
  by_cases h : y < x
  · rw [if_pos h]
    exact ⟨fun q => absurd q (by decide), fun q => (Int64.lt_irrefl (q ▸ h)).elim⟩
  · rw [if_neg h]
    by_cases h2 : x = y
    · rw [if_pos h2]
      exact ⟨fun _ => h2, fun _ => rfl⟩
    · rw [if_neg h2]
      exact ⟨fun q => absurd q (by decide), fun q => absurd q h2⟩
section
variable {L d : Nat} {S : jm_I2} {Z : Option Value → jm_I2 → Prop}
theorem r_in {x y z : Int64} : CL L d 129 [.long x, .long y, .long z] S Z ↔ (if y ≤ x ∧ x ≤ z then Z (some (.int (nI 1))) S else Z (some (.int (nI 0))) S) := by
  simp (disch := omega) only [cl129, w129_0, w129_1, w129_2, w129_3, w129_6, w129_7, w129_9, w129_10, w129_13, w129_14, w129_17, w129_18, lg_lt, lg_gt, lit_nI, nI_eq, or_true, true_or, true_and, n_eq_t]
  by_cases h1 : x < y
  · rw [if_pos h1, if_neg (fun q => Int64.not_lt.mpr q.1 h1)]
  · by_cases h2 : z < x
    · rw [if_neg h1, if_pos h2, if_neg (fun q => Int64.not_lt.mpr q.2 h2)]
    · rw [if_neg h1, if_neg h2, if_pos ⟨Int64.not_lt.mp h1, Int64.not_lt.mp h2⟩]
theorem r_isThere {k : kT} (hM : RM 132 S k) (h0 : k 0 ≤ 5) : CL L d 151 [.ref 128] S Z ↔ (if k 0 = 0 then Z (some (.int (nI 0))) S else Z (some (.int (nI 1))) S) := by
  have hm := mod_sh L
  by_cases h : k 0 = 0
  · simp (disch := omega) only [cl151, w151_0, w151_1, w151_4, w151_5, w151_6, w151_9, w151_10, w151_13, w151_14, hm, ↓neg_vN, lit_nI, nI_leI, nI_ltI, nI_eq, jm_in_nI, nI_clamp, nI_add, n_mul, pk_sub, n_le_t, n_le_f, n_lt_t, n_lt_f, n_eq_t, n_eq_f, true_and, and_true, ne_eq, not_false_eq_true, not_true_eq_false, min_n, max_n, dif_n, n_rem, n_div, or_nI, shl_nI, Option.toList_some, Option.toList_none, List.singleton_append, List.nil_append, if_true, if_false, or_true, true_or, or_false, false_or, and_false, false_and, Bool.false_eq_true, hM 0 (by decide), h]
  · simp (disch := omega) only [cl151, w151_0, w151_1, w151_4, w151_5, w151_6, w151_9, w151_10, w151_13, w151_14, hm, ↓neg_vN, lit_nI, nI_leI, nI_ltI, nI_eq, jm_in_nI, nI_clamp, nI_add, n_mul, pk_sub, n_le_t, n_le_f, n_lt_t, n_lt_f, n_eq_t, n_eq_f, true_and, and_true, ne_eq, not_false_eq_true, not_true_eq_false, min_n, max_n, dif_n, n_rem, n_div, or_nI, shl_nI, Option.toList_some, Option.toList_none, List.singleton_append, List.nil_append, if_true, if_false, or_true, true_or, or_false, false_or, and_false, false_and, Bool.false_eq_true, hM 0 (by decide), h]
theorem r_isRule {v : Int32} {k : kT} (hM : RM 132 S k) (h0 : k 0 ≤ 5) : CL L (d + 1) 152 [.ref 128, .int v] S Z ↔ (if isN v (k 0) = true then Z (some (.int (nI 1))) S else Z (some (.int (nI 0))) S) := by
  have hm := mod_sh L
  have e := hM 0 (by decide)
  have q := isN_iff (v := v) (n := k 0) (by omega)
  by_cases h : isN v (k 0) = true
  · simp (disch := omega) only [cl152, w152_0, w152_1, w152_2, w152_3, w152_4, w152_7, w152_8, w152_9, w152_10, w152_11, w152_12, w152_15, hm, lit_lN, lit_nI, r_in, jm_in_nI, nI_clamp, e, n_lt_t, true_and, lx_le, xx_le, q, h, if_true, Option.toList_some, List.singleton_append, nI_eq, n_eq_t, or_true]
  · simp (disch := omega) only [cl152, w152_0, w152_1, w152_2, w152_3, w152_4, w152_7, w152_8, w152_9, w152_10, w152_11, w152_12, w152_15, hm, lit_lN, lit_nI, r_in, jm_in_nI, nI_clamp, e, n_lt_t, true_and, lx_le, xx_le, q, h, if_false, Option.toList_some, List.singleton_append, nI_eq, n_eq_t, true_or, Bool.false_eq_true]
theorem r_isHand {v : Int32} {k : kT} (hM : RM 132 S k) (h0 : k 1 ≤ 5) : CL L (d + 1) 153 [.ref 128, .int v] S Z ↔ (if isN v (k 1) = true then Z (some (.int (nI 1))) S else Z (some (.int (nI 0))) S) := by
  have hm := mod_sh L
  have e := hM 1 (by decide)
  have q := isN_iff (v := v) (n := k 1) (by omega)
  by_cases h : isN v (k 1) = true
  · simp (disch := omega) only [cl153, w153_0, w153_1, w153_2, w153_3, w153_4, w153_7, w153_8, w153_9, w153_10, w153_11, w153_12, w153_15, hm, lit_lN, lit_nI, r_in, jm_in_nI, nI_clamp, e, n_lt_t, true_and, lx_le, xx_le, q, h, if_true, Option.toList_some, List.singleton_append, nI_eq, n_eq_t, or_true]
  · simp (disch := omega) only [cl153, w153_0, w153_1, w153_2, w153_3, w153_4, w153_7, w153_8, w153_9, w153_10, w153_11, w153_12, w153_15, hm, lit_lN, lit_nI, r_in, jm_in_nI, nI_clamp, e, n_lt_t, true_and, lx_le, xx_le, q, h, if_false, Option.toList_some, List.singleton_append, nI_eq, n_eq_t, true_or, Bool.false_eq_true]
theorem r_bits {m : Nat} (hm : m < 64) : CL L d 154 [.int (nI m)] S Z ↔ Z (some (.int (nI (pop6 m)))) S := by
  have key : ∀ i, i ≤ 6 → (WQ L d 154 4 [.int (nI m), .int (nI (cnt (fun j => m.testBit j) i)), .int (nI i)] [] S Z ↔ Z (some (.int (nI (pop6 m)))) S) := by
    apply down_ind
    · rw [w154_4]
      simp (disch := omega) only [w154_5, w154_7, w154_10, w154_11, w154_12, w154_13, w154_14, w154_15, w154_16, w154_17, w154_18, w154_21, w154_24, w154_25, ↓neg_vN, lit_nI, nI_leI, nI_ltI, nI_eq, jm_in_nI, nI_clamp, nI_add, n_mul, pk_sub, n_le_t, n_le_f, n_lt_t, n_lt_f, n_eq_t, n_eq_f, true_and, and_true, ne_eq, not_false_eq_true, not_true_eq_false, min_n, max_n, dif_n, n_rem, n_div, or_nI, shl_nI, Option.toList_some, Option.toList_none, List.singleton_append, List.nil_append, if_true, if_false, or_true, true_or, or_false, false_or, and_false, false_and, Bool.false_eq_true, pop6]
    · intro i hi ih
      rw [← ih, w154_4, cnt]
      simp (disch := omega) only [w154_5, w154_7, w154_10, w154_11, w154_12, w154_13, w154_14, w154_15, w154_16, w154_17, w154_18, w154_21, w154_24, w154_25, ↓neg_vN, lit_nI, nI_leI, nI_ltI, nI_eq, jm_in_nI, nI_clamp, nI_add, n_mul, pk_sub, n_le_t, n_le_f, n_lt_t, n_lt_f, n_eq_t, n_eq_f, true_and, and_true, ne_eq, not_false_eq_true, not_true_eq_false, min_n, max_n, dif_n, n_rem, n_div, or_nI, shl_nI, Option.toList_some, Option.toList_none, List.singleton_append, List.nil_append, if_true, if_false, or_true, true_or, or_false, false_or, and_false, false_and, Bool.false_eq_true, shr_n5]
  simp (disch := omega) only [cl154, w154_0, w154_1, w154_2, w154_3, ↓neg_vN, lit_nI, nI_leI, nI_ltI, nI_eq, jm_in_nI, nI_clamp, nI_add, n_mul, pk_sub, n_le_t, n_le_f, n_lt_t, n_lt_f, n_eq_t, n_eq_f, true_and, and_true, ne_eq, not_false_eq_true, not_true_eq_false, min_n, max_n, dif_n, n_rem, n_div, or_nI, shl_nI, Option.toList_some, Option.toList_none, List.singleton_append, List.nil_append, if_true, if_false, or_true, true_or, or_false, false_or, and_false, false_and, Bool.false_eq_true]
  exact key 0 (Nat.zero_le _)
theorem r_has {m i : Nat} (hm : m < 64) (hi : i < 6) : CL L d 155 [.int (nI m), .int (nI i)] S Z ↔ (if m.testBit i = true then Z (some (.int (nI 1))) S else Z (some (.int (nI 0))) S) := by
  by_cases hP : m.testBit i = true
  · simp (disch := omega) only [cl155, w155_0, w155_1, w155_2, w155_3, w155_4, w155_5, w155_6, w155_9, w155_10, w155_13, w155_14, ↓neg_vN, lit_nI, nI_leI, nI_ltI, nI_eq, jm_in_nI, nI_clamp, nI_add, n_mul, pk_sub, n_le_t, n_le_f, n_lt_t, n_lt_f, n_eq_t, n_eq_f, true_and, and_true, ne_eq, not_false_eq_true, not_true_eq_false, min_n, max_n, dif_n, n_rem, n_div, or_nI, shl_nI, Option.toList_some, Option.toList_none, List.singleton_append, List.nil_append, if_true, if_false, or_true, true_or, or_false, false_or, and_false, false_and, Bool.false_eq_true, shr_n5, hP]
  · simp (disch := omega) only [cl155, w155_0, w155_1, w155_2, w155_3, w155_4, w155_5, w155_6, w155_9, w155_10, w155_13, w155_14, ↓neg_vN, lit_nI, nI_leI, nI_ltI, nI_eq, jm_in_nI, nI_clamp, nI_add, n_mul, pk_sub, n_le_t, n_le_f, n_lt_t, n_lt_f, n_eq_t, n_eq_f, true_and, and_true, ne_eq, not_false_eq_true, not_true_eq_false, min_n, max_n, dif_n, n_rem, n_div, or_nI, shl_nI, Option.toList_some, Option.toList_none, List.singleton_append, List.nil_append, if_true, if_false, or_true, true_or, or_false, false_or, and_false, false_and, Bool.false_eq_true, shr_n5, hP]
theorem r_of0 {a r : Nat} {k : kT} (ha : isRA a) (hM : RM a S k) (hr : r < 5) : CL L d 156 [.ref a, .int (nI r), .int (nI 0)] S Z ↔ Z (some (.int (nI (kKd k r)))) S := by
  have hs := ra_sh L ha
  rw [show kKd k r = k (14 + 4 * r + 0) by unfold kKd; congr 1]
  simp (disch := omega) only [cl156, w156_0, w156_1, w156_3, w156_4, w156_5, w156_6, w156_7, w156_8, w156_9, w156_10, hs, ↓neg_vN, lit_nI, nI_leI, nI_ltI, nI_eq, jm_in_nI, nI_clamp, nI_add, n_mul, pk_sub, n_le_t, n_le_f, n_lt_t, n_lt_f, n_eq_t, n_eq_f, true_and, and_true, ne_eq, not_false_eq_true, not_true_eq_false, min_n, max_n, dif_n, n_rem, n_div, or_nI, shl_nI, Option.toList_some, Option.toList_none, List.singleton_append, List.nil_append, if_true, if_false, or_true, true_or, or_false, false_or, and_false, false_and, Bool.false_eq_true, hM _]
theorem r_of1 {a r : Nat} {k : kT} (ha : isRA a) (hM : RM a S k) (hr : r < 5) : CL L d 156 [.ref a, .int (nI r), .int (nI 1)] S Z ↔ Z (some (.int (nI (kBt k r)))) S := by
  have hs := ra_sh L ha
  rw [show kBt k r = k (14 + 4 * r + 1) by unfold kBt; congr 1; omega]
  simp (disch := omega) only [cl156, w156_0, w156_1, w156_3, w156_4, w156_5, w156_6, w156_7, w156_8, w156_9, w156_10, hs, ↓neg_vN, lit_nI, nI_leI, nI_ltI, nI_eq, jm_in_nI, nI_clamp, nI_add, n_mul, pk_sub, n_le_t, n_le_f, n_lt_t, n_lt_f, n_eq_t, n_eq_f, true_and, and_true, ne_eq, not_false_eq_true, not_true_eq_false, min_n, max_n, dif_n, n_rem, n_div, or_nI, shl_nI, Option.toList_some, Option.toList_none, List.singleton_append, List.nil_append, if_true, if_false, or_true, true_or, or_false, false_or, and_false, false_and, Bool.false_eq_true, hM _]
theorem r_of2 {a r : Nat} {k : kT} (ha : isRA a) (hM : RM a S k) (hr : r < 5) : CL L d 156 [.ref a, .int (nI r), .int (nI 2)] S Z ↔ Z (some (.int (nI (kLs k r)))) S := by
  have hs := ra_sh L ha
  rw [show kLs k r = k (14 + 4 * r + 2) by unfold kLs; congr 1; omega]
  simp (disch := omega) only [cl156, w156_0, w156_1, w156_3, w156_4, w156_5, w156_6, w156_7, w156_8, w156_9, w156_10, hs, ↓neg_vN, lit_nI, nI_leI, nI_ltI, nI_eq, jm_in_nI, nI_clamp, nI_add, n_mul, pk_sub, n_le_t, n_le_f, n_lt_t, n_lt_f, n_eq_t, n_eq_f, true_and, and_true, ne_eq, not_false_eq_true, not_true_eq_false, min_n, max_n, dif_n, n_rem, n_div, or_nI, shl_nI, Option.toList_some, Option.toList_none, List.singleton_append, List.nil_append, if_true, if_false, or_true, true_or, or_false, false_or, and_false, false_and, Bool.false_eq_true, hM _]
theorem r_of3 {a r : Nat} {k : kT} (ha : isRA a) (hM : RM a S k) (hr : r < 5) : CL L d 156 [.ref a, .int (nI r), .int (nI 3)] S Z ↔ Z (some (.int (nI (kBr k r)))) S := by
  have hs := ra_sh L ha
  rw [show kBr k r = k (14 + 4 * r + 3) by unfold kBr; congr 1; omega]
  simp (disch := omega) only [cl156, w156_0, w156_1, w156_3, w156_4, w156_5, w156_6, w156_7, w156_8, w156_9, w156_10, hs, ↓neg_vN, lit_nI, nI_leI, nI_ltI, nI_eq, jm_in_nI, nI_clamp, nI_add, n_mul, pk_sub, n_le_t, n_le_f, n_lt_t, n_lt_f, n_eq_t, n_eq_f, true_and, and_true, ne_eq, not_false_eq_true, not_true_eq_false, min_n, max_n, dif_n, n_rem, n_div, or_nI, shl_nI, Option.toList_some, Option.toList_none, List.singleton_append, List.nil_append, if_true, if_false, or_true, true_or, or_false, false_or, and_false, false_and, Bool.false_eq_true, hM _]
theorem r_be {a r w : Nat} {v : Int32} (ha : isRA a) (hr : r < 5) (hw : w < 4) : CL L d 157 [.ref a, .int (nI r), .int (nI w), .int v] S Z ↔ Z none (jm_upd S a (14 + 4 * r + w) v) := by
  have hs := ra_sh L ha
  simp (disch := omega) only [cl157, w157_0, w157_1, w157_3, w157_4, w157_5, w157_6, w157_7, w157_8, w157_9, w157_10, w157_11, hs, ↓neg_vN, lit_nI, nI_leI, nI_ltI, nI_eq, jm_in_nI, nI_clamp, nI_add, n_mul, pk_sub, n_le_t, n_le_f, n_lt_t, n_lt_f, n_eq_t, n_eq_f, true_and, and_true, ne_eq, not_false_eq_true, not_true_eq_false, min_n, max_n, dif_n, n_rem, n_div, or_nI, shl_nI, Option.toList_some, Option.toList_none, List.singleton_append, List.nil_append, if_true, if_false, or_true, true_or, or_false, false_or, and_false, false_and, Bool.false_eq_true]
theorem r_strength {a h : Nat} {k : kT} (ha : isRA a) (hM : RM a S k) (hr : h < 5) : CL L d 158 [.ref a, .int (nI h)] S Z ↔ Z (some (.int (nI (kSt k h)))) S := by
  have hs := ra_sh L ha
  rw [show kSt k h = k (4 + 2 * h) from rfl]
  simp (disch := omega) only [cl158, w158_0, w158_1, w158_2, w158_3, w158_4, w158_5, w158_6, w158_7, hs, ↓neg_vN, lit_nI, nI_leI, nI_ltI, nI_eq, jm_in_nI, nI_clamp, nI_add, n_mul, pk_sub, n_le_t, n_le_f, n_lt_t, n_lt_f, n_eq_t, n_eq_f, true_and, and_true, ne_eq, not_false_eq_true, not_true_eq_false, min_n, max_n, dif_n, n_rem, n_div, or_nI, shl_nI, Option.toList_some, Option.toList_none, List.singleton_append, List.nil_append, if_true, if_false, or_true, true_or, or_false, false_or, and_false, false_and, Bool.false_eq_true, hM _]
theorem r_playsOf {a h : Nat} {k : kT} (ha : isRA a) (hM : RM a S k) (hr : h < 5) (hp : kPl k h ≤ 5) : CL L d 159 [.ref a, .int (nI h)] S Z ↔ Z (some (.int (plv (kPl k h)))) S := by
  have hs := ra_sh L ha
  have e : kPl k h = k (4 + 2 * h + 1) := by unfold kPl; congr 1; omega
  rw [e] at hp ⊢
  by_cases h0 : k (4 + 2 * h + 1) = 0
  · simp (disch := omega) only [cl159, w159_0, w159_1, w159_2, w159_3, w159_4, w159_5, w159_6, w159_7, w159_8, w159_9, w159_12, w159_14, w159_17, w159_18, w159_19, w159_20, w159_21, w159_22, w159_23, w159_24, w159_25, w159_26, w159_27, w159_28, hs, ↓neg_vN, lit_nI, nI_leI, nI_ltI, nI_eq, jm_in_nI, nI_clamp, nI_add, n_mul, pk_sub, n_le_t, n_le_f, n_lt_t, n_lt_f, n_eq_t, n_eq_f, true_and, and_true, ne_eq, not_false_eq_true, not_true_eq_false, min_n, max_n, dif_n, n_rem, n_div, or_nI, shl_nI, Option.toList_some, Option.toList_none, List.singleton_append, List.nil_append, if_true, if_false, or_true, true_or, or_false, false_or, and_false, false_and, Bool.false_eq_true, hM _, h0, plv_0]
  · obtain ⟨q, hq⟩ : ∃ q, k (4 + 2 * h + 1) = q + 1 := ⟨k (4 + 2 * h + 1) - 1, by omega⟩
    simp (disch := omega) only [cl159, w159_0, w159_1, w159_2, w159_3, w159_4, w159_5, w159_6, w159_7, w159_8, w159_9, w159_12, w159_14, w159_17, w159_18, w159_19, w159_20, w159_21, w159_22, w159_23, w159_24, w159_25, w159_26, w159_27, w159_28, hs, ↓neg_vN, lit_nI, nI_leI, nI_ltI, nI_eq, jm_in_nI, nI_clamp, nI_add, n_mul, pk_sub, n_le_t, n_le_f, n_lt_t, n_lt_f, n_eq_t, n_eq_f, true_and, and_true, ne_eq, not_false_eq_true, not_true_eq_false, min_n, max_n, dif_n, n_rem, n_div, or_nI, shl_nI, Option.toList_some, Option.toList_none, List.singleton_append, List.nil_append, if_true, if_false, or_true, true_or, or_false, false_or, and_false, false_and, Bool.false_eq_true, hM _, hq, plv_S]
    rfl
theorem r_playsN {a h : Nat} (ha : isRA a) (hr : h < 5) : CL L d 160 [.ref a, .int (nI h), .int vN] S Z ↔ Z none (jm_upd S a (4 + 2 * h + 1) (nI 0)) := by
  have hs := ra_sh L ha
  simp (disch := omega) only [cl160, w160_0, w160_1, w160_2, w160_3, w160_4, w160_5, w160_6, w160_7, w160_8, w160_9, w160_11, w160_14, w160_15, w160_18, w160_19, w160_20, w160_21, w160_22, hs, ↓neg_vN, lit_nI, nI_leI, nI_ltI, nI_eq, jm_in_nI, nI_clamp, nI_add, n_mul, pk_sub, n_le_t, n_le_f, n_lt_t, n_lt_f, n_eq_t, n_eq_f, true_and, and_true, ne_eq, not_false_eq_true, not_true_eq_false, min_n, max_n, dif_n, n_rem, n_div, or_nI, shl_nI, Option.toList_some, Option.toList_none, List.singleton_append, List.nil_append, if_true, if_false, or_true, true_or, or_false, false_or, and_false, false_and, Bool.false_eq_true]
theorem r_plays {a h r : Nat} (ha : isRA a) (hr : h < 5) (h2 : r < 10) : CL L d 160 [.ref a, .int (nI h), .int (nI r)] S Z ↔ Z none (jm_upd S a (4 + 2 * h + 1) (nI (r + 1))) := by
  have hs := ra_sh L ha
  simp (disch := omega) only [cl160, w160_0, w160_1, w160_2, w160_3, w160_4, w160_5, w160_6, w160_7, w160_8, w160_9, w160_11, w160_14, w160_15, w160_18, w160_19, w160_20, w160_21, w160_22, hs, ↓neg_vN, lit_nI, nI_leI, nI_ltI, nI_eq, jm_in_nI, nI_clamp, nI_add, n_mul, pk_sub, n_le_t, n_le_f, n_lt_t, n_lt_f, n_eq_t, n_eq_f, true_and, and_true, ne_eq, not_false_eq_true, not_true_eq_false, min_n, max_n, dif_n, n_rem, n_div, or_nI, shl_nI, Option.toList_some, Option.toList_none, List.singleton_append, List.nil_append, if_true, if_false, or_true, true_or, or_false, false_or, and_false, false_and, Bool.false_eq_true, eq_vN]
theorem r_isLost {a r : Nat} {k : kT} (ha : isRA a) (hM : RM a S k) (hr : r < 5) (hk : kKd k r ≤ 5) : CL L (d + 1) 161 [.ref a, .int (nI r)] S Z ↔ (if 4 ≤ kKd k r then Z (some (.int (nI 1))) S else Z (some (.int (nI 0))) S) := by
  by_cases hP : 4 ≤ kKd k r
  · simp (disch := omega) only [cl161, w161_0, w161_1, w161_2, w161_3, w161_6, w161_7, w161_10, w161_11, w161_14, w161_15, ↓neg_vN, lit_nI, nI_leI, nI_ltI, nI_eq, jm_in_nI, nI_clamp, nI_add, n_mul, pk_sub, n_le_t, n_le_f, n_lt_t, n_lt_f, n_eq_t, n_eq_f, true_and, and_true, ne_eq, not_false_eq_true, not_true_eq_false, min_n, max_n, dif_n, n_rem, n_div, or_nI, shl_nI, Option.toList_some, Option.toList_none, List.singleton_append, List.nil_append, if_true, if_false, or_true, true_or, or_false, false_or, and_false, false_and, Bool.false_eq_true, r_of0 ha hM]
  · simp (disch := omega) only [cl161, w161_0, w161_1, w161_2, w161_3, w161_6, w161_7, w161_10, w161_11, w161_14, w161_15, ↓neg_vN, lit_nI, nI_leI, nI_ltI, nI_eq, jm_in_nI, nI_clamp, nI_add, n_mul, pk_sub, n_le_t, n_le_f, n_lt_t, n_lt_f, n_eq_t, n_eq_f, true_and, and_true, ne_eq, not_false_eq_true, not_true_eq_false, min_n, max_n, dif_n, n_rem, n_div, or_nI, shl_nI, Option.toList_some, Option.toList_none, List.singleton_append, List.nil_append, if_true, if_false, or_true, true_or, or_false, false_or, and_false, false_and, Bool.false_eq_true, r_of0 ha hM]
theorem r_isPlayedBy {a r h : Nat} {k : kT} (ha : isRA a) (hM : RM a S k) (hV : KV k) (hr : r < k 0) (hh : h < k 1) : CL L (d + 2) 162 [.ref a, .int (nI r), .int (nI h)] S Z ↔ (if kPd k r h = true then Z (some (.int (nI 1))) S else Z (some (.int (nI 0))) S) := by
  have hs := ra_sh L ha
  obtain ⟨v0, v1, v2, v3, v4, v5⟩ := hV
  obtain ⟨b1, b2, b3, b4, b5, b6⟩ := v5 r hr
  obtain ⟨w1, w2⟩ := v4 h hh
  have e1 := hM 1 (by decide)
  have e3 := hM 3 (by decide)
  have em := Nat.mod_lt (k 3) (show 0 < k 1 by omega)
  by_cases hP : 4 ≤ kKd k r
  · by_cases hQ : h = k 3 % k 1
    · by_cases hR : 0 < kSt k h
      · have : kPd k r h = true := by simp [kPd, hP, hR, ← hQ]
        simp (disch := omega) only [cl162, w162_0, w162_1, w162_2, w162_5, w162_8, w162_9, w162_10, w162_11, w162_12, w162_13, w162_14, w162_15, w162_16, w162_19, w162_20, w162_23, w162_24, w162_27, w162_28, w162_29, w162_32, w162_33, w162_36, w162_37, w162_40, w162_41, w162_42, w162_43, w162_46, w162_47, w162_48, w162_51, w162_54, w162_55, w162_58, w162_59, hs, ↓neg_vN, lit_nI, nI_leI, nI_ltI, nI_eq, jm_in_nI, nI_clamp, nI_add, n_mul, pk_sub, n_le_t, n_le_f, n_lt_t, n_lt_f, n_eq_t, n_eq_f, true_and, and_true, ne_eq, not_false_eq_true, not_true_eq_false, min_n, max_n, dif_n, n_rem, n_div, or_nI, shl_nI, Option.toList_some, Option.toList_none, List.singleton_append, List.nil_append, if_true, if_false, or_true, true_or, or_false, false_or, and_false, false_and, Bool.false_eq_true, r_isLost ha hM, r_strength ha hM, e1, e3, this]
      · have : kPd k r h = false := by simp [kPd, hR]
        simp (disch := omega) only [cl162, w162_0, w162_1, w162_2, w162_5, w162_8, w162_9, w162_10, w162_11, w162_12, w162_13, w162_14, w162_15, w162_16, w162_19, w162_20, w162_23, w162_24, w162_27, w162_28, w162_29, w162_32, w162_33, w162_36, w162_37, w162_40, w162_41, w162_42, w162_43, w162_46, w162_47, w162_48, w162_51, w162_54, w162_55, w162_58, w162_59, hs, ↓neg_vN, lit_nI, nI_leI, nI_ltI, nI_eq, jm_in_nI, nI_clamp, nI_add, n_mul, pk_sub, n_le_t, n_le_f, n_lt_t, n_lt_f, n_eq_t, n_eq_f, true_and, and_true, ne_eq, not_false_eq_true, not_true_eq_false, min_n, max_n, dif_n, n_rem, n_div, or_nI, shl_nI, Option.toList_some, Option.toList_none, List.singleton_append, List.nil_append, if_true, if_false, or_true, true_or, or_false, false_or, and_false, false_and, Bool.false_eq_true, r_isLost ha hM, r_strength ha hM, e1, e3, this]
    · have : kPd k r h = false := by simp [kPd, hP, hQ]
      simp (disch := omega) only [cl162, w162_0, w162_1, w162_2, w162_5, w162_8, w162_9, w162_10, w162_11, w162_12, w162_13, w162_14, w162_15, w162_16, w162_19, w162_20, w162_23, w162_24, w162_27, w162_28, w162_29, w162_32, w162_33, w162_36, w162_37, w162_40, w162_41, w162_42, w162_43, w162_46, w162_47, w162_48, w162_51, w162_54, w162_55, w162_58, w162_59, hs, ↓neg_vN, lit_nI, nI_leI, nI_ltI, nI_eq, jm_in_nI, nI_clamp, nI_add, n_mul, pk_sub, n_le_t, n_le_f, n_lt_t, n_lt_f, n_eq_t, n_eq_f, true_and, and_true, ne_eq, not_false_eq_true, not_true_eq_false, min_n, max_n, dif_n, n_rem, n_div, or_nI, shl_nI, Option.toList_some, Option.toList_none, List.singleton_append, List.nil_append, if_true, if_false, or_true, true_or, or_false, false_or, and_false, false_and, Bool.false_eq_true, r_isLost ha hM, r_strength ha hM, e1, e3, this]
  · by_cases hQ : kPl k h = r + 1
    · by_cases hR : 0 < kSt k h
      · have : kPd k r h = true := by simp [kPd, hP, hR, hQ]
        simp (disch := omega) only [cl162, w162_0, w162_1, w162_2, w162_5, w162_8, w162_9, w162_10, w162_11, w162_12, w162_13, w162_14, w162_15, w162_16, w162_19, w162_20, w162_23, w162_24, w162_27, w162_28, w162_29, w162_32, w162_33, w162_36, w162_37, w162_40, w162_41, w162_42, w162_43, w162_46, w162_47, w162_48, w162_51, w162_54, w162_55, w162_58, w162_59, hs, ↓neg_vN, lit_nI, nI_leI, nI_ltI, nI_eq, jm_in_nI, nI_clamp, nI_add, n_mul, pk_sub, n_le_t, n_le_f, n_lt_t, n_lt_f, n_eq_t, n_eq_f, true_and, and_true, ne_eq, not_false_eq_true, not_true_eq_false, min_n, max_n, dif_n, n_rem, n_div, or_nI, shl_nI, Option.toList_some, Option.toList_none, List.singleton_append, List.nil_append, if_true, if_false, or_true, true_or, or_false, false_or, and_false, false_and, Bool.false_eq_true, r_isLost ha hM, r_strength ha hM, r_playsOf ha hM, plv_eq, this]
      · have : kPd k r h = false := by simp [kPd, hR]
        simp (disch := omega) only [cl162, w162_0, w162_1, w162_2, w162_5, w162_8, w162_9, w162_10, w162_11, w162_12, w162_13, w162_14, w162_15, w162_16, w162_19, w162_20, w162_23, w162_24, w162_27, w162_28, w162_29, w162_32, w162_33, w162_36, w162_37, w162_40, w162_41, w162_42, w162_43, w162_46, w162_47, w162_48, w162_51, w162_54, w162_55, w162_58, w162_59, hs, ↓neg_vN, lit_nI, nI_leI, nI_ltI, nI_eq, jm_in_nI, nI_clamp, nI_add, n_mul, pk_sub, n_le_t, n_le_f, n_lt_t, n_lt_f, n_eq_t, n_eq_f, true_and, and_true, ne_eq, not_false_eq_true, not_true_eq_false, min_n, max_n, dif_n, n_rem, n_div, or_nI, shl_nI, Option.toList_some, Option.toList_none, List.singleton_append, List.nil_append, if_true, if_false, or_true, true_or, or_false, false_or, and_false, false_and, Bool.false_eq_true, r_isLost ha hM, r_strength ha hM, r_playsOf ha hM, plv_eq, this]
    · have : kPd k r h = false := by simp [kPd, hP, hQ]
      simp (disch := omega) only [cl162, w162_0, w162_1, w162_2, w162_5, w162_8, w162_9, w162_10, w162_11, w162_12, w162_13, w162_14, w162_15, w162_16, w162_19, w162_20, w162_23, w162_24, w162_27, w162_28, w162_29, w162_32, w162_33, w162_36, w162_37, w162_40, w162_41, w162_42, w162_43, w162_46, w162_47, w162_48, w162_51, w162_54, w162_55, w162_58, w162_59, hs, ↓neg_vN, lit_nI, nI_leI, nI_ltI, nI_eq, jm_in_nI, nI_clamp, nI_add, n_mul, pk_sub, n_le_t, n_le_f, n_lt_t, n_lt_f, n_eq_t, n_eq_f, true_and, and_true, ne_eq, not_false_eq_true, not_true_eq_false, min_n, max_n, dif_n, n_rem, n_div, or_nI, shl_nI, Option.toList_some, Option.toList_none, List.singleton_append, List.nil_append, if_true, if_false, or_true, true_or, or_false, false_or, and_false, false_and, Bool.false_eq_true, r_isLost ha hM, r_strength ha hM, r_playsOf ha hM, plv_eq, this]
theorem r_handsOf {a r : Nat} {k : kT} (ha : isRA a) (hM : RM a S k) (hV : KV k) (hr : r < k 0) : CL L (d + 3) 163 [.ref a, .int (nI r)] S Z ↔ Z (some (.int (nI (bset (kPd k r) (k 1))))) S := by
  have hs := ra_sh L ha
  have e1 := hM 1 (by decide)
  have v1 := hV.2.1
  have key : ∀ i, i ≤ k 1 → (WQ L (d + 3) 163 4 [.ref a, .int (nI r), .int (nI (bset (kPd k r) i)), .int (nI i)] [] S Z ↔ Z (some (.int (nI (bset (kPd k r) (k 1))))) S) := by
    apply down_ind
    · rw [w163_4]
      simp (disch := omega) only [w163_5, w163_6, w163_7, w163_8, w163_11, w163_12, w163_13, w163_14, w163_15, w163_18, w163_21, w163_22, w163_23, w163_24, w163_27, w163_28, w163_29, w163_30, w163_33, w163_36, w163_37, hs, ↓neg_vN, lit_nI, nI_leI, nI_ltI, nI_eq, jm_in_nI, nI_clamp, nI_add, n_mul, pk_sub, n_le_t, n_le_f, n_lt_t, n_lt_f, n_eq_t, n_eq_f, true_and, and_true, ne_eq, not_false_eq_true, not_true_eq_false, min_n, max_n, dif_n, n_rem, n_div, or_nI, shl_nI, Option.toList_some, Option.toList_none, List.singleton_append, List.nil_append, if_true, if_false, or_true, true_or, or_false, false_or, and_false, false_and, Bool.false_eq_true, e1]
    · intro i hi ih
      rw [← ih, w163_4]
      by_cases hP : kPd k r i = true
      · rw [bset_T hP]
        simp (disch := omega) only [w163_5, w163_6, w163_7, w163_8, w163_11, w163_12, w163_13, w163_14, w163_15, w163_18, w163_21, w163_22, w163_23, w163_24, w163_27, w163_28, w163_29, w163_30, w163_33, w163_36, w163_37, hs, ↓neg_vN, lit_nI, nI_leI, nI_ltI, nI_eq, jm_in_nI, nI_clamp, nI_add, n_mul, pk_sub, n_le_t, n_le_f, n_lt_t, n_lt_f, n_eq_t, n_eq_f, true_and, and_true, ne_eq, not_false_eq_true, not_true_eq_false, min_n, max_n, dif_n, n_rem, n_div, or_nI, shl_nI, Option.toList_some, Option.toList_none, List.singleton_append, List.nil_append, if_true, if_false, or_true, true_or, or_false, false_or, and_false, false_and, Bool.false_eq_true, e1, r_isPlayedBy ha hM hV, hP]
      · have hP' : kPd k r i = false := by simpa using hP
        rw [bset_F hP']
        simp (disch := omega) only [w163_5, w163_6, w163_7, w163_8, w163_11, w163_12, w163_13, w163_14, w163_15, w163_18, w163_21, w163_22, w163_23, w163_24, w163_27, w163_28, w163_29, w163_30, w163_33, w163_36, w163_37, hs, ↓neg_vN, lit_nI, nI_leI, nI_ltI, nI_eq, jm_in_nI, nI_clamp, nI_add, n_mul, pk_sub, n_le_t, n_le_f, n_lt_t, n_lt_f, n_eq_t, n_eq_f, true_and, and_true, ne_eq, not_false_eq_true, not_true_eq_false, min_n, max_n, dif_n, n_rem, n_div, or_nI, shl_nI, Option.toList_some, Option.toList_none, List.singleton_append, List.nil_append, if_true, if_false, or_true, true_or, or_false, false_or, and_false, false_and, Bool.false_eq_true, e1, r_isPlayedBy ha hM hV, hP']
  simp (disch := omega) only [cl163, w163_0, w163_1, w163_2, w163_3, ↓neg_vN, lit_nI, nI_leI, nI_ltI, nI_eq, jm_in_nI, nI_clamp, nI_add, n_mul, pk_sub, n_le_t, n_le_f, n_lt_t, n_lt_f, n_eq_t, n_eq_f, true_and, and_true, ne_eq, not_false_eq_true, not_true_eq_false, min_n, max_n, dif_n, n_rem, n_div, or_nI, shl_nI, Option.toList_some, Option.toList_none, List.singleton_append, List.nil_append, if_true, if_false, or_true, true_or, or_false, false_or, and_false, false_and, Bool.false_eq_true]
  exact key 0 (Nat.zero_le _)
theorem r_rulesOf {a h : Nat} {k : kT} (ha : isRA a) (hM : RM a S k) (hV : KV k) (hh : h < k 1) : CL L (d + 3) 164 [.ref a, .int (nI h)] S Z ↔ Z (some (.int (nI (bset (fun r => kPd k r h) (k 0))))) S := by
  have hs := ra_sh L ha
  have e1 := hM 0 (by decide)
  have v0 := hV.1
  have key : ∀ i, i ≤ k 0 → (WQ L (d + 3) 164 4 [.ref a, .int (nI h), .int (nI (bset (fun r => kPd k r h) i)), .int (nI i)] [] S Z ↔ Z (some (.int (nI (bset (fun r => kPd k r h) (k 0))))) S) := by
    apply down_ind
    · rw [w164_4]
      simp (disch := omega) only [w164_5, w164_6, w164_7, w164_8, w164_11, w164_12, w164_13, w164_14, w164_15, w164_18, w164_21, w164_22, w164_23, w164_24, w164_27, w164_28, w164_29, w164_30, w164_33, w164_36, w164_37, hs, ↓neg_vN, lit_nI, nI_leI, nI_ltI, nI_eq, jm_in_nI, nI_clamp, nI_add, n_mul, pk_sub, n_le_t, n_le_f, n_lt_t, n_lt_f, n_eq_t, n_eq_f, true_and, and_true, ne_eq, not_false_eq_true, not_true_eq_false, min_n, max_n, dif_n, n_rem, n_div, or_nI, shl_nI, Option.toList_some, Option.toList_none, List.singleton_append, List.nil_append, if_true, if_false, or_true, true_or, or_false, false_or, and_false, false_and, Bool.false_eq_true, e1]
    · intro i hi ih
      rw [← ih, w164_4]
      by_cases hP : kPd k i h = true
      · rw [bset_T (p := fun r => kPd k r h) hP]
        simp (disch := omega) only [w164_5, w164_6, w164_7, w164_8, w164_11, w164_12, w164_13, w164_14, w164_15, w164_18, w164_21, w164_22, w164_23, w164_24, w164_27, w164_28, w164_29, w164_30, w164_33, w164_36, w164_37, hs, ↓neg_vN, lit_nI, nI_leI, nI_ltI, nI_eq, jm_in_nI, nI_clamp, nI_add, n_mul, pk_sub, n_le_t, n_le_f, n_lt_t, n_lt_f, n_eq_t, n_eq_f, true_and, and_true, ne_eq, not_false_eq_true, not_true_eq_false, min_n, max_n, dif_n, n_rem, n_div, or_nI, shl_nI, Option.toList_some, Option.toList_none, List.singleton_append, List.nil_append, if_true, if_false, or_true, true_or, or_false, false_or, and_false, false_and, Bool.false_eq_true, e1, r_isPlayedBy ha hM hV, hP]
      · have hP' : kPd k i h = false := by simpa using hP
        rw [bset_F (p := fun r => kPd k r h) hP']
        simp (disch := omega) only [w164_5, w164_6, w164_7, w164_8, w164_11, w164_12, w164_13, w164_14, w164_15, w164_18, w164_21, w164_22, w164_23, w164_24, w164_27, w164_28, w164_29, w164_30, w164_33, w164_36, w164_37, hs, ↓neg_vN, lit_nI, nI_leI, nI_ltI, nI_eq, jm_in_nI, nI_clamp, nI_add, n_mul, pk_sub, n_le_t, n_le_f, n_lt_t, n_lt_f, n_eq_t, n_eq_f, true_and, and_true, ne_eq, not_false_eq_true, not_true_eq_false, min_n, max_n, dif_n, n_rem, n_div, or_nI, shl_nI, Option.toList_some, Option.toList_none, List.singleton_append, List.nil_append, if_true, if_false, or_true, true_or, or_false, false_or, and_false, false_and, Bool.false_eq_true, e1, r_isPlayedBy ha hM hV, hP']
  simp (disch := omega) only [cl164, w164_0, w164_1, w164_2, w164_3, ↓neg_vN, lit_nI, nI_leI, nI_ltI, nI_eq, jm_in_nI, nI_clamp, nI_add, n_mul, pk_sub, n_le_t, n_le_f, n_lt_t, n_lt_f, n_eq_t, n_eq_f, true_and, and_true, ne_eq, not_false_eq_true, not_true_eq_false, min_n, max_n, dif_n, n_rem, n_div, or_nI, shl_nI, Option.toList_some, Option.toList_none, List.singleton_append, List.nil_append, if_true, if_false, or_true, true_or, or_false, false_or, and_false, false_and, Bool.false_eq_true]
  exact key 0 (Nat.zero_le _)
theorem r_lossOf {a r p : Nat} {k : kT} (ha : isRA a) (hM : RM a S k) (hV : KV k) (hr : r < k 0) : CL L (d + 1) 165 [.ref a, .int (nI r), .int (nI (if p = 0 then 0 else 1))] S Z ↔ Z (some (.int (nI (lossV (kKd k r) (kLs k r) p)))) S := by
  have v0 := hV.1
  obtain ⟨b1, b2, b3, b4, b5, b6⟩ := hV.2.2.2.2.2 r hr
  have hk5 : kKd k r = 1 ∨ kKd k r = 2 ∨ kKd k r = 3 ∨ kKd k r = 4 ∨ kKd k r = 5 := by omega
  by_cases hp : p = 0
  · rcases hk5 with h | h | h | h | h <;> simp (disch := omega) only [cl165, w165_0, w165_1, w165_2, w165_3, w165_6, w165_7, w165_8, w165_9, w165_10, w165_13, w165_40, w165_41, w165_42, w165_43, w165_44, w165_45, w165_46, w165_47, w165_50, w165_51, w165_54, w165_55, w165_56, w165_57, w165_58, w165_59, w165_62, w165_63, w165_66, w165_67, ↓neg_vN, lit_nI, nI_leI, nI_ltI, nI_eq, jm_in_nI, nI_clamp, nI_add, n_mul, pk_sub, n_le_t, n_le_f, n_lt_t, n_lt_f, n_eq_t, n_eq_f, true_and, and_true, ne_eq, not_false_eq_true, not_true_eq_false, min_n, max_n, dif_n, n_rem, n_div, or_nI, shl_nI, Option.toList_some, Option.toList_none, List.singleton_append, List.nil_append, if_true, if_false, or_true, true_or, or_false, false_or, and_false, false_and, Bool.false_eq_true, r_of2 ha hM, r_of0 ha hM, h, hp, jm_sw, lossV]
  · rcases hk5 with h | h | h | h | h <;> simp (disch := omega) only [cl165, w165_0, w165_1, w165_2, w165_3, w165_6, w165_7, w165_8, w165_9, w165_10, w165_13, w165_40, w165_41, w165_42, w165_43, w165_44, w165_45, w165_46, w165_47, w165_50, w165_51, w165_54, w165_55, w165_56, w165_57, w165_58, w165_59, w165_62, w165_63, w165_66, w165_67, ↓neg_vN, lit_nI, nI_leI, nI_ltI, nI_eq, jm_in_nI, nI_clamp, nI_add, n_mul, pk_sub, n_le_t, n_le_f, n_lt_t, n_lt_f, n_eq_t, n_eq_f, true_and, and_true, ne_eq, not_false_eq_true, not_true_eq_false, min_n, max_n, dif_n, n_rem, n_div, or_nI, shl_nI, Option.toList_some, Option.toList_none, List.singleton_append, List.nil_append, if_true, if_false, or_true, true_or, or_false, false_or, and_false, false_and, Bool.false_eq_true, r_of2 ha hM, r_of0 ha hM, h, hp, jm_sw, lossV]
end
