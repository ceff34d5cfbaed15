/-! ===== rows ===== -/
theorem vM_toInt : vM.toInt = -1 := by decide +kernel
theorem eq_vM {a : Nat} (h : a < 2 ^ 31) : (nI a = vM) = False := eq_false (fun q => by
  have e := congrArg Int32.toInt q
  rw [vM_toInt, nI_toInt h] at e
  omega)
theorem vM_lt {a : Nat} (h : a < 2 ^ 31) : (vM < nI a) = True := eq_true (by
  rw [Int32.lt_iff_toInt_lt, vM_toInt, nI_toInt h]; omega)
theorem le_vM {a : Nat} (h : a < 2 ^ 31) : (nI a ≤ vM) = False := eq_false (by
  rw [Int32.le_iff_toInt_le, vM_toInt, nI_toInt h]; omega)
/-- n items from i on, of m that are there -/
def hasP (i n : Int32) (m : Nat) : Bool := decide (0 ≤ i.toInt) && decide (0 ≤ n.toInt) && decide (i.toInt + n.toInt ≤ m)
theorem hasP_of {i n : Int32} {m : Nat} (hm : m ≤ 40) (h : hasP i n m = true) : ∃ p q, i = nI p ∧ n = nI q ∧ p + q ≤ m := by
  unfold hasP at h
  simp at h
  refine ⟨i.toInt.toNat, n.toInt.toNat, ?_, ?_, by omega⟩
  · apply Int32.toInt_inj.mp
    rw [nI_toInt (by omega)]
    omega
  · apply Int32.toInt_inj.mp
    rw [nI_toInt (by omega)]
    omega
theorem lt0_toInt (x : Int32) : (x < nI 0) ↔ x.toInt < 0 := by rw [Int32.lt_iff_toInt_lt, nI_toInt (by decide)]; exact Iff.rfl
theorem le0_toInt (x : Int32) : (nI 0 ≤ x) ↔ 0 ≤ x.toInt := by rw [Int32.le_iff_toInt_le, nI_toInt (by decide)]; exact Iff.rfl
theorem subx_toInt {m : Nat} {n : Int32} (hm : m ≤ 40) (h : 0 ≤ n.toInt) : (nI m - n).toInt = (m : Int) - n.toInt := by
  have := Int32.toInt_lt n
  rw [Int32.toInt_sub, nI_toInt (by omega)]
  exact Int.bmod_eq_of_le (by show -(((4294967296 : Nat) : Int) / 2) ≤ (m : Int) - n.toInt; omega) (by show (m : Int) - n.toInt < (((4294967296 : Nat) : Int) + 1) / 2; omega)
theorem addl_toInt (x y : Int32) : (x.toInt64 + y.toInt64).toInt = x.toInt + y.toInt := by
  have h1 := Int32.toInt_lt x
  have h2 := Int32.toInt_lt y
  have h3 := Int32.le_toInt x
  have h4 := Int32.le_toInt y
  rw [Int64.toInt_add, Int32.toInt_toInt64, Int32.toInt_toInt64]
  exact Int.bmod_eq_of_le (by show -(((18446744073709551616 : Nat) : Int) / 2) ≤ x.toInt + y.toInt; omega) (by show x.toInt + y.toInt < (((18446744073709551616 : Nat) : Int) + 1) / 2; omega)
theorem addl_gt {m : Nat} {x y : Int32} (hm : m < 2 ^ 31) : (lN m < x.toInt64 + y.toInt64) ↔ (m : Int) < x.toInt + y.toInt := by
  rw [Int64.lt_iff_toInt_lt, addl_toInt, lN_toInt hm]
theorem rf_items : ∀ r, r < 8 → jm_rf 2 r = 3 + r ∧ jm_kd (3 + r) = 9 ∧ jm_ll 0 (3 + r) = 40 ∧ jm_lw 9 (3 + r) = 40 ∧ jm_la 0 (3 + r) = 40 ∧ jm_ha 0 (3 + r) = true := by decide +kernel
theorem row_sh (L : Nat) {r : Nat} (h : r < 8) : jm_rf 2 r = 3 + r ∧ jm_kd (3 + r) = 9 ∧ jm_ll L (3 + r) = 40 ∧ jm_lw 9 (3 + r) = 40 ∧ jm_la L (3 + r) = 40 ∧ jm_ha L (3 + r) = true := by
  have := rf_items r h
  have hne : 3 + r ≠ jx_S := by show 3 + r ≠ 1000000; omega
  rw [ll_of hne, la_of hne, ha_of hne]
  exact this
section
variable {xs : Nat → Int32} {L d : Nat} {S : jm_I2} {k : kT} {Z : Option Value → jm_I2 → Prop}
theorem c_noRow {v : Int32} {x : Nat} : CL L (d + 1) 121 [.ref x, .int v] S Z ↔ (if nI 0 ≤ v ∧ v ≤ nI 7 then Z (some (.int (nI 0))) S else Z (some (.int (nI 1))) S) := by
  by_cases h : nI 0 ≤ v ∧ v ≤ nI 7
  · simp (disch := omega) only [cl121, w121_0, w121_1, w121_2, w121_4, w121_7, w121_10, w121_11, w121_14, w121_15, lit_nI, c_withinP, h, true_and, and_self, if_true, if_false, Option.toList_some, List.singleton_append, nI_eq, n_eq_t, n_eq_f, or_true, true_or]
  · simp (disch := omega) only [cl121, w121_0, w121_1, w121_2, w121_4, w121_7, w121_10, w121_11, w121_14, w121_15, lit_nI, c_withinP, h, true_and, if_true, if_false, Option.toList_some, List.singleton_append, nI_eq, n_eq_t, n_eq_f, true_or, or_true]
theorem r_isRow {v : Int32} : CL L (d + 1) 131 [.int v] S Z ↔ (if nI 0 ≤ v ∧ v ≤ nI 7 then Z (some (.int (nI 1))) S else Z (some (.int (nI 0))) S) := by
  by_cases h : nI 0 ≤ v ∧ v ≤ nI 7
  · simp (disch := omega) only [cl131, w131_0, w131_1, w131_2, w131_3, w131_6, w131_9, lit_nI, lit_lN, r_in, lx_le, xl_le, h, true_and, and_self, if_true, if_false, Option.toList_some, List.singleton_append, nI_eq, n_eq_t, n_eq_f, or_true, true_or]
  · simp (disch := omega) only [cl131, w131_0, w131_1, w131_2, w131_3, w131_6, w131_9, lit_nI, lit_lN, r_in, lx_le, xl_le, h, true_and, if_true, if_false, Option.toList_some, List.singleton_append, nI_eq, n_eq_t, n_eq_f, true_or, or_true]
theorem c_finding {n : Nat} : CL L d 126 [.ref 0, .int (nI n)] S Z ↔ Z (some (.int (vO - nI n))) (jm_upd S 0 9 (nI n)) := by
  have ht := top_sh L
  simp (disch := omega) only [cl126, w126_0, w126_1, w126_2, w126_5, w126_8, w126_9, w126_10, ht, ↓neg_vM, ↓neg_vB, ↓neg_vS, ↓neg_vF, ↓neg_vO, ↓neg_vA, ↓neg_vN, lit_nI, nI_leI, nI_ltI, nI_eq, jm_in_nI, nI_clamp, nI_add, n_mul, pk_sub, n_le_t, n_le_f, n_lt_t, n_lt_f, n_eq_t, n_eq_f, true_and, and_true, ne_eq, not_false_eq_true, not_true_eq_false, min_n, max_n, dif_n, n_rem, n_div, or_nI, shl_nI, Option.toList_some, Option.toList_none, List.singleton_append, List.nil_append, if_true, if_false, or_true, true_or, or_false, false_or, and_false, false_and, Bool.false_eq_true]
theorem c_unfound {v : Int32} : CL L d 127 [.ref 0, .int v] S Z ↔ Z (some (.int v)) (jm_upd S 0 9 (nI 0)) := by
  have ht := top_sh L
  simp (disch := omega) only [cl127, w127_0, w127_1, w127_2, w127_5, w127_6, ht, ↓neg_vM, ↓neg_vB, ↓neg_vS, ↓neg_vF, ↓neg_vO, ↓neg_vA, ↓neg_vN, lit_nI, nI_leI, nI_ltI, nI_eq, jm_in_nI, nI_clamp, nI_add, n_mul, pk_sub, n_le_t, n_le_f, n_lt_t, n_lt_f, n_eq_t, n_eq_f, true_and, and_true, ne_eq, not_false_eq_true, not_true_eq_false, min_n, max_n, dif_n, n_rem, n_div, or_nI, shl_nI, Option.toList_some, Option.toList_none, List.singleton_append, List.nil_append, if_true, if_false, or_true, true_or, or_false, false_or, and_false, false_and, Bool.false_eq_true]
theorem r_finding {n : Nat} : CL L d 130 [.ref 128, .int (nI n)] S Z ↔ Z (some (.int (vO - nI n))) (jm_upd S 128 1 (nI n)) := by
  have hm := mod_sh L
  simp (disch := omega) only [cl130, w130_0, w130_1, w130_2, w130_5, w130_7, w130_8, w130_9, hm, ↓neg_vM, ↓neg_vB, ↓neg_vS, ↓neg_vF, ↓neg_vO, ↓neg_vA, ↓neg_vN, lit_nI, nI_leI, nI_ltI, nI_eq, jm_in_nI, nI_clamp, nI_add, n_mul, pk_sub, n_le_t, n_le_f, n_lt_t, n_lt_f, n_eq_t, n_eq_f, true_and, and_true, ne_eq, not_false_eq_true, not_true_eq_false, min_n, max_n, dif_n, n_rem, n_div, or_nI, shl_nI, Option.toList_some, Option.toList_none, List.singleton_append, List.nil_append, if_true, if_false, or_true, true_or, or_false, false_or, and_false, false_and, Bool.false_eq_true]
theorem c_isMissT {r : Nat} (hr : r < 8) (h : S 12 r = vM) : CL L d 71 [.ref 1, .int (nI r)] S Z ↔ Z (some (.int (nI 1))) S := by
  have ht := top_sh L
  simp (disch := omega) only [cl71, w71_0, w71_1, w71_4, w71_5, w71_6, w71_7, w71_10, w71_11, w71_14, w71_15, ht, ↓neg_vM, ↓neg_vB, ↓neg_vS, ↓neg_vF, ↓neg_vO, ↓neg_vA, ↓neg_vN, lit_nI, nI_leI, nI_ltI, nI_eq, jm_in_nI, nI_clamp, nI_add, n_mul, pk_sub, n_le_t, n_le_f, n_lt_t, n_lt_f, n_eq_t, n_eq_f, true_and, and_true, ne_eq, not_false_eq_true, not_true_eq_false, min_n, max_n, dif_n, n_rem, n_div, or_nI, shl_nI, Option.toList_some, Option.toList_none, List.singleton_append, List.nil_append, if_true, if_false, or_true, true_or, or_false, false_or, and_false, false_and, Bool.false_eq_true, h]
theorem c_isMissF {r n : Nat} (hr : r < 8) (hn : n ≤ 40) (h : S 12 r = nI n) : CL L d 71 [.ref 1, .int (nI r)] S Z ↔ Z (some (.int (nI 0))) S := by
  have ht := top_sh L
  simp (disch := omega) only [cl71, w71_0, w71_1, w71_4, w71_5, w71_6, w71_7, w71_10, w71_11, w71_14, w71_15, ht, ↓neg_vM, ↓neg_vB, ↓neg_vS, ↓neg_vF, ↓neg_vO, ↓neg_vA, ↓neg_vN, lit_nI, nI_leI, nI_ltI, nI_eq, jm_in_nI, nI_clamp, nI_add, n_mul, pk_sub, n_le_t, n_le_f, n_lt_t, n_lt_f, n_eq_t, n_eq_f, true_and, and_true, ne_eq, not_false_eq_true, not_true_eq_false, min_n, max_n, dif_n, n_rem, n_div, or_nI, shl_nI, Option.toList_some, Option.toList_none, List.singleton_append, List.nil_append, if_true, if_false, or_true, true_or, or_false, false_or, and_false, false_and, Bool.false_eq_true, h, eq_vM]
theorem c_hasPlaces {r m : Nat} {i n : Int32} (hr : r < 8) (hm : m ≤ 40) (h : S 12 r = nI m) : CL L d 72 [.ref 1, .int (nI r), .int i, .int n] S Z ↔ (if hasP i n m = true then Z (some (.int (nI 1))) S else Z (some (.int (nI 0))) S) := by
  have ht := top_sh L
  by_cases h1 : i < nI 0
  · have e : hasP i n m = false := by
      unfold hasP
      rw [lt0_toInt] at h1
      simp [show ¬ 0 ≤ i.toInt by omega]
    simp (disch := omega) only [cl72, w72_0, w72_1, w72_4, w72_5, w72_8, w72_9, w72_10, w72_13, w72_14, w72_15, w72_16, w72_17, w72_20, w72_21, w72_24, w72_25, ht, ↓neg_vM, ↓neg_vB, ↓neg_vS, ↓neg_vF, ↓neg_vO, ↓neg_vA, ↓neg_vN, lit_nI, nI_leI, nI_ltI, nI_eq, jm_in_nI, nI_clamp, nI_add, n_mul, pk_sub, n_le_t, n_le_f, n_lt_t, n_lt_f, n_eq_t, n_eq_f, true_and, and_true, ne_eq, not_false_eq_true, not_true_eq_false, min_n, max_n, dif_n, n_rem, n_div, or_nI, shl_nI, Option.toList_some, Option.toList_none, List.singleton_append, List.nil_append, if_true, if_false, or_true, true_or, or_false, false_or, and_false, false_and, Bool.false_eq_true, h, h1, e]
  · by_cases h2 : n < nI 0
    · have e : hasP i n m = false := by
        unfold hasP
        rw [lt0_toInt] at h2
        simp [show ¬ 0 ≤ n.toInt by omega]
      simp (disch := omega) only [cl72, w72_0, w72_1, w72_4, w72_5, w72_8, w72_9, w72_10, w72_13, w72_14, w72_15, w72_16, w72_17, w72_20, w72_21, w72_24, w72_25, ht, ↓neg_vM, ↓neg_vB, ↓neg_vS, ↓neg_vF, ↓neg_vO, ↓neg_vA, ↓neg_vN, lit_nI, nI_leI, nI_ltI, nI_eq, jm_in_nI, nI_clamp, nI_add, n_mul, pk_sub, n_le_t, n_le_f, n_lt_t, n_lt_f, n_eq_t, n_eq_f, true_and, and_true, ne_eq, not_false_eq_true, not_true_eq_false, min_n, max_n, dif_n, n_rem, n_div, or_nI, shl_nI, Option.toList_some, Option.toList_none, List.singleton_append, List.nil_append, if_true, if_false, or_true, true_or, or_false, false_or, and_false, false_and, Bool.false_eq_true, h, h1, h2, e]
    · have g1 := h1
      have g2 := h2
      rw [lt0_toInt] at g1 g2
      have e3 : (nI m - n < i) ↔ (m : Int) - n.toInt < i.toInt := by rw [Int32.lt_iff_toInt_lt, subx_toInt hm (by omega)]
      by_cases h3 : (m : Int) - n.toInt < i.toInt
      · have e : hasP i n m = false := by
          unfold hasP
          simp [show ¬ i.toInt + n.toInt ≤ m by omega]
        have e4 := e3.mpr h3
        simp (disch := omega) only [cl72, w72_0, w72_1, w72_4, w72_5, w72_8, w72_9, w72_10, w72_13, w72_14, w72_15, w72_16, w72_17, w72_20, w72_21, w72_24, w72_25, ht, ↓neg_vM, ↓neg_vB, ↓neg_vS, ↓neg_vF, ↓neg_vO, ↓neg_vA, ↓neg_vN, lit_nI, nI_leI, nI_ltI, nI_eq, jm_in_nI, nI_clamp, nI_add, n_mul, pk_sub, n_le_t, n_le_f, n_lt_t, n_lt_f, n_eq_t, n_eq_f, true_and, and_true, ne_eq, not_false_eq_true, not_true_eq_false, min_n, max_n, dif_n, n_rem, n_div, or_nI, shl_nI, Option.toList_some, Option.toList_none, List.singleton_append, List.nil_append, if_true, if_false, or_true, true_or, or_false, false_or, and_false, false_and, Bool.false_eq_true, h, h1, h2, e4, e]
      · have e : hasP i n m = true := by
          unfold hasP
          simp
          omega
        have e4 : ¬ (nI m - n < i) := fun q => h3 (e3.mp q)
        simp (disch := omega) only [cl72, w72_0, w72_1, w72_4, w72_5, w72_8, w72_9, w72_10, w72_13, w72_14, w72_15, w72_16, w72_17, w72_20, w72_21, w72_24, w72_25, ht, ↓neg_vM, ↓neg_vB, ↓neg_vS, ↓neg_vF, ↓neg_vO, ↓neg_vA, ↓neg_vN, lit_nI, nI_leI, nI_ltI, nI_eq, jm_in_nI, nI_clamp, nI_add, n_mul, pk_sub, n_le_t, n_le_f, n_lt_t, n_lt_f, n_eq_t, n_eq_f, true_and, and_true, ne_eq, not_false_eq_true, not_true_eq_false, min_n, max_n, dif_n, n_rem, n_div, or_nI, shl_nI, Option.toList_some, Option.toList_none, List.singleton_append, List.nil_append, if_true, if_false, or_true, true_or, or_false, false_or, and_false, false_and, Bool.false_eq_true, h, h1, h2, e4, e]
theorem IC_frame : True := trivial
end
