/-! ===== foretold ===== -/
theorem isC83 : isCamp 83 := Or.inr (Or.inr (Or.inr (Or.inr (Or.inl rfl))))
theorem isC93 : isCamp 93 := Or.inr (Or.inr (Or.inr (Or.inr (Or.inr (Or.inl rfl)))))
theorem isC105 : isCamp 105 := Or.inr (Or.inr (Or.inr (Or.inr (Or.inr (Or.inr rfl)))))
theorem Same_q {S U : jm_I2} (h : ∀ o, ¬ scr o → o ≠ 128 → U o = S o) (h1 : ∀ i, i ≠ 0 → U 128 i = S 128 i) : Same S U := by
  have n : ∀ o, ¬ scr o → o ≠ 128 → ∀ i, U o i = S o i := fun o ho h2 i => by rw [h o ho h2]
  refine ⟨fun o ho => h o (by unfold scr; omega) (by omega), ?_⟩
  refine ⟨n _ (by unfold scr; omega) (by decide) _, n _ (by unfold scr; omega) (by decide) _, n _ (by unfold scr; omega) (by decide) _, n _ (by unfold scr; omega) (by decide) _, n _ (by unfold scr; omega) (by decide) _, n _ (by unfold scr; omega) (by decide) _, h1 _ (by decide), h1 _ (by decide), h1 _ (by decide), h1 _ (by decide), h1 _ (by decide)⟩
theorem RM_fill {S : jm_I2} {k : kT} : RM 134 (fillS S 134 (fun i => nI (k i)) 34) k := fun i hi => fillS_lt hi
def lsb (m : Nat) : Nat := if m.testBit 0 then 0 else if m.testBit 1 then 1 else if m.testBit 2 then 2 else if m.testBit 3 then 3 else if m.testBit 4 then 4 else 5
theorem lsb_le (m : Nat) : lsb m ≤ 5 := by
  unfold lsb
  split
  · omega
  · split
    · omega
    · split
      · omega
      · split
        · omega
        · split <;> omega
theorem lsb_eq {m r : Nat} (h : m.testBit r = true) (hr : r < 6) (hl : ∀ x, x < r → m.testBit x = false) : lsb m = r := by
  have : r = 0 ∨ r = 1 ∨ r = 2 ∨ r = 3 ∨ r = 4 ∨ r = 5 := by omega
  unfold lsb
  rcases this with rfl | rfl | rfl | rfl | rfl | rfl
  · simp [h]
  · simp [h, hl 0 (by omega)]
  · simp [h, hl 0 (by omega), hl 1 (by omega)]
  · simp [h, hl 0 (by omega), hl 1 (by omega), hl 2 (by omega)]
  · simp [h, hl 0 (by omega), hl 1 (by omega), hl 2 (by omega), hl 3 (by omega)]
  · simp [hl 0 (by omega), hl 1 (by omega), hl 2 (by omega), hl 3 (by omega), hl 4 (by omega)]
theorem ntz_pre : ∀ m, m < 64 → m ≠ 0 → (nI m ^^^ vM) &&& (nI m - nI 1) = nI (2 ^ lsb m - 1) := by decide +kernel
theorem us_n : ∀ a, a < 64 → ∀ s, s < 6 → ((nI a).toUInt32 >>> ((nI s).toUInt32 &&& (nI 31).toUInt32)).toInt32 = nI (a >>> s) := by decide +kernel
theorem nand_n : ∀ a, a < 64 → ∀ b, b < 64 → nI a &&& (nI b ^^^ vM) = nI (a &&& (63 ^^^ b)) := by decide +kernel
theorem nand_n5 {a b : Nat} (ha : a < 64) (hb : b < 64) : nI a &&& (nI b ^^^ vM) = nI (a &&& (63 ^^^ b)) := nand_n a ha b hb
theorem and_le {a b : Nat} : a &&& b ≤ a := Nat.and_le_left
theorem b63 : ∀ r, r < 6 → Nat.testBit 63 r = true := by decide
theorem nand_bit {a b r : Nat} (hr : r < 6) : (a &&& (63 ^^^ b)).testBit r = (a.testBit r && !b.testBit r) := by
  rw [Nat.testBit_and, Nat.testBit_xor, b63 r hr]
  cases b.testBit r <;> simp
theorem nat_zero_of {m n : Nat} (hm : m < 2 ^ n) (h : ∀ x, x < n → m.testBit x = false) : m = 0 := by
  apply Nat.eq_of_testBit_eq
  intro i
  rw [Nat.zero_testBit]
  by_cases hi : i < n
  · exact h i hi
  · exact Nat.testBit_lt_two_pow (Nat.lt_of_lt_of_le hm (Nat.pow_le_pow_right (by decide) (by omega)))
/-- the first from i on, m at most -/
def srch (p : Nat → Bool) (g : Nat → Int32) : Nat → Nat → Int32
  | 0, _ => vN
  | m + 1, i => if p i = true then g i else srch p g m (i + 1)
theorem srch_T {p : Nat → Bool} {g : Nat → Int32} {i n : Nat} (h : i < n) (hp : p i = true) : srch p g (n - i) i = g i := by
  rw [show n - i = n - (i + 1) + 1 by omega, srch, if_pos hp]
theorem srch_F {p : Nat → Bool} {g : Nat → Int32} {i n : Nat} (h : i < n) (hp : p i = false) : srch p g (n - i) i = srch p g (n - (i + 1)) (i + 1) := by
  rw [show n - i = n - (i + 1) + 1 by omega, srch, if_neg (by rw [hp]; decide)]
def ffM (k : kT) (s n : Nat) : Nat := s &&& (63 ^^^ bset (kHd (hoursA k n)) (k 0))
def ffP (k : kT) (s n : Nat) : Bool := decide (ffM k s n ≠ 0)
def ffG (k : kT) (s w n : Nat) : Int32 := if w = 0 then nI (lsb (ffM k s n)) else nI n
section
variable {xs : Nat → Int32} {L d : Nat} {S : jm_I2} {k : kT} {Z : Option Value → jm_I2 → Prop}
theorem c_ntz {m : Nat} (h : m < 64) (h0 : m ≠ 0) : CL L d 220 [.int (nI m)] S Z ↔ Z (some (.int (nI (lsb m)))) S := by
  have e := ntz_pre m h h0
  have hl := lsb_le m
  have u1 := us_n 31 (by decide) 4 (by decide)
  have u2 := us_n 15 (by decide) 2 (by decide)
  have u3 := us_n 7 (by decide) 2 (by decide)
  have u4 := us_n 3 (by decide) 1 (by decide)
  have u5 := us_n 1 (by decide) 1 (by decide)
  rw [show 31 >>> 4 = 1 from rfl] at u1
  rw [show 15 >>> 2 = 3 from rfl] at u2
  rw [show 7 >>> 2 = 1 from rfl] at u3
  rw [show 3 >>> 1 = 1 from rfl] at u4
  rw [show 1 >>> 1 = 0 from rfl] at u5
  have hc : lsb m = 0 ∨ lsb m = 1 ∨ lsb m = 2 ∨ lsb m = 3 ∨ lsb m = 4 ∨ lsb m = 5 := by omega
  rcases hc with hc | hc | hc | hc | hc | hc <;> rw [hc] at e ⊢ <;> simp (disch := omega) only [cl220, w220_0, w220_1, w220_2, w220_3, w220_4, w220_5, w220_6, w220_7, w220_8, w220_9, w220_12, w220_13, w220_15, w220_16, w220_17, w220_18, w220_19, w220_20, w220_23, w220_26, w220_29, w220_30, w220_32, w220_33, w220_34, w220_35, w220_38, w220_41, w220_44, w220_45, w220_47, w220_48, w220_49, w220_50, w220_52, w220_55, w220_58, w220_59, w220_60, w220_61, w220_62, w220_63, w220_64, w220_67, w220_70, w220_71, w220_72, w220_73, w220_74, w220_75, w220_76, w220_77, w220_78, w220_79, ↓neg_vM, lit_nI, e, Nat.reducePow, Nat.reduceSub, nI_leI, nI_ltI, nI_eq, nI_add, and_nI, n_le_t, n_le_f, n_lt_t, n_lt_f, n_eq_t, n_eq_f, if_true, if_false, u1, u2, u3, u4, u5, Nat.zero_and, Nat.reduceAdd]
theorem c_behind {n : Nat} (hX : RX 25 S k) (hV : KV k) (hk1 : 0 < k 1) (hn : k 3 + n ≤ 100000) (hZ : ∀ T, RX 83 T (hoursA k n) → offC 83 S T → Z (some (.ref 83)) T) : CL L (d + 4) 34 [.ref 82, .ref 25, .int (nI n)] S Z := by
  have ht := top_sh L
  have hs := camp_sh isC83
  simp (disch := omega) only [cl34, w34_0, w34_1, w34_4, w34_5, w34_8, w34_9, w34_12, w34_13, w34_16, w34_17, w34_20, ht, hs, ↓neg_vN, lit_nI, nI_leI, nI_ltI, nI_eq, jm_in_nI, nI_clamp, nI_add, n_mul, pk_sub, n_le_t, n_le_f, n_lt_t, n_lt_f, n_eq_t, n_eq_f, true_and, and_true, ne_eq, not_false_eq_true, not_true_eq_false, min_n, max_n, dif_n, n_rem, n_div, or_nI, shl_nI, Option.toList_some, Option.toList_none, List.singleton_append, List.nil_append, if_true, if_false, or_true, true_or, or_false, false_or, and_false, false_and, Bool.false_eq_true]
  refine c_become isC83 isC25 (by decide) hX hV (fun T tX tf => ?_)
  simp (disch := omega) only [cl34, w34_0, w34_1, w34_4, w34_5, w34_8, w34_9, w34_12, w34_13, w34_16, w34_17, w34_20, ht, hs, ↓neg_vN, lit_nI, nI_leI, nI_ltI, nI_eq, jm_in_nI, nI_clamp, nI_add, n_mul, pk_sub, n_le_t, n_le_f, n_lt_t, n_lt_f, n_eq_t, n_eq_f, true_and, and_true, ne_eq, not_false_eq_true, not_true_eq_false, min_n, max_n, dif_n, n_rem, n_div, or_nI, shl_nI, Option.toList_some, Option.toList_none, List.singleton_append, List.nil_append, if_true, if_false, or_true, true_or, or_false, false_or, and_false, false_and, Bool.false_eq_true]
  refine c_passHours isC83 tX hV hk1 hn (fun T2 tX2 tf2 => ?_)
  simp (disch := omega) only [cl34, w34_0, w34_1, w34_4, w34_5, w34_8, w34_9, w34_12, w34_13, w34_16, w34_17, w34_20, ht, hs, ↓neg_vN, lit_nI, nI_leI, nI_ltI, nI_eq, jm_in_nI, nI_clamp, nI_add, n_mul, pk_sub, n_le_t, n_le_f, n_lt_t, n_lt_f, n_eq_t, n_eq_f, true_and, and_true, ne_eq, not_false_eq_true, not_true_eq_false, min_n, max_n, dif_n, n_rem, n_div, or_nI, shl_nI, Option.toList_some, Option.toList_none, List.singleton_append, List.nil_append, if_true, if_false, or_true, true_or, or_false, false_or, and_false, false_and, Bool.false_eq_true]
  exact hZ T2 tX2 (fun o ho => by rw [tf2 o ho, tf o ho])
theorem p_ahead {v w : Int32} (hI : InvK xs S k) : CL L (d + 9) 94 [.ref 0, .int v, .int w] S (Zx xs L (d + 9) 183 [.ref 128, .int v, .int w]) := by
  have ht := top_sh L
  have hm := mod_sh L
  obtain ⟨hX, hM, hV, h999, h01⟩ := hI.2.2.2.1
  have hs := camp_sh isC83
  have hl := camp_ll L isC83
  have hM4 : RM 132 (jm_upd S 128 0 (nI 0)) k := RM_of hM (upd_ne (by decide))
  have v0 := hV.1
  by_cases h : isN v (k 0) = true
  · by_cases h2 : nI 0 ≤ w ∧ w ≤ nI 60
    · obtain ⟨r, hr, rfl⟩ := isN_of (by omega) h
      obtain ⟨n, -, hn, rfl⟩ := btw (by decide) h2 (by decide)
      clear h2
      have hk1 := h01 (by omega)
      simp (disch := omega) only [cl94, w94_0, w94_1, w94_2, w94_5, w94_8, w94_9, w94_10, w94_12, w94_15, w94_18, w94_20, w94_21, w94_22, w94_25, w94_26, w94_29, w94_30, w94_33, w94_36, w94_37, w94_38, ht, ↓neg_vM, ↓neg_vB, ↓neg_vS, ↓neg_vF, ↓neg_vO, ↓neg_vA, ↓neg_vN, lit_nI, nI_leI, nI_ltI, nI_eq, jm_in_nI, nI_clamp, nI_add, n_mul, pk_sub, n_le_t, n_le_f, n_lt_t, n_lt_f, n_eq_t, n_eq_f, true_and, and_true, ne_eq, not_false_eq_true, not_true_eq_false, min_n, max_n, dif_n, n_rem, n_div, or_nI, shl_nI, Option.toList_some, Option.toList_none, List.singleton_append, List.nil_append, if_true, if_false, or_true, true_or, or_false, false_or, and_false, false_and, Bool.false_eq_true, c_noRule hX hV, h, c_withinP]
      refine c_behind hX hV hk1 (by omega) (fun T tX tf => ?_)
      have g := (tX.2.2.2.2.2 r (by rw [(hoursA_low k n).1]; exact hr)).2.1
      simp (disch := omega) only [cl94, w94_0, w94_1, w94_2, w94_5, w94_8, w94_9, w94_10, w94_12, w94_15, w94_18, w94_20, w94_21, w94_22, w94_25, w94_26, w94_29, w94_30, w94_33, w94_36, w94_37, w94_38, ht, hs, hl, ↓neg_vM, ↓neg_vB, ↓neg_vS, ↓neg_vF, ↓neg_vO, ↓neg_vA, ↓neg_vN, lit_nI, nI_leI, nI_ltI, nI_eq, jm_in_nI, nI_clamp, nI_add, n_mul, pk_sub, n_le_t, n_le_f, n_lt_t, n_lt_f, n_eq_t, n_eq_f, true_and, and_true, ne_eq, not_false_eq_true, not_true_eq_false, min_n, max_n, dif_n, n_rem, n_div, or_nI, shl_nI, Option.toList_some, Option.toList_none, List.singleton_append, List.nil_append, if_true, if_false, or_true, true_or, or_false, false_or, and_false, false_and, Bool.false_eq_true, g, Zx_some]
      have hM5 : RM 132 (jm_upd T 128 0 (nI 0)) k := RM_of hM (by rw [upd_ne (by decide), tf _ (by decide)])
      simp (disch := omega) only [cl183, w183_0, w183_1, w183_2, w183_5, w183_6, w183_7, w183_10, w183_13, w183_14, w183_15, w183_16, w183_19, w183_22, w183_25, w183_27, w183_28, w183_29, w183_32, w183_33, w183_34, w183_37, w183_38, w183_41, w183_42, w183_45, w183_46, w183_47, w183_50, hm, ↓neg_vM, ↓neg_vB, ↓neg_vS, ↓neg_vF, ↓neg_vO, ↓neg_vA, ↓neg_vN, lit_nI, nI_leI, nI_ltI, nI_eq, jm_in_nI, nI_clamp, nI_add, n_mul, pk_sub, n_le_t, n_le_f, n_lt_t, n_lt_f, n_eq_t, n_eq_f, true_and, and_true, ne_eq, not_false_eq_true, not_true_eq_false, min_n, max_n, dif_n, n_rem, n_div, or_nI, shl_nI, Option.toList_some, Option.toList_none, List.singleton_append, List.nil_append, if_true, if_false, or_true, true_or, or_false, false_or, and_false, false_and, Bool.false_eq_true, r_isRule hM5 v0, h, lit_lN, nI_l, r_in, lN_le, r_layThen hM5]
      refine r_hoursOf isR134 RM_fill hV (by omega) (fun U uM uf => ?_)
      simp (disch := omega) only [cl183, w183_0, w183_1, w183_2, w183_5, w183_6, w183_7, w183_10, w183_13, w183_14, w183_15, w183_16, w183_19, w183_22, w183_25, w183_27, w183_28, w183_29, w183_32, w183_33, w183_34, w183_37, w183_38, w183_41, w183_42, w183_45, w183_46, w183_47, w183_50, hm, ↓neg_vM, ↓neg_vB, ↓neg_vS, ↓neg_vF, ↓neg_vO, ↓neg_vA, ↓neg_vN, lit_nI, nI_leI, nI_ltI, nI_eq, jm_in_nI, nI_clamp, nI_add, n_mul, pk_sub, n_le_t, n_le_f, n_lt_t, n_lt_f, n_eq_t, n_eq_f, true_and, and_true, ne_eq, not_false_eq_true, not_true_eq_false, min_n, max_n, dif_n, n_rem, n_div, or_nI, shl_nI, Option.toList_some, Option.toList_none, List.singleton_append, List.nil_append, if_true, if_false, or_true, true_or, or_false, false_or, and_false, false_and, Bool.false_eq_true, r_of1 isR134 uM, Zm_some]
      refine ⟨k, InvK_same hI (Same_q (fun o ho h1 => ?_) (fun i hi => ?_))⟩
      · unfold scr at ho
        rw [uf o (by omega) (by omega) (by omega), fillS_ne (by omega), upd_ne h1, tf o (by omega)]
      · rw [uf 128 (by omega) (by omega) (by omega), fillS_ne (by omega), upd_at, if_neg (fun q => hi q.2), tf 128 (by omega)]
    · simp (disch := omega) only [w94_0, w94_1, w94_2, w94_5, w94_8, w94_9, w94_10, w94_12, w94_15, w94_18, w94_20, cl94, ht, ↓neg_vM, ↓neg_vB, ↓neg_vS, ↓neg_vF, ↓neg_vO, ↓neg_vA, ↓neg_vN, lit_nI, nI_leI, nI_ltI, nI_eq, jm_in_nI, nI_clamp, nI_add, n_mul, pk_sub, n_le_t, n_le_f, n_lt_t, n_lt_f, n_eq_t, n_eq_f, true_and, and_true, ne_eq, not_false_eq_true, not_true_eq_false, min_n, max_n, dif_n, n_rem, n_div, or_nI, shl_nI, Option.toList_some, Option.toList_none, List.singleton_append, List.nil_append, if_true, if_false, or_true, true_or, or_false, false_or, and_false, false_and, Bool.false_eq_true, Zx_some, c_noRule hX hV, h, c_withinP, h2]
      simp (disch := omega) only [w183_0, w183_1, w183_2, w183_5, w183_6, w183_7, w183_10, w183_13, w183_14, w183_15, w183_16, w183_19, w183_22, w183_25, w183_27, cl183, hm, ↓neg_vM, ↓neg_vB, ↓neg_vS, ↓neg_vF, ↓neg_vO, ↓neg_vA, ↓neg_vN, lit_nI, nI_leI, nI_ltI, nI_eq, jm_in_nI, nI_clamp, nI_add, n_mul, pk_sub, n_le_t, n_le_f, n_lt_t, n_lt_f, n_eq_t, n_eq_f, true_and, and_true, ne_eq, not_false_eq_true, not_true_eq_false, min_n, max_n, dif_n, n_rem, n_div, or_nI, shl_nI, Option.toList_some, Option.toList_none, List.singleton_append, List.nil_append, if_true, if_false, or_true, true_or, or_false, false_or, and_false, false_and, Bool.false_eq_true, Zm_some, r_isRule hM4 v0, h, lit_lN, r_in, lx_le, xl_le, h2]
      exact ⟨k, InvK_same hI Same_thrown⟩
  · simp (disch := omega) only [w94_0, w94_1, w94_2, w94_5, w94_8, w94_9, w94_10, w94_12, w94_15, w94_18, w94_20, cl94, ht, ↓neg_vM, ↓neg_vB, ↓neg_vS, ↓neg_vF, ↓neg_vO, ↓neg_vA, ↓neg_vN, lit_nI, nI_leI, nI_ltI, nI_eq, jm_in_nI, nI_clamp, nI_add, n_mul, pk_sub, n_le_t, n_le_f, n_lt_t, n_lt_f, n_eq_t, n_eq_f, true_and, and_true, ne_eq, not_false_eq_true, not_true_eq_false, min_n, max_n, dif_n, n_rem, n_div, or_nI, shl_nI, Option.toList_some, Option.toList_none, List.singleton_append, List.nil_append, if_true, if_false, or_true, true_or, or_false, false_or, and_false, false_and, Bool.false_eq_true, Zx_some, c_noRule hX hV, h]
    simp (disch := omega) only [w183_0, w183_1, w183_2, w183_5, w183_6, w183_7, w183_10, w183_13, w183_14, w183_15, w183_16, w183_19, w183_22, w183_25, w183_27, cl183, hm, ↓neg_vM, ↓neg_vB, ↓neg_vS, ↓neg_vF, ↓neg_vO, ↓neg_vA, ↓neg_vN, lit_nI, nI_leI, nI_ltI, nI_eq, jm_in_nI, nI_clamp, nI_add, n_mul, pk_sub, n_le_t, n_le_f, n_lt_t, n_lt_f, n_eq_t, n_eq_f, true_and, and_true, ne_eq, not_false_eq_true, not_true_eq_false, min_n, max_n, dif_n, n_rem, n_div, or_nI, shl_nI, Option.toList_some, Option.toList_none, List.singleton_append, List.nil_append, if_true, if_false, or_true, true_or, or_false, false_or, and_false, false_and, Bool.false_eq_true, Zm_some, r_isRule hM4 v0, h]
    exact ⟨k, InvK_same hI Same_thrown⟩
theorem p_strong {v w : Int32} (hI : InvK xs S k) : CL L (d + 9) 95 [.ref 0, .int v, .int w] S (Zx xs L (d + 9) 184 [.ref 128, .int v, .int w]) := by
  have ht := top_sh L
  have hm := mod_sh L
  obtain ⟨hX, hM, hV, h999, h01⟩ := hI.2.2.2.1
  have hs := camp_sh isC83
  have hl := camp_ll L isC83
  have hM4 : RM 132 (jm_upd S 128 0 (nI 0)) k := RM_of hM (upd_ne (by decide))
  have v1 := hV.2.1
  by_cases h : isN v (k 1) = true
  · by_cases h2 : nI 0 ≤ w ∧ w ≤ nI 60
    · obtain ⟨r, hr, rfl⟩ := isN_of (by omega) h
      obtain ⟨n, -, hn, rfl⟩ := btw (by decide) h2 (by decide)
      clear h2
      simp (disch := omega) only [cl95, w95_0, w95_1, w95_2, w95_5, w95_8, w95_9, w95_10, w95_12, w95_15, w95_18, w95_20, w95_21, w95_22, w95_25, w95_26, w95_29, w95_30, w95_33, w95_36, w95_37, w95_38, ht, ↓neg_vM, ↓neg_vB, ↓neg_vS, ↓neg_vF, ↓neg_vO, ↓neg_vA, ↓neg_vN, lit_nI, nI_leI, nI_ltI, nI_eq, jm_in_nI, nI_clamp, nI_add, n_mul, pk_sub, n_le_t, n_le_f, n_lt_t, n_lt_f, n_eq_t, n_eq_f, true_and, and_true, ne_eq, not_false_eq_true, not_true_eq_false, min_n, max_n, dif_n, n_rem, n_div, or_nI, shl_nI, Option.toList_some, Option.toList_none, List.singleton_append, List.nil_append, if_true, if_false, or_true, true_or, or_false, false_or, and_false, false_and, Bool.false_eq_true, c_noHand hX hV, h, c_withinP]
      refine c_behind hX hV (by omega) (by omega) (fun T tX tf => ?_)
      have g := (tX.2.2.2.2.1 r (by rw [(hoursA_low k n).2.1]; exact hr)).1
      simp (disch := omega) only [cl95, w95_0, w95_1, w95_2, w95_5, w95_8, w95_9, w95_10, w95_12, w95_15, w95_18, w95_20, w95_21, w95_22, w95_25, w95_26, w95_29, w95_30, w95_33, w95_36, w95_37, w95_38, ht, hs, hl, ↓neg_vM, ↓neg_vB, ↓neg_vS, ↓neg_vF, ↓neg_vO, ↓neg_vA, ↓neg_vN, lit_nI, nI_leI, nI_ltI, nI_eq, jm_in_nI, nI_clamp, nI_add, n_mul, pk_sub, n_le_t, n_le_f, n_lt_t, n_lt_f, n_eq_t, n_eq_f, true_and, and_true, ne_eq, not_false_eq_true, not_true_eq_false, min_n, max_n, dif_n, n_rem, n_div, or_nI, shl_nI, Option.toList_some, Option.toList_none, List.singleton_append, List.nil_append, if_true, if_false, or_true, true_or, or_false, false_or, and_false, false_and, Bool.false_eq_true, g, Zx_some]
      have hM5 : RM 132 (jm_upd T 128 0 (nI 0)) k := RM_of hM (by rw [upd_ne (by decide), tf _ (by decide)])
      simp (disch := omega) only [cl184, w184_0, w184_1, w184_2, w184_5, w184_6, w184_7, w184_10, w184_13, w184_14, w184_15, w184_16, w184_19, w184_22, w184_25, w184_27, w184_28, w184_29, w184_32, w184_33, w184_34, w184_37, w184_38, w184_41, w184_42, w184_45, w184_46, w184_49, hm, ↓neg_vM, ↓neg_vB, ↓neg_vS, ↓neg_vF, ↓neg_vO, ↓neg_vA, ↓neg_vN, lit_nI, nI_leI, nI_ltI, nI_eq, jm_in_nI, nI_clamp, nI_add, n_mul, pk_sub, n_le_t, n_le_f, n_lt_t, n_lt_f, n_eq_t, n_eq_f, true_and, and_true, ne_eq, not_false_eq_true, not_true_eq_false, min_n, max_n, dif_n, n_rem, n_div, or_nI, shl_nI, Option.toList_some, Option.toList_none, List.singleton_append, List.nil_append, if_true, if_false, or_true, true_or, or_false, false_or, and_false, false_and, Bool.false_eq_true, r_isHand hM5 v1, h, lit_lN, nI_l, r_in, lN_le, r_layThen hM5]
      refine r_hoursOf isR134 RM_fill hV (by omega) (fun U uM uf => ?_)
      simp (disch := omega) only [cl184, w184_0, w184_1, w184_2, w184_5, w184_6, w184_7, w184_10, w184_13, w184_14, w184_15, w184_16, w184_19, w184_22, w184_25, w184_27, w184_28, w184_29, w184_32, w184_33, w184_34, w184_37, w184_38, w184_41, w184_42, w184_45, w184_46, w184_49, hm, ↓neg_vM, ↓neg_vB, ↓neg_vS, ↓neg_vF, ↓neg_vO, ↓neg_vA, ↓neg_vN, lit_nI, nI_leI, nI_ltI, nI_eq, jm_in_nI, nI_clamp, nI_add, n_mul, pk_sub, n_le_t, n_le_f, n_lt_t, n_lt_f, n_eq_t, n_eq_f, true_and, and_true, ne_eq, not_false_eq_true, not_true_eq_false, min_n, max_n, dif_n, n_rem, n_div, or_nI, shl_nI, Option.toList_some, Option.toList_none, List.singleton_append, List.nil_append, if_true, if_false, or_true, true_or, or_false, false_or, and_false, false_and, Bool.false_eq_true, r_strength isR134 uM, Zm_some]
      refine ⟨k, InvK_same hI (Same_q (fun o ho h1 => ?_) (fun i hi => ?_))⟩
      · unfold scr at ho
        rw [uf o (by omega) (by omega) (by omega), fillS_ne (by omega), upd_ne h1, tf o (by omega)]
      · rw [uf 128 (by omega) (by omega) (by omega), fillS_ne (by omega), upd_at, if_neg (fun q => hi q.2), tf 128 (by omega)]
    · simp (disch := omega) only [w95_0, w95_1, w95_2, w95_5, w95_8, w95_9, w95_10, w95_12, w95_15, w95_18, w95_20, cl95, ht, ↓neg_vM, ↓neg_vB, ↓neg_vS, ↓neg_vF, ↓neg_vO, ↓neg_vA, ↓neg_vN, lit_nI, nI_leI, nI_ltI, nI_eq, jm_in_nI, nI_clamp, nI_add, n_mul, pk_sub, n_le_t, n_le_f, n_lt_t, n_lt_f, n_eq_t, n_eq_f, true_and, and_true, ne_eq, not_false_eq_true, not_true_eq_false, min_n, max_n, dif_n, n_rem, n_div, or_nI, shl_nI, Option.toList_some, Option.toList_none, List.singleton_append, List.nil_append, if_true, if_false, or_true, true_or, or_false, false_or, and_false, false_and, Bool.false_eq_true, Zx_some, c_noHand hX hV, h, c_withinP, h2]
      simp (disch := omega) only [w184_0, w184_1, w184_2, w184_5, w184_6, w184_7, w184_10, w184_13, w184_14, w184_15, w184_16, w184_19, w184_22, w184_25, w184_27, cl184, hm, ↓neg_vM, ↓neg_vB, ↓neg_vS, ↓neg_vF, ↓neg_vO, ↓neg_vA, ↓neg_vN, lit_nI, nI_leI, nI_ltI, nI_eq, jm_in_nI, nI_clamp, nI_add, n_mul, pk_sub, n_le_t, n_le_f, n_lt_t, n_lt_f, n_eq_t, n_eq_f, true_and, and_true, ne_eq, not_false_eq_true, not_true_eq_false, min_n, max_n, dif_n, n_rem, n_div, or_nI, shl_nI, Option.toList_some, Option.toList_none, List.singleton_append, List.nil_append, if_true, if_false, or_true, true_or, or_false, false_or, and_false, false_and, Bool.false_eq_true, Zm_some, r_isHand hM4 v1, h, lit_lN, r_in, lx_le, xl_le, h2]
      exact ⟨k, InvK_same hI Same_thrown⟩
  · simp (disch := omega) only [w95_0, w95_1, w95_2, w95_5, w95_8, w95_9, w95_10, w95_12, w95_15, w95_18, w95_20, cl95, ht, ↓neg_vM, ↓neg_vB, ↓neg_vS, ↓neg_vF, ↓neg_vO, ↓neg_vA, ↓neg_vN, lit_nI, nI_leI, nI_ltI, nI_eq, jm_in_nI, nI_clamp, nI_add, n_mul, pk_sub, n_le_t, n_le_f, n_lt_t, n_lt_f, n_eq_t, n_eq_f, true_and, and_true, ne_eq, not_false_eq_true, not_true_eq_false, min_n, max_n, dif_n, n_rem, n_div, or_nI, shl_nI, Option.toList_some, Option.toList_none, List.singleton_append, List.nil_append, if_true, if_false, or_true, true_or, or_false, false_or, and_false, false_and, Bool.false_eq_true, Zx_some, c_noHand hX hV, h]
    simp (disch := omega) only [w184_0, w184_1, w184_2, w184_5, w184_6, w184_7, w184_10, w184_13, w184_14, w184_15, w184_16, w184_19, w184_22, w184_25, w184_27, cl184, hm, ↓neg_vM, ↓neg_vB, ↓neg_vS, ↓neg_vF, ↓neg_vO, ↓neg_vA, ↓neg_vN, lit_nI, nI_leI, nI_ltI, nI_eq, jm_in_nI, nI_clamp, nI_add, n_mul, pk_sub, n_le_t, n_le_f, n_lt_t, n_lt_f, n_eq_t, n_eq_f, true_and, and_true, ne_eq, not_false_eq_true, not_true_eq_false, min_n, max_n, dif_n, n_rem, n_div, or_nI, shl_nI, Option.toList_some, Option.toList_none, List.singleton_append, List.nil_append, if_true, if_false, or_true, true_or, or_false, false_or, and_false, false_and, Bool.false_eq_true, Zm_some, r_isHand hM4 v1, h]
    exact ⟨k, InvK_same hI Same_thrown⟩
theorem p_barred {v : Int32} (hI : InvK xs S k) : CL L (d + 9) 96 [.ref 0, .int v] S (Zx xs L (d + 9) 185 [.ref 128, .int v]) := by
  have ht := top_sh L
  have hm := mod_sh L
  obtain ⟨hX, hM, hV, h999, h01⟩ := hI.2.2.2.1
  have hs := camp_sh isC83
  have hM4 : RM 132 (jm_upd S 128 0 (nI 0)) k := RM_of hM (upd_ne (by decide))
  have v0 := hV.1
  by_cases h : k 0 = 0
  · simp (disch := omega) only [w96_0, w96_1, w96_4, w96_7, w96_9, cl96, ht, ↓neg_vM, ↓neg_vB, ↓neg_vS, ↓neg_vF, ↓neg_vO, ↓neg_vA, ↓neg_vN, lit_nI, nI_leI, nI_ltI, nI_eq, jm_in_nI, nI_clamp, nI_add, n_mul, pk_sub, n_le_t, n_le_f, n_lt_t, n_lt_f, n_eq_t, n_eq_f, true_and, and_true, ne_eq, not_false_eq_true, not_true_eq_false, min_n, max_n, dif_n, n_rem, n_div, or_nI, shl_nI, Option.toList_some, Option.toList_none, List.singleton_append, List.nil_append, if_true, if_false, or_true, true_or, or_false, false_or, and_false, false_and, Bool.false_eq_true, Zx_some, c_noCamp hX hV, h]
    simp (disch := omega) only [w185_0, w185_1, w185_2, w185_5, w185_6, w185_9, w185_12, w185_14, cl185, hm, ↓neg_vM, ↓neg_vB, ↓neg_vS, ↓neg_vF, ↓neg_vO, ↓neg_vA, ↓neg_vN, lit_nI, nI_leI, nI_ltI, nI_eq, jm_in_nI, nI_clamp, nI_add, n_mul, pk_sub, n_le_t, n_le_f, n_lt_t, n_lt_f, n_eq_t, n_eq_f, true_and, and_true, ne_eq, not_false_eq_true, not_true_eq_false, min_n, max_n, dif_n, n_rem, n_div, or_nI, shl_nI, Option.toList_some, Option.toList_none, List.singleton_append, List.nil_append, if_true, if_false, or_true, true_or, or_false, false_or, and_false, false_and, Bool.false_eq_true, Zm_some, r_isThere hM4 v0, h]
    exact ⟨k, InvK_same hI Same_thrown⟩
  · by_cases h2 : nI 0 ≤ v ∧ v ≤ nI 60
    · obtain ⟨n, -, hn, rfl⟩ := btw (by decide) h2 (by decide)
      clear h2
      have hVn := KV_hours hV n (by omega)
      simp (disch := omega) only [cl96, w96_0, w96_1, w96_4, w96_7, w96_9, w96_10, w96_11, w96_12, w96_14, w96_17, w96_20, w96_22, w96_23, w96_24, w96_27, w96_28, w96_31, w96_32, w96_35, w96_38, ht, ↓neg_vM, ↓neg_vB, ↓neg_vS, ↓neg_vF, ↓neg_vO, ↓neg_vA, ↓neg_vN, lit_nI, nI_leI, nI_ltI, nI_eq, jm_in_nI, nI_clamp, nI_add, n_mul, pk_sub, n_le_t, n_le_f, n_lt_t, n_lt_f, n_eq_t, n_eq_f, true_and, and_true, ne_eq, not_false_eq_true, not_true_eq_false, min_n, max_n, dif_n, n_rem, n_div, or_nI, shl_nI, Option.toList_some, Option.toList_none, List.singleton_append, List.nil_append, if_true, if_false, or_true, true_or, or_false, false_or, and_false, false_and, Bool.false_eq_true, c_noCamp hX hV, h, c_withinP]
      refine c_behind hX hV (h01 (by omega)) (by omega) (fun T tX tf => ?_)
      simp (disch := omega) only [cl96, w96_0, w96_1, w96_4, w96_7, w96_9, w96_10, w96_11, w96_12, w96_14, w96_17, w96_20, w96_22, w96_23, w96_24, w96_27, w96_28, w96_31, w96_32, w96_35, w96_38, ht, hs, ↓neg_vM, ↓neg_vB, ↓neg_vS, ↓neg_vF, ↓neg_vO, ↓neg_vA, ↓neg_vN, lit_nI, nI_leI, nI_ltI, nI_eq, jm_in_nI, nI_clamp, nI_add, n_mul, pk_sub, n_le_t, n_le_f, n_lt_t, n_lt_f, n_eq_t, n_eq_f, true_and, and_true, ne_eq, not_false_eq_true, not_true_eq_false, min_n, max_n, dif_n, n_rem, n_div, or_nI, shl_nI, Option.toList_some, Option.toList_none, List.singleton_append, List.nil_append, if_true, if_false, or_true, true_or, or_false, false_or, and_false, false_and, Bool.false_eq_true, c_barring isC83 tX hVn, Zx_some]
      have hM5 : RM 132 (jm_upd T 128 0 (nI 0)) k := RM_of hM (by rw [upd_ne (by decide), tf _ (by decide)])
      simp (disch := omega) only [cl185, w185_0, w185_1, w185_2, w185_5, w185_6, w185_9, w185_12, w185_14, w185_15, w185_16, w185_17, w185_18, w185_21, w185_24, w185_27, w185_29, w185_30, w185_31, w185_34, w185_35, w185_36, w185_39, w185_40, w185_43, w185_44, w185_47, w185_50, hm, ↓neg_vM, ↓neg_vB, ↓neg_vS, ↓neg_vF, ↓neg_vO, ↓neg_vA, ↓neg_vN, lit_nI, nI_leI, nI_ltI, nI_eq, jm_in_nI, nI_clamp, nI_add, n_mul, pk_sub, n_le_t, n_le_f, n_lt_t, n_lt_f, n_eq_t, n_eq_f, true_and, and_true, ne_eq, not_false_eq_true, not_true_eq_false, min_n, max_n, dif_n, n_rem, n_div, or_nI, shl_nI, Option.toList_some, Option.toList_none, List.singleton_append, List.nil_append, if_true, if_false, or_true, true_or, or_false, false_or, and_false, false_and, Bool.false_eq_true, r_isThere hM5 v0, h, lit_lN, nI_l, r_in, lN_le, r_layThen hM5]
      refine r_hoursOf isR134 RM_fill hV (by omega) (fun U uM uf => ?_)
      simp (disch := omega) only [cl185, w185_0, w185_1, w185_2, w185_5, w185_6, w185_9, w185_12, w185_14, w185_15, w185_16, w185_17, w185_18, w185_21, w185_24, w185_27, w185_29, w185_30, w185_31, w185_34, w185_35, w185_36, w185_39, w185_40, w185_43, w185_44, w185_47, w185_50, hm, ↓neg_vM, ↓neg_vB, ↓neg_vS, ↓neg_vF, ↓neg_vO, ↓neg_vA, ↓neg_vN, lit_nI, nI_leI, nI_ltI, nI_eq, jm_in_nI, nI_clamp, nI_add, n_mul, pk_sub, n_le_t, n_le_f, n_lt_t, n_lt_f, n_eq_t, n_eq_f, true_and, and_true, ne_eq, not_false_eq_true, not_true_eq_false, min_n, max_n, dif_n, n_rem, n_div, or_nI, shl_nI, Option.toList_some, Option.toList_none, List.singleton_append, List.nil_append, if_true, if_false, or_true, true_or, or_false, false_or, and_false, false_and, Bool.false_eq_true, r_barredBy isR134 uM hVn, Zm_some]
      refine ⟨k, InvK_same hI (Same_q (fun o ho h1 => ?_) (fun i hi => ?_))⟩
      · unfold scr at ho
        rw [uf o (by omega) (by omega) (by omega), fillS_ne (by omega), upd_ne h1, tf o (by omega)]
      · rw [uf 128 (by omega) (by omega) (by omega), fillS_ne (by omega), upd_at, if_neg (fun q => hi q.2), tf 128 (by omega)]
    · simp (disch := omega) only [w96_0, w96_1, w96_4, w96_7, w96_9, w96_10, w96_11, w96_12, w96_14, w96_17, w96_20, w96_22, cl96, ht, ↓neg_vM, ↓neg_vB, ↓neg_vS, ↓neg_vF, ↓neg_vO, ↓neg_vA, ↓neg_vN, lit_nI, nI_leI, nI_ltI, nI_eq, jm_in_nI, nI_clamp, nI_add, n_mul, pk_sub, n_le_t, n_le_f, n_lt_t, n_lt_f, n_eq_t, n_eq_f, true_and, and_true, ne_eq, not_false_eq_true, not_true_eq_false, min_n, max_n, dif_n, n_rem, n_div, or_nI, shl_nI, Option.toList_some, Option.toList_none, List.singleton_append, List.nil_append, if_true, if_false, or_true, true_or, or_false, false_or, and_false, false_and, Bool.false_eq_true, Zx_some, c_noCamp hX hV, h, c_withinP, h2]
      simp (disch := omega) only [w185_0, w185_1, w185_2, w185_5, w185_6, w185_9, w185_12, w185_14, w185_15, w185_16, w185_17, w185_18, w185_21, w185_24, w185_27, w185_29, cl185, hm, ↓neg_vM, ↓neg_vB, ↓neg_vS, ↓neg_vF, ↓neg_vO, ↓neg_vA, ↓neg_vN, lit_nI, nI_leI, nI_ltI, nI_eq, jm_in_nI, nI_clamp, nI_add, n_mul, pk_sub, n_le_t, n_le_f, n_lt_t, n_lt_f, n_eq_t, n_eq_f, true_and, and_true, ne_eq, not_false_eq_true, not_true_eq_false, min_n, max_n, dif_n, n_rem, n_div, or_nI, shl_nI, Option.toList_some, Option.toList_none, List.singleton_append, List.nil_append, if_true, if_false, or_true, true_or, or_false, false_or, and_false, false_and, Bool.false_eq_true, Zm_some, r_isThere hM4 v0, h, lit_lN, r_in, lx_le, xl_le, h2]
      exact ⟨k, InvK_same hI Same_thrown⟩
theorem c_firstFall {s w : Nat} (hX : RX 25 S k) (hV : KV k) (hk1 : 0 < k 1) (h3 : k 3 ≤ 999) (hs64 : s < 64) (hw : w ≤ 1) (hZ : ∀ T, offC 83 S T → Z (some (.int (srch (ffP k s) (ffG k s w) 61 0))) T) : CL L (d + 4) 35 [.ref 82, .ref 25, .int (nI s), .int (nI w)] S Z := by
  have ht := top_sh L
  have hs := camp_sh isC83
  have v0 := hV.1
  have key : ∀ i, i ≤ 61 → ∀ T u, RX 83 T (hoursA k i) → offC 83 S T → srch (ffP k s) (ffG k s w) (61 - i) i = srch (ffP k s) (ffG k s w) 61 0 → WQ L (d + 4) 35 11 [.ref 82, .ref 25, .int (nI s), .int (nI w), .int (nI i), u] [] T Z := by
    apply down_ind
    · intro T u tX tf e
      rw [w35_11]
      simp (disch := omega) only [w35_13, w35_15, w35_18, w35_19, w35_20, w35_23, w35_26, w35_27, w35_28, w35_29, w35_31, w35_33, w35_36, w35_37, w35_40, w35_42, w35_45, w35_48, w35_50, w35_51, w35_52, w35_55, w35_58, w35_61, w35_64, w35_66, ht, ↓neg_vM, ↓neg_vB, ↓neg_vS, ↓neg_vF, ↓neg_vO, ↓neg_vA, ↓neg_vN, lit_nI, nI_leI, nI_ltI, nI_eq, jm_in_nI, nI_clamp, nI_add, n_mul, pk_sub, n_le_t, n_le_f, n_lt_t, n_lt_f, n_eq_t, n_eq_f, true_and, and_true, ne_eq, not_false_eq_true, not_true_eq_false, min_n, max_n, dif_n, n_rem, n_div, or_nI, shl_nI, Option.toList_some, Option.toList_none, List.singleton_append, List.nil_append, if_true, if_false, or_true, true_or, or_false, false_or, and_false, false_and, Bool.false_eq_true]
      have e2 := hZ T tf
      rw [← e] at e2
      exact e2
    · intro i hi ih T u tX tf e
      have hVi := KV_hours hV i (by omega)
      have hk0 : hoursA k i 0 = k 0 := (hoursA_low k i).1
      have hb := bset64 (kHd (hoursA k i)) v0
      have hle := and_le (a := s) (b := 63 ^^^ bset (kHd (hoursA k i)) (k 0))
      have eN := nand_n5 hs64 (show bset (kHd (hoursA k i)) (k 0) < 64 by omega)
      rw [w35_11]
      by_cases hp : s &&& (63 ^^^ bset (kHd (hoursA k i)) (k 0)) = 0
      · have hP : ffP k s i = false := by unfold ffP ffM; simp [hp]
        rw [srch_F hi hP] at e
        simp (disch := omega) only [w35_13, w35_15, w35_18, w35_19, w35_20, w35_23, w35_26, w35_27, w35_28, w35_29, w35_31, w35_33, w35_36, w35_37, w35_40, w35_42, w35_45, w35_48, w35_50, w35_51, w35_52, w35_55, w35_58, w35_61, w35_64, w35_66, ht, hs, ↓neg_vM, ↓neg_vB, ↓neg_vS, ↓neg_vF, ↓neg_vO, ↓neg_vA, ↓neg_vN, lit_nI, nI_leI, nI_ltI, nI_eq, jm_in_nI, nI_clamp, nI_add, n_mul, pk_sub, n_le_t, n_le_f, n_lt_t, n_lt_f, n_eq_t, n_eq_f, true_and, and_true, ne_eq, not_false_eq_true, not_true_eq_false, min_n, max_n, dif_n, n_rem, n_div, or_nI, shl_nI, Option.toList_some, Option.toList_none, List.singleton_append, List.nil_append, if_true, if_false, or_true, true_or, or_false, false_or, and_false, false_and, Bool.false_eq_true, c_holding isC83 tX hVi, hk0, eN, hp]
        refine c_passHour isC83 tX hVi (by rw [(hoursA_low k i).2.1]; exact hk1) (fun T2 tX2 tf2 => ?_)
        simp (disch := omega) only [w35_13, w35_15, w35_18, w35_19, w35_20, w35_23, w35_26, w35_27, w35_28, w35_29, w35_31, w35_33, w35_36, w35_37, w35_40, w35_42, w35_45, w35_48, w35_50, w35_51, w35_52, w35_55, w35_58, w35_61, w35_64, w35_66, ht, hs, ↓neg_vM, ↓neg_vB, ↓neg_vS, ↓neg_vF, ↓neg_vO, ↓neg_vA, ↓neg_vN, lit_nI, nI_leI, nI_ltI, nI_eq, jm_in_nI, nI_clamp, nI_add, n_mul, pk_sub, n_le_t, n_le_f, n_lt_t, n_lt_f, n_eq_t, n_eq_f, true_and, and_true, ne_eq, not_false_eq_true, not_true_eq_false, min_n, max_n, dif_n, n_rem, n_div, or_nI, shl_nI, Option.toList_some, Option.toList_none, List.singleton_append, List.nil_append, if_true, if_false, or_true, true_or, or_false, false_or, and_false, false_and, Bool.false_eq_true]
        exact ih T2 _ tX2 (fun o ho => by rw [tf2 o ho, tf o ho]) e
      · have hP : ffP k s i = true := by unfold ffP ffM; simp [hp]
        rw [srch_T hi hP] at e
        have e2 := hZ T tf
        rw [← e] at e2
        unfold ffG ffM at e2
        by_cases hw0 : w = 0
        · rw [if_pos hw0] at e2
          simp (disch := omega) only [w35_13, w35_15, w35_18, w35_19, w35_20, w35_23, w35_26, w35_27, w35_28, w35_29, w35_31, w35_33, w35_36, w35_37, w35_40, w35_42, w35_45, w35_48, w35_50, w35_51, w35_52, w35_55, w35_58, w35_61, w35_64, w35_66, ht, hs, ↓neg_vM, ↓neg_vB, ↓neg_vS, ↓neg_vF, ↓neg_vO, ↓neg_vA, ↓neg_vN, lit_nI, nI_leI, nI_ltI, nI_eq, jm_in_nI, nI_clamp, nI_add, n_mul, pk_sub, n_le_t, n_le_f, n_lt_t, n_lt_f, n_eq_t, n_eq_f, true_and, and_true, ne_eq, not_false_eq_true, not_true_eq_false, min_n, max_n, dif_n, n_rem, n_div, or_nI, shl_nI, Option.toList_some, Option.toList_none, List.singleton_append, List.nil_append, if_true, if_false, or_true, true_or, or_false, false_or, and_false, false_and, Bool.false_eq_true, c_holding isC83 tX hVi, hk0, eN, hp, hw0, c_ntz]
          exact e2
        · rw [if_neg hw0] at e2
          simp (disch := omega) only [w35_13, w35_15, w35_18, w35_19, w35_20, w35_23, w35_26, w35_27, w35_28, w35_29, w35_31, w35_33, w35_36, w35_37, w35_40, w35_42, w35_45, w35_48, w35_50, w35_51, w35_52, w35_55, w35_58, w35_61, w35_64, w35_66, ht, hs, ↓neg_vM, ↓neg_vB, ↓neg_vS, ↓neg_vF, ↓neg_vO, ↓neg_vA, ↓neg_vN, lit_nI, nI_leI, nI_ltI, nI_eq, jm_in_nI, nI_clamp, nI_add, n_mul, pk_sub, n_le_t, n_le_f, n_lt_t, n_lt_f, n_eq_t, n_eq_f, true_and, and_true, ne_eq, not_false_eq_true, not_true_eq_false, min_n, max_n, dif_n, n_rem, n_div, or_nI, shl_nI, Option.toList_some, Option.toList_none, List.singleton_append, List.nil_append, if_true, if_false, or_true, true_or, or_false, false_or, and_false, false_and, Bool.false_eq_true, c_holding isC83 tX hVi, hk0, eN, hp, hw0]
          exact e2
  simp (disch := omega) only [cl35, w35_0, w35_1, w35_4, w35_5, w35_8, ht, ↓neg_vM, ↓neg_vB, ↓neg_vS, ↓neg_vF, ↓neg_vO, ↓neg_vA, ↓neg_vN, lit_nI, nI_leI, nI_ltI, nI_eq, jm_in_nI, nI_clamp, nI_add, n_mul, pk_sub, n_le_t, n_le_f, n_lt_t, n_lt_f, n_eq_t, n_eq_f, true_and, and_true, ne_eq, not_false_eq_true, not_true_eq_false, min_n, max_n, dif_n, n_rem, n_div, or_nI, shl_nI, Option.toList_some, Option.toList_none, List.singleton_append, List.nil_append, if_true, if_false, or_true, true_or, or_false, false_or, and_false, false_and, Bool.false_eq_true]
  refine c_become isC83 isC25 (by decide) hX hV (fun T tX tf => ?_)
  simp (disch := omega) only [w35_8, w35_9, ht, ↓neg_vM, ↓neg_vB, ↓neg_vS, ↓neg_vF, ↓neg_vO, ↓neg_vA, ↓neg_vN, lit_nI, nI_leI, nI_ltI, nI_eq, jm_in_nI, nI_clamp, nI_add, n_mul, pk_sub, n_le_t, n_le_f, n_lt_t, n_lt_f, n_eq_t, n_eq_f, true_and, and_true, ne_eq, not_false_eq_true, not_true_eq_false, min_n, max_n, dif_n, n_rem, n_div, or_nI, shl_nI, Option.toList_some, Option.toList_none, List.singleton_append, List.nil_append, if_true, if_false, or_true, true_or, or_false, false_or, and_false, false_and, Bool.false_eq_true]
  exact key 0 (Nat.zero_le _) T _ tX tf rfl
theorem p_when {v : Int32} (hI : InvK xs S k) : CL L (d + 9) 97 [.ref 0, .int v] S (Zx xs L (d + 9) 186 [.ref 128, .int v]) := by
  have ht := top_sh L
  have hm := mod_sh L
  obtain ⟨hX, hM, hV, h999, h01⟩ := hI.2.2.2.1
  have hM4 : RM 132 (jm_upd S 128 0 (nI 0)) k := RM_of hM (upd_ne (by decide))
  have v0 := hV.1
  by_cases h : isN v (k 0) = true
  · obtain ⟨r, hr, rfl⟩ := isN_of (by omega) h
    have hp : 2 ^ r < 64 := Nat.lt_of_lt_of_le (Nat.pow_lt_pow_right (by decide) (show r < 5 by omega)) (by decide)
    simp (disch := omega) only [cl97, w97_0, w97_1, w97_2, w97_5, w97_8, w97_10, w97_11, w97_12, w97_15, w97_16, w97_19, w97_20, w97_21, w97_22, w97_23, w97_26, ht, ↓neg_vM, ↓neg_vB, ↓neg_vS, ↓neg_vF, ↓neg_vO, ↓neg_vA, ↓neg_vN, lit_nI, nI_leI, nI_ltI, nI_eq, jm_in_nI, nI_clamp, nI_add, n_mul, pk_sub, n_le_t, n_le_f, n_lt_t, n_lt_f, n_eq_t, n_eq_f, true_and, and_true, ne_eq, not_false_eq_true, not_true_eq_false, min_n, max_n, dif_n, n_rem, n_div, or_nI, shl_nI, Option.toList_some, Option.toList_none, List.singleton_append, List.nil_append, if_true, if_false, or_true, true_or, or_false, false_or, and_false, false_and, Bool.false_eq_true, c_noRule hX hV, h]
    refine c_firstFall hX hV (h01 (by omega)) h999 hp (by decide) (fun T tf => ?_)
    simp (disch := omega) only [cl97, w97_0, w97_1, w97_2, w97_5, w97_8, w97_10, w97_11, w97_12, w97_15, w97_16, w97_19, w97_20, w97_21, w97_22, w97_23, w97_26, ht, ↓neg_vM, ↓neg_vB, ↓neg_vS, ↓neg_vF, ↓neg_vO, ↓neg_vA, ↓neg_vN, lit_nI, nI_leI, nI_ltI, nI_eq, jm_in_nI, nI_clamp, nI_add, n_mul, pk_sub, n_le_t, n_le_f, n_lt_t, n_lt_f, n_eq_t, n_eq_f, true_and, and_true, ne_eq, not_false_eq_true, not_true_eq_false, min_n, max_n, dif_n, n_rem, n_div, or_nI, shl_nI, Option.toList_some, Option.toList_none, List.singleton_append, List.nil_append, if_true, if_false, or_true, true_or, or_false, false_or, and_false, false_and, Bool.false_eq_true, Zx_some]
    have hM5 : RM 132 (jm_upd T 128 0 (nI 0)) k := RM_of hM (by rw [upd_ne (by decide), tf _ (by decide)])
    simp (disch := omega) only [w186_0, w186_1, w186_2, w186_5, w186_6, w186_7, w186_10, w186_13, w186_15, w186_16, w186_17, w186_20, w186_21, cl186, hm, ↓neg_vM, ↓neg_vB, ↓neg_vS, ↓neg_vF, ↓neg_vO, ↓neg_vA, ↓neg_vN, lit_nI, nI_leI, nI_ltI, nI_eq, jm_in_nI, nI_clamp, nI_add, n_mul, pk_sub, n_le_t, n_le_f, n_lt_t, n_lt_f, n_eq_t, n_eq_f, true_and, and_true, ne_eq, not_false_eq_true, not_true_eq_false, min_n, max_n, dif_n, n_rem, n_div, or_nI, shl_nI, Option.toList_some, Option.toList_none, List.singleton_append, List.nil_append, if_true, if_false, or_true, true_or, or_false, false_or, and_false, false_and, Bool.false_eq_true, r_isRule hM5 v0, h, r_layThen hM5]
    have key : ∀ i, i ≤ 61 → ∀ U, RM 134 U (hoursA k i) → (∀ o, o ≠ 134 → o ≠ 137 → o ≠ 138 → U o = jm_upd T 128 0 (nI 0) o) → srch (ffP k (2 ^ r)) (ffG k (2 ^ r) 1) (61 - i) i = srch (ffP k (2 ^ r)) (ffG k (2 ^ r) 1) 61 0 → WQ L (d + 9) 186 22 [.ref 128, .int (nI r), .int (nI i)] [] U (Zm xs (srch (ffP k (2 ^ r)) (ffG k (2 ^ r) 1) 61 0)) := by
      have fin : ∀ U, (∀ o, o ≠ 134 → o ≠ 137 → o ≠ 138 → U o = jm_upd T 128 0 (nI 0) o) → Inv xs U := by
        intro U uf
        refine ⟨k, InvK_same hI (Same_q (fun o ho h1 => ?_) (fun i hi => ?_))⟩
        · unfold scr at ho
          rw [uf o (by omega) (by omega) (by omega), upd_ne h1, tf o (by omega)]
        · rw [uf 128 (by omega) (by omega) (by omega), upd_at, if_neg (fun q => hi q.2), tf 128 (by omega)]
      apply down_ind
      · intro U uM uf e
        rw [w186_22, ← e]
        simp (disch := omega) only [w186_23, w186_25, w186_28, w186_29, w186_32, w186_33, w186_34, w186_37, w186_40, w186_41, w186_42, w186_43, w186_44, w186_47, w186_50, w186_53, w186_56, w186_58, hm, ↓neg_vM, ↓neg_vB, ↓neg_vS, ↓neg_vF, ↓neg_vO, ↓neg_vA, ↓neg_vN, lit_nI, nI_leI, nI_ltI, nI_eq, jm_in_nI, nI_clamp, nI_add, n_mul, pk_sub, n_le_t, n_le_f, n_lt_t, n_lt_f, n_eq_t, n_eq_f, true_and, and_true, ne_eq, not_false_eq_true, not_true_eq_false, min_n, max_n, dif_n, n_rem, n_div, or_nI, shl_nI, Option.toList_some, Option.toList_none, List.singleton_append, List.nil_append, if_true, if_false, or_true, true_or, or_false, false_or, and_false, false_and, Bool.false_eq_true, Zm_some]
        exact ⟨rfl, fin U uf⟩
      · intro i hi ih U uM uf e
        have hVi := KV_hours hV i (by omega)
        have hk0 : hoursA k i 0 = k 0 := (hoursA_low k i).1
        have b3 := (hVi.2.2.2.2.2 r (by rw [hk0]; exact hr)).2.2.1
        have hbit : (2 ^ r &&& (63 ^^^ bset (kHd (hoursA k i)) (k 0))).testBit r = !kHd (hoursA k i) r := by
          rw [nand_bit (by omega), bset_bit, Nat.testBit_two_pow_self]
          simp [hr]
        rw [w186_22]
        by_cases hb : kBt (hoursA k i) r = 0
        · have hP : ffP k (2 ^ r) i = true := by
            unfold ffP ffM
            rw [decide_eq_true_eq]
            intro q
            rw [q, Nat.zero_testBit] at hbit
            simp [kHd, hb] at hbit
          rw [srch_T hi hP] at e
          rw [← e]
          simp (disch := omega) only [w186_23, w186_25, w186_28, w186_29, w186_32, w186_33, w186_34, w186_37, w186_40, w186_41, w186_42, w186_43, w186_44, w186_47, w186_50, w186_53, w186_56, w186_58, hm, ↓neg_vM, ↓neg_vB, ↓neg_vS, ↓neg_vF, ↓neg_vO, ↓neg_vA, ↓neg_vN, lit_nI, nI_leI, nI_ltI, nI_eq, jm_in_nI, nI_clamp, nI_add, n_mul, pk_sub, n_le_t, n_le_f, n_lt_t, n_lt_f, n_eq_t, n_eq_f, true_and, and_true, ne_eq, not_false_eq_true, not_true_eq_false, min_n, max_n, dif_n, n_rem, n_div, or_nI, shl_nI, Option.toList_some, Option.toList_none, List.singleton_append, List.nil_append, if_true, if_false, or_true, true_or, or_false, false_or, and_false, false_and, Bool.false_eq_true, r_of1 isR134 uM, hb, Zm_some]
          exact ⟨rfl, fin U uf⟩
        · have hP : ffP k (2 ^ r) i = false := by
            unfold ffP ffM
            rw [decide_eq_false_iff_not, Classical.not_not]
            refine nat_zero_of (n := 6) (Nat.lt_of_le_of_lt and_le hp) (fun x hx => ?_)
            by_cases hxr : x = r
            · rw [hxr, hbit]; simp [kHd]; omega
            · rw [nand_bit hx, Nat.testBit_two_pow]
              simp [show ¬ r = x from fun q => hxr q.symm]
          rw [srch_F hi hP] at e
          simp (disch := omega) only [w186_23, w186_25, w186_28, w186_29, w186_32, w186_33, w186_34, w186_37, w186_40, w186_41, w186_42, w186_43, w186_44, w186_47, w186_50, w186_53, w186_56, w186_58, hm, ↓neg_vM, ↓neg_vB, ↓neg_vS, ↓neg_vF, ↓neg_vO, ↓neg_vA, ↓neg_vN, lit_nI, nI_leI, nI_ltI, nI_eq, jm_in_nI, nI_clamp, nI_add, n_mul, pk_sub, n_le_t, n_le_f, n_lt_t, n_lt_f, n_eq_t, n_eq_f, true_and, and_true, ne_eq, not_false_eq_true, not_true_eq_false, min_n, max_n, dif_n, n_rem, n_div, or_nI, shl_nI, Option.toList_some, Option.toList_none, List.singleton_append, List.nil_append, if_true, if_false, or_true, true_or, or_false, false_or, and_false, false_and, Bool.false_eq_true, r_of1 isR134 uM, hb]
          refine r_hour isR134 uM hVi (fun U2 uM2 uf2 => ?_)
          simp (disch := omega) only [w186_23, w186_25, w186_28, w186_29, w186_32, w186_33, w186_34, w186_37, w186_40, w186_41, w186_42, w186_43, w186_44, w186_47, w186_50, w186_53, w186_56, w186_58, hm, ↓neg_vM, ↓neg_vB, ↓neg_vS, ↓neg_vF, ↓neg_vO, ↓neg_vA, ↓neg_vN, lit_nI, nI_leI, nI_ltI, nI_eq, jm_in_nI, nI_clamp, nI_add, n_mul, pk_sub, n_le_t, n_le_f, n_lt_t, n_lt_f, n_eq_t, n_eq_f, true_and, and_true, ne_eq, not_false_eq_true, not_true_eq_false, min_n, max_n, dif_n, n_rem, n_div, or_nI, shl_nI, Option.toList_some, Option.toList_none, List.singleton_append, List.nil_append, if_true, if_false, or_true, true_or, or_false, false_or, and_false, false_and, Bool.false_eq_true]
          exact ih U2 uM2 (fun o h1 h2 h3 => by rw [uf2 o h1 h2 h3, uf o h1 h2 h3]) e
    exact key 0 (Nat.zero_le _) _ RM_fill (fun o h1 _ _ => fillS_ne h1) rfl
  · simp (disch := omega) only [cl97, w97_0, w97_1, w97_2, w97_5, w97_8, w97_10, w97_11, w97_12, w97_15, w97_16, w97_19, w97_20, w97_21, w97_22, w97_23, w97_26, ht, ↓neg_vM, ↓neg_vB, ↓neg_vS, ↓neg_vF, ↓neg_vO, ↓neg_vA, ↓neg_vN, lit_nI, nI_leI, nI_ltI, nI_eq, jm_in_nI, nI_clamp, nI_add, n_mul, pk_sub, n_le_t, n_le_f, n_lt_t, n_lt_f, n_eq_t, n_eq_f, true_and, and_true, ne_eq, not_false_eq_true, not_true_eq_false, min_n, max_n, dif_n, n_rem, n_div, or_nI, shl_nI, Option.toList_some, Option.toList_none, List.singleton_append, List.nil_append, if_true, if_false, or_true, true_or, or_false, false_or, and_false, false_and, Bool.false_eq_true, Zx_some, c_noRule hX hV, h]
    simp (disch := omega) only [w186_0, w186_1, w186_2, w186_5, w186_6, w186_7, w186_10, w186_13, w186_15, cl186, hm, ↓neg_vM, ↓neg_vB, ↓neg_vS, ↓neg_vF, ↓neg_vO, ↓neg_vA, ↓neg_vN, lit_nI, nI_leI, nI_ltI, nI_eq, jm_in_nI, nI_clamp, nI_add, n_mul, pk_sub, n_le_t, n_le_f, n_lt_t, n_lt_f, n_eq_t, n_eq_f, true_and, and_true, ne_eq, not_false_eq_true, not_true_eq_false, min_n, max_n, dif_n, n_rem, n_div, or_nI, shl_nI, Option.toList_some, Option.toList_none, List.singleton_append, List.nil_append, if_true, if_false, or_true, true_or, or_false, false_or, and_false, false_and, Bool.false_eq_true, Zm_some, r_isRule hM4 v0, h]
    exact ⟨k, InvK_same hI Same_thrown⟩
theorem p_first {v : Int32} (hI : InvK xs S k) : CL L (d + 9) 98 [.ref 0, .int v] S (Zx xs L (d + 9) 187 [.ref 128, .int v]) := by
  have ht := top_sh L
  have hm := mod_sh L
  obtain ⟨hX, hM, hV, h999, h01⟩ := hI.2.2.2.1
  have hM4 : RM 132 (jm_upd S 128 0 (nI 0)) k := RM_of hM (upd_ne (by decide))
  have v0 := hV.1
  by_cases h : k 0 = 0
  · simp (disch := omega) only [w98_0, w98_1, w98_4, w98_7, w98_9, cl98, ht, ↓neg_vM, ↓neg_vB, ↓neg_vS, ↓neg_vF, ↓neg_vO, ↓neg_vA, ↓neg_vN, lit_nI, nI_leI, nI_ltI, nI_eq, jm_in_nI, nI_clamp, nI_add, n_mul, pk_sub, n_le_t, n_le_f, n_lt_t, n_lt_f, n_eq_t, n_eq_f, true_and, and_true, ne_eq, not_false_eq_true, not_true_eq_false, min_n, max_n, dif_n, n_rem, n_div, or_nI, shl_nI, Option.toList_some, Option.toList_none, List.singleton_append, List.nil_append, if_true, if_false, or_true, true_or, or_false, false_or, and_false, false_and, Bool.false_eq_true, Zx_some, c_noCamp hX hV, h]
    simp (disch := omega) only [w187_0, w187_1, w187_2, w187_5, w187_6, w187_9, w187_12, w187_14, cl187, hm, ↓neg_vM, ↓neg_vB, ↓neg_vS, ↓neg_vF, ↓neg_vO, ↓neg_vA, ↓neg_vN, lit_nI, nI_leI, nI_ltI, nI_eq, jm_in_nI, nI_clamp, nI_add, n_mul, pk_sub, n_le_t, n_le_f, n_lt_t, n_lt_f, n_eq_t, n_eq_f, true_and, and_true, ne_eq, not_false_eq_true, not_true_eq_false, min_n, max_n, dif_n, n_rem, n_div, or_nI, shl_nI, Option.toList_some, Option.toList_none, List.singleton_append, List.nil_append, if_true, if_false, or_true, true_or, or_false, false_or, and_false, false_and, Bool.false_eq_true, Zm_some, r_isThere hM4 v0, h]
    exact ⟨k, InvK_same hI Same_thrown⟩
  · by_cases h2 : nI 0 ≤ v ∧ v ≤ nI 1
    · obtain ⟨w, -, hw, rfl⟩ := btw (by decide) h2 (by decide)
      clear h2
      obtain ⟨s, hs⟩ : ∃ s, s = bset (kHd k) (k 0) := ⟨_, rfl⟩
      have hsl : s < 2 ^ k 0 := by rw [hs]; exact bset_lt _ _
      have hs32 : s < 32 := by rw [hs]; exact bset64 _ v0
      simp (disch := omega) only [cl98, w98_0, w98_1, w98_4, w98_7, w98_9, w98_10, w98_11, w98_12, w98_13, w98_16, w98_19, w98_21, w98_22, w98_23, w98_26, w98_27, w98_30, w98_31, w98_34, w98_37, w98_38, w98_41, ht, ↓neg_vM, ↓neg_vB, ↓neg_vS, ↓neg_vF, ↓neg_vO, ↓neg_vA, ↓neg_vN, lit_nI, nI_leI, nI_ltI, nI_eq, jm_in_nI, nI_clamp, nI_add, n_mul, pk_sub, n_le_t, n_le_f, n_lt_t, n_lt_f, n_eq_t, n_eq_f, true_and, and_true, ne_eq, not_false_eq_true, not_true_eq_false, min_n, max_n, dif_n, n_rem, n_div, or_nI, shl_nI, Option.toList_some, Option.toList_none, List.singleton_append, List.nil_append, if_true, if_false, or_true, true_or, or_false, false_or, and_false, false_and, Bool.false_eq_true, c_noCamp hX hV, h, c_withinP, c_holding isC25 hX hV, ← hs]
      refine c_firstFall hX hV (h01 (by omega)) h999 (show s < 64 by omega) hw (fun T tf => ?_)
      simp (disch := omega) only [cl98, w98_0, w98_1, w98_4, w98_7, w98_9, w98_10, w98_11, w98_12, w98_13, w98_16, w98_19, w98_21, w98_22, w98_23, w98_26, w98_27, w98_30, w98_31, w98_34, w98_37, w98_38, w98_41, ht, ↓neg_vM, ↓neg_vB, ↓neg_vS, ↓neg_vF, ↓neg_vO, ↓neg_vA, ↓neg_vN, lit_nI, nI_leI, nI_ltI, nI_eq, jm_in_nI, nI_clamp, nI_add, n_mul, pk_sub, n_le_t, n_le_f, n_lt_t, n_lt_f, n_eq_t, n_eq_f, true_and, and_true, ne_eq, not_false_eq_true, not_true_eq_false, min_n, max_n, dif_n, n_rem, n_div, or_nI, shl_nI, Option.toList_some, Option.toList_none, List.singleton_append, List.nil_append, if_true, if_false, or_true, true_or, or_false, false_or, and_false, false_and, Bool.false_eq_true, Zx_some]
      have hM5 : RM 132 (jm_upd T 128 0 (nI 0)) k := RM_of hM (by rw [upd_ne (by decide), tf _ (by decide)])
      simp (disch := omega) only [w187_0, w187_1, w187_2, w187_5, w187_6, w187_9, w187_12, w187_14, w187_15, w187_16, w187_17, w187_18, w187_19, w187_22, w187_25, w187_27, w187_28, w187_29, w187_32, w187_35, w187_36, w187_37, w187_40, w187_41, cl187, hm, ↓neg_vM, ↓neg_vB, ↓neg_vS, ↓neg_vF, ↓neg_vO, ↓neg_vA, ↓neg_vN, lit_nI, nI_leI, nI_ltI, nI_eq, jm_in_nI, nI_clamp, nI_add, n_mul, pk_sub, n_le_t, n_le_f, n_lt_t, n_lt_f, n_eq_t, n_eq_f, true_and, and_true, ne_eq, not_false_eq_true, not_true_eq_false, min_n, max_n, dif_n, n_rem, n_div, or_nI, shl_nI, Option.toList_some, Option.toList_none, List.singleton_append, List.nil_append, if_true, if_false, or_true, true_or, or_false, false_or, and_false, false_and, Bool.false_eq_true, r_isThere hM5 v0, h, lit_lN, nI_l, r_in, lN_le, r_holding isR132 hM5 hV, ← hs, r_layThen hM5]
      have fin : ∀ U, (∀ o, o ≠ 134 → o ≠ 137 → o ≠ 138 → U o = jm_upd T 128 0 (nI 0) o) → Inv xs U := by
        intro U uf
        refine ⟨k, InvK_same hI (Same_q (fun o ho h1 => ?_) (fun i hi => ?_))⟩
        · unfold scr at ho
          rw [uf o (by omega) (by omega) (by omega), upd_ne h1, tf o (by omega)]
        · rw [uf 128 (by omega) (by omega) (by omega), upd_at, if_neg (fun q => hi q.2), tf 128 (by omega)]
      have e00 : ffM k s 0 = 0 := by
        unfold ffM
        refine nat_zero_of (n := 6) (Nat.lt_of_le_of_lt and_le (show s < 2 ^ 6 by omega)) (fun x hx => ?_)
        rw [nand_bit hx, hs, show hoursA k 0 = k from rfl]
        cases (bset (kHd k) (k 0)).testBit x <;> rfl
      have e01 : srch (ffP k s) (ffG k s w) (61 - 1) 1 = srch (ffP k s) (ffG k s w) 61 0 := (srch_F (n := 61) (i := 0) (by decide) (by unfold ffP; rw [e00]; rfl)).symm
      have key : ∀ i, i ≤ 61 → 1 ≤ i → ∀ U u, RM 134 U (hoursA k (i - 1)) → (∀ o, o ≠ 134 → o ≠ 137 → o ≠ 138 → U o = jm_upd T 128 0 (nI 0) o) → srch (ffP k s) (ffG k s w) (61 - i) i = srch (ffP k s) (ffG k s w) 61 0 → WQ L (d + 9) 187 42 [.ref 128, .int (nI w), .int (nI s), .int (nI i), u] [] U (Zm xs (srch (ffP k s) (ffG k s w) 61 0)) := by
        apply down_ind
        · intro _ U u uM uf e
          rw [w187_42, ← e]
          simp (disch := omega) only [w187_43, w187_45, w187_48, w187_49, w187_50, w187_53, w187_56, w187_57, w187_59, w187_61, w187_62, w187_65, w187_66, w187_67, w187_70, w187_71, w187_73, w187_76, w187_79, w187_80, w187_83, w187_85, w187_86, w187_89, w187_92, w187_93, w187_96, w187_98, w187_101, w187_102, w187_103, w187_106, w187_109, w187_112, w187_115, w187_117, hm, ↓neg_vM, ↓neg_vB, ↓neg_vS, ↓neg_vF, ↓neg_vO, ↓neg_vA, ↓neg_vN, lit_nI, nI_leI, nI_ltI, nI_eq, jm_in_nI, nI_clamp, nI_add, n_mul, pk_sub, n_le_t, n_le_f, n_lt_t, n_lt_f, n_eq_t, n_eq_f, true_and, and_true, ne_eq, not_false_eq_true, not_true_eq_false, min_n, max_n, dif_n, n_rem, n_div, or_nI, shl_nI, Option.toList_some, Option.toList_none, List.singleton_append, List.nil_append, if_true, if_false, or_true, true_or, or_false, false_or, and_false, false_and, Bool.false_eq_true, Zm_some]
          exact ⟨rfl, fin U uf⟩
        · intro i hi ih h1i U u uM uf e
          have hVi := KV_hours hV i (by omega)
          have hk0 : hoursA k i 0 = k 0 := (hoursA_low k i).1
          rw [w187_42]
          simp (disch := omega) only [w187_43, w187_45, w187_48, w187_49, w187_50, w187_53, w187_56, w187_57, hm, ↓neg_vM, ↓neg_vB, ↓neg_vS, ↓neg_vF, ↓neg_vO, ↓neg_vA, ↓neg_vN, lit_nI, nI_leI, nI_ltI, nI_eq, jm_in_nI, nI_clamp, nI_add, n_mul, pk_sub, n_le_t, n_le_f, n_lt_t, n_lt_f, n_eq_t, n_eq_f, true_and, and_true, ne_eq, not_false_eq_true, not_true_eq_false, min_n, max_n, dif_n, n_rem, n_div, or_nI, shl_nI, Option.toList_some, Option.toList_none, List.singleton_append, List.nil_append, if_true, if_false, or_true, true_or, or_false, false_or, and_false, false_and, Bool.false_eq_true]
          refine r_hour isR134 uM (KV_hours hV (i - 1) (by omega)) (fun U2 uM2 uf2 => ?_)
          have eH : hourA (hoursA k (i - 1)) = hoursA k i := by
            obtain ⟨q, hq⟩ : ∃ q, i = q + 1 := ⟨i - 1, by omega⟩
            rw [hq]
            rfl
          rw [eH] at uM2
          have uf3 : ∀ o, o ≠ 134 → o ≠ 137 → o ≠ 138 → U2 o = jm_upd T 128 0 (nI 0) o := fun o h1 h2 h3 => by rw [uf2 o h1 h2 h3, uf o h1 h2 h3]
          have e5 : U2 132 0 = nI (k 0) := by rw [uf3 132 (by decide) (by decide) (by decide)]; exact hM5 0 (by decide)
          simp (disch := omega) only [w187_56, w187_57, hm, ↓neg_vM, ↓neg_vB, ↓neg_vS, ↓neg_vF, ↓neg_vO, ↓neg_vA, ↓neg_vN, lit_nI, nI_leI, nI_ltI, nI_eq, jm_in_nI, nI_clamp, nI_add, n_mul, pk_sub, n_le_t, n_le_f, n_lt_t, n_lt_f, n_eq_t, n_eq_f, true_and, and_true, ne_eq, not_false_eq_true, not_true_eq_false, min_n, max_n, dif_n, n_rem, n_div, or_nI, shl_nI, Option.toList_some, Option.toList_none, List.singleton_append, List.nil_append, if_true, if_false, or_true, true_or, or_false, false_or, and_false, false_and, Bool.false_eq_true]
          have hbit : ∀ x, x < k 0 → (ffM k s i).testBit x = (s.testBit x && !kHd (hoursA k i) x) := fun x hx => by
            unfold ffM
            rw [nand_bit (by omega), bset_bit]
            simp [hx]
          have inner : ∀ r, r ≤ k 0 → (∀ x, x < r → (ffM k s i).testBit x = false) → WQ L (d + 9) 187 59 [.ref 128, .int (nI w), .int (nI s), .int (nI i), .int (nI r)] [] U2 (Zm xs (srch (ffP k s) (ffG k s w) 61 0)) := by
            apply down_ind
            · intro hx
              have hP : ffP k s i = false := by
                unfold ffP
                rw [decide_eq_false_iff_not, Classical.not_not]
                exact nat_zero_of (n := k 0) (Nat.lt_of_le_of_lt and_le hsl) hx
              rw [srch_F hi hP] at e
              rw [w187_59]
              simp (disch := omega) only [w187_61, w187_62, w187_65, w187_66, w187_67, w187_70, w187_71, w187_73, w187_76, w187_79, w187_80, w187_83, w187_85, w187_86, w187_89, w187_92, w187_93, w187_96, w187_98, w187_101, w187_102, w187_103, w187_106, w187_109, w187_112, hm, ↓neg_vM, ↓neg_vB, ↓neg_vS, ↓neg_vF, ↓neg_vO, ↓neg_vA, ↓neg_vN, lit_nI, nI_leI, nI_ltI, nI_eq, jm_in_nI, nI_clamp, nI_add, n_mul, pk_sub, n_le_t, n_le_f, n_lt_t, n_lt_f, n_eq_t, n_eq_f, true_and, and_true, ne_eq, not_false_eq_true, not_true_eq_false, min_n, max_n, dif_n, n_rem, n_div, or_nI, shl_nI, Option.toList_some, Option.toList_none, List.singleton_append, List.nil_append, if_true, if_false, or_true, true_or, or_false, false_or, and_false, false_and, Bool.false_eq_true, e5]
              exact ih (by omega) U2 _ uM2 uf3 e
            · intro r hr ih2 hx
              have b3 := (hVi.2.2.2.2.2 r (by rw [hk0]; exact hr)).2.2.1
              rw [w187_59]
              by_cases hb1 : s.testBit r = true
              · by_cases hb : kBt (hoursA k i) r = 0
                · have hB : (ffM k s i).testBit r = true := by rw [hbit r hr, hb1]; simp [kHd, hb]
                  have hl := lsb_eq hB (by omega) hx
                  have hP : ffP k s i = true := by
                    unfold ffP
                    rw [decide_eq_true_eq]
                    intro q
                    rw [q, Nat.zero_testBit] at hB
                    cases hB
                  rw [srch_T hi hP] at e
                  rw [show ffG k s w i = (if w = 0 then nI r else nI i) by unfold ffG; rw [hl]] at e
                  rw [← e]
                  by_cases hw0 : w = 0
                  · simp (disch := omega) only [w187_61, w187_62, w187_65, w187_66, w187_67, w187_70, w187_71, w187_73, w187_76, w187_79, w187_80, w187_83, w187_85, w187_86, w187_89, w187_92, w187_93, w187_96, w187_98, w187_101, w187_102, w187_103, w187_106, w187_109, w187_112, hm, ↓neg_vM, ↓neg_vB, ↓neg_vS, ↓neg_vF, ↓neg_vO, ↓neg_vA, ↓neg_vN, lit_nI, nI_leI, nI_ltI, nI_eq, jm_in_nI, nI_clamp, nI_add, n_mul, pk_sub, n_le_t, n_le_f, n_lt_t, n_lt_f, n_eq_t, n_eq_f, true_and, and_true, ne_eq, not_false_eq_true, not_true_eq_false, min_n, max_n, dif_n, n_rem, n_div, or_nI, shl_nI, Option.toList_some, Option.toList_none, List.singleton_append, List.nil_append, if_true, if_false, or_true, true_or, or_false, false_or, and_false, false_and, Bool.false_eq_true, e5, r_has, hb1, r_of1 isR134 uM2, hb, hw0, Zm_some]
                    exact fin U2 uf3
                  · simp (disch := omega) only [w187_61, w187_62, w187_65, w187_66, w187_67, w187_70, w187_71, w187_73, w187_76, w187_79, w187_80, w187_83, w187_85, w187_86, w187_89, w187_92, w187_93, w187_96, w187_98, w187_101, w187_102, w187_103, w187_106, w187_109, w187_112, hm, ↓neg_vM, ↓neg_vB, ↓neg_vS, ↓neg_vF, ↓neg_vO, ↓neg_vA, ↓neg_vN, lit_nI, nI_leI, nI_ltI, nI_eq, jm_in_nI, nI_clamp, nI_add, n_mul, pk_sub, n_le_t, n_le_f, n_lt_t, n_lt_f, n_eq_t, n_eq_f, true_and, and_true, ne_eq, not_false_eq_true, not_true_eq_false, min_n, max_n, dif_n, n_rem, n_div, or_nI, shl_nI, Option.toList_some, Option.toList_none, List.singleton_append, List.nil_append, if_true, if_false, or_true, true_or, or_false, false_or, and_false, false_and, Bool.false_eq_true, e5, r_has, hb1, r_of1 isR134 uM2, hb, hw0, Zm_some]
                    exact fin U2 uf3
                · have hB : (ffM k s i).testBit r = false := by rw [hbit r hr]; simp [kHd, show 0 < kBt (hoursA k i) r by omega]
                  simp (disch := omega) only [w187_61, w187_62, w187_65, w187_66, w187_67, w187_70, w187_71, w187_73, w187_76, w187_79, w187_80, w187_83, w187_85, w187_86, w187_89, w187_92, w187_93, w187_96, w187_98, w187_101, w187_102, w187_103, w187_106, hm, ↓neg_vM, ↓neg_vB, ↓neg_vS, ↓neg_vF, ↓neg_vO, ↓neg_vA, ↓neg_vN, lit_nI, nI_leI, nI_ltI, nI_eq, jm_in_nI, nI_clamp, nI_add, n_mul, pk_sub, n_le_t, n_le_f, n_lt_t, n_lt_f, n_eq_t, n_eq_f, true_and, and_true, ne_eq, not_false_eq_true, not_true_eq_false, min_n, max_n, dif_n, n_rem, n_div, or_nI, shl_nI, Option.toList_some, Option.toList_none, List.singleton_append, List.nil_append, if_true, if_false, or_true, true_or, or_false, false_or, and_false, false_and, Bool.false_eq_true, e5, r_has, hb1, r_of1 isR134 uM2, hb]
                  exact ih2 (fun x hx2 => by
                    by_cases hxr : x = r
                    · rw [hxr]; exact hB
                    · exact hx x (by omega))
              · have hB : (ffM k s i).testBit r = false := by rw [hbit r hr]; simp [hb1]
                simp (disch := omega) only [w187_61, w187_62, w187_65, w187_66, w187_67, w187_70, w187_71, w187_73, w187_76, w187_79, w187_80, w187_83, w187_85, w187_86, w187_89, w187_92, w187_93, w187_96, w187_98, w187_101, w187_102, w187_103, w187_106, hm, ↓neg_vM, ↓neg_vB, ↓neg_vS, ↓neg_vF, ↓neg_vO, ↓neg_vA, ↓neg_vN, lit_nI, nI_leI, nI_ltI, nI_eq, jm_in_nI, nI_clamp, nI_add, n_mul, pk_sub, n_le_t, n_le_f, n_lt_t, n_lt_f, n_eq_t, n_eq_f, true_and, and_true, ne_eq, not_false_eq_true, not_true_eq_false, min_n, max_n, dif_n, n_rem, n_div, or_nI, shl_nI, Option.toList_some, Option.toList_none, List.singleton_append, List.nil_append, if_true, if_false, or_true, true_or, or_false, false_or, and_false, false_and, Bool.false_eq_true, e5, r_has, hb1]
                exact ih2 (fun x hx2 => by
                  by_cases hxr : x = r
                  · rw [hxr]; exact hB
                  · exact hx x (by omega))
          exact inner 0 (Nat.zero_le _) (fun x hx => absurd hx (Nat.not_lt_zero _))
      exact key 1 (by decide) (by decide) _ _ RM_fill (fun o h1 _ _ => fillS_ne h1) e01
    · simp (disch := omega) only [w98_0, w98_1, w98_4, w98_7, w98_9, w98_10, w98_11, w98_12, w98_13, w98_16, w98_19, w98_21, cl98, ht, ↓neg_vM, ↓neg_vB, ↓neg_vS, ↓neg_vF, ↓neg_vO, ↓neg_vA, ↓neg_vN, lit_nI, nI_leI, nI_ltI, nI_eq, jm_in_nI, nI_clamp, nI_add, n_mul, pk_sub, n_le_t, n_le_f, n_lt_t, n_lt_f, n_eq_t, n_eq_f, true_and, and_true, ne_eq, not_false_eq_true, not_true_eq_false, min_n, max_n, dif_n, n_rem, n_div, or_nI, shl_nI, Option.toList_some, Option.toList_none, List.singleton_append, List.nil_append, if_true, if_false, or_true, true_or, or_false, false_or, and_false, false_and, Bool.false_eq_true, Zx_some, c_noCamp hX hV, h, c_withinP, h2]
      simp (disch := omega) only [w187_0, w187_1, w187_2, w187_5, w187_6, w187_9, w187_12, w187_14, w187_15, w187_16, w187_17, w187_18, w187_19, w187_22, w187_25, w187_27, cl187, hm, ↓neg_vM, ↓neg_vB, ↓neg_vS, ↓neg_vF, ↓neg_vO, ↓neg_vA, ↓neg_vN, lit_nI, nI_leI, nI_ltI, nI_eq, jm_in_nI, nI_clamp, nI_add, n_mul, pk_sub, n_le_t, n_le_f, n_lt_t, n_lt_f, n_eq_t, n_eq_f, true_and, and_true, ne_eq, not_false_eq_true, not_true_eq_false, min_n, max_n, dif_n, n_rem, n_div, or_nI, shl_nI, Option.toList_some, Option.toList_none, List.singleton_append, List.nil_append, if_true, if_false, or_true, true_or, or_false, false_or, and_false, false_and, Bool.false_eq_true, Zm_some, r_isThere hM4 v0, h, lit_lN, r_in, lx_le, xl_le, h2]
      exact ⟨k, InvK_same hI Same_thrown⟩
end
