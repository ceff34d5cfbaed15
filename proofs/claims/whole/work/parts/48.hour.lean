/-! ===== an hour of the class's camp ===== -/
def lossV (kd ls p : Nat) : Nat := if kd = 2 then ls / 2 else if kd = 3 then (if p = 0 then 2 * ls else ls) else if 4 ≤ kd then (if p = 0 then ls else 0) else ls
def beatV (loud kd bt ls p g : Nat) : Nat := max (if kd = 5 ∧ 0 < bt then 1 else 0) (min (bt + g) loud - lossV kd ls p)
def strV (st p : Nat) : Nat := if p = 0 then min (st + 2) 20 else max 0 (st - pop6 p)
def newBt (k : kT) (r : Nat) : Nat := beatV (k 2) (kKd k r) (kBt k r) (kLs k r) (bset (kPd k r) (k 1)) (kGn k r (k 1))
def newSt (k : kT) (h : Nat) : Nat := strV (kSt k h) (bset (fun r => kPd k r h) (k 0))
def hourA (k : kT) : kT := fun i => if i = 3 then k 3 + 1 else if 4 ≤ i ∧ i < 14 ∧ i % 2 = 0 ∧ (i - 4) / 2 < k 1 then newSt k ((i - 4) / 2) else if 14 ≤ i ∧ (i - 14) % 4 = 1 ∧ (i - 14) / 4 < k 0 then newBt k ((i - 14) / 4) else k i
theorem kGn_le (k : kT) (r : Nat) : ∀ n, kGn k r n ≤ 3 * n
  | 0 => Nat.le_refl _
  | n + 1 => by
    have := kGn_le k r n
    have h2 : kWt k n ≤ 3 := by unfold kWt; split <;> omega
    rw [kGn]
    split <;> omega
theorem bset64 (p : Nat → Bool) {n : Nat} (h : n ≤ 5) : bset p n < 32 := Nat.lt_of_lt_of_le (bset_lt p n) (show 2 ^ n ≤ 2 ^ 5 from Nat.pow_le_pow_right (by decide) h)
theorem pop6_le (m : Nat) : pop6 m ≤ 6 := cnt_le _ 6
theorem lossV_le {kd ls p : Nat} (h : ls ≤ 9) : lossV kd ls p ≤ 18 := by
  unfold lossV
  split
  · omega
  · split
    · split <;> omega
    · split
      · split <;> omega
      · omega
theorem hourA_low (k : kT) : hourA k 0 = k 0 ∧ hourA k 1 = k 1 ∧ hourA k 2 = k 2 ∧ hourA k 3 = k 3 + 1 := ⟨rfl, rfl, rfl, rfl⟩
theorem hourA_St {k : kT} {h : Nat} (h1 : h < k 1) (h5 : k 1 ≤ 5) : kSt (hourA k) h = newSt k h := by
  unfold kSt hourA
  rw [if_neg (by omega), if_pos (by omega), show (4 + 2 * h - 4) / 2 = h by omega]
theorem hourA_Pl {k : kT} {h : Nat} (h5 : h < 5) : kPl (hourA k) h = kPl k h := by
  unfold kPl hourA
  rw [if_neg (by omega), if_neg (by omega), if_neg (by omega)]
theorem hourA_Kd {k : kT} {r : Nat} : kKd (hourA k) r = kKd k r := by
  unfold kKd hourA
  rw [if_neg (by omega), if_neg (by omega), if_neg (by omega)]
theorem hourA_Ls {k : kT} {r : Nat} : kLs (hourA k) r = kLs k r := by
  unfold kLs hourA
  rw [if_neg (by omega), if_neg (by omega), if_neg (by omega)]
theorem hourA_Br {k : kT} {r : Nat} : kBr (hourA k) r = kBr k r := by
  unfold kBr hourA
  rw [if_neg (by omega), if_neg (by omega), if_neg (by omega)]
theorem hourA_Bt {k : kT} {r : Nat} (h1 : r < k 0) : kBt (hourA k) r = newBt k r := by
  unfold kBt hourA
  rw [if_neg (by omega), if_neg (by omega), if_pos (by omega), show (15 + 4 * r - 14) / 4 = r by omega]
theorem newSt_le (k : kT) {h : Nat} (hh : kSt k h ≤ 20) : newSt k h ≤ 20 := by
  unfold newSt strV
  split <;> omega
theorem newBt_le (k : kT) {r : Nat} (h : k 2 ≤ 60) : newBt k r ≤ 60 := by
  unfold newBt beatV
  split <;> omega
theorem KV_hour {k : kT} (hV : KV k) (h : k 3 + 1 ≤ 100000) : KV (hourA k) := by
  obtain ⟨v0, v1, v2, v3, v4, v5⟩ := hV
  refine ⟨v0, v1, v2, h, fun g hg => ?_, fun r hr => ?_⟩
  · have hg' : g < k 1 := hg
    obtain ⟨w1, w2⟩ := v4 g hg'
    rw [hourA_St hg' v1, hourA_Pl (by omega)]
    exact ⟨newSt_le k w1, w2⟩
  · have hr' : r < k 0 := hr
    obtain ⟨b1, b2, b3, b4, b5, b6⟩ := v5 r hr'
    rw [hourA_Bt hr', hourA_Kd, hourA_Ls, hourA_Br]
    exact ⟨b1, b2, newBt_le k v2, b4, b5, b6⟩
def fillS (T : jm_I2) (a : Nat) (f : Nat → Int32) (i : Nat) : jm_I2 := jm_row T a (fun r => if r < i then f r else T a r)
theorem fillS_0 (T : jm_I2) (a : Nat) (f : Nat → Int32) : fillS T a f 0 = T := by
  funext o i
  unfold fillS
  rw [row_at]
  by_cases h : o = a
  · rw [if_pos h, if_neg (by omega), h]
  · rw [if_neg h]
theorem fillS_S (T : jm_I2) (a : Nat) (f : Nat → Int32) (i : Nat) : jm_upd (fillS T a f i) a i (f i) = fillS T a f (i + 1) := by
  funext o r
  unfold fillS
  rw [upd_at, row_at, row_at]
  by_cases h : o = a
  · subst h
    by_cases h2 : r = i
    · subst h2; simp
    · by_cases h3 : r < i
      · simp [h2, h3, show r < i + 1 by omega]
      · simp [h2, h3, show ¬ r < i + 1 by omega]
  · simp [h]
theorem fillS_ne {T : jm_I2} {a o : Nat} {f : Nat → Int32} {i : Nat} (h : o ≠ a) : fillS T a f i o = T o := by
  funext r
  unfold fillS
  rw [row_at, if_neg h]
theorem fillS_ge {T : jm_I2} {a r : Nat} {f : Nat → Int32} {i : Nat} (h : i ≤ r) : fillS T a f i a r = T a r := by
  unfold fillS
  rw [row_at, if_pos rfl, if_neg (by omega)]
theorem fillS_lt {T : jm_I2} {a r : Nat} {f : Nat → Int32} {i : Nat} (h : r < i) : fillS T a f i a r = f r := by
  unfold fillS
  rw [row_at, if_pos rfl, if_pos h]
section
variable {L d : Nat} {S : jm_I2} {Z : Option Value → jm_I2 → Prop}
theorem c_lossBehind {c r kd ls p : Nat} (hc : isCamp c) (hr : r < 5) (hp : S (c + 7) r = nI p) (hk : S (c + 3) r = nI kd) (hls : S (c + 5) r = nI ls) (b1 : 1 ≤ kd) (b2 : kd ≤ 5) (b3 : ls ≤ 9) (b4 : p < 64) : CL L d 22 [.ref c, .int (nI r)] S Z ↔ Z (some (.int (nI (lossV kd ls p)))) S := by
  have hs := camp_sh hc
  have hl := camp_ll L hc
  have hk5 : kd = 1 ∨ kd = 2 ∨ kd = 3 ∨ kd = 4 ∨ kd = 5 := by omega
  by_cases hp0 : p = 0
  · rcases hk5 with rfl | rfl | rfl | rfl | rfl <;> simp (disch := omega) only [cl22, w22_0, w22_1, w22_4, w22_5, w22_6, w22_9, w22_10, w22_13, w22_14, w22_15, w22_16, w22_19, w22_20, w22_21, w22_52, w22_53, w22_56, w22_57, w22_58, w22_59, w22_60, w22_61, w22_62, w22_65, w22_66, w22_69, w22_70, w22_71, w22_74, w22_75, w22_76, w22_79, w22_80, w22_81, w22_82, w22_83, w22_84, w22_87, w22_88, w22_91, w22_92, w22_95, w22_96, w22_97, w22_98, w22_99, w22_102, w22_103, w22_104, hs, hl, ↓neg_vN, lit_nI, nI_leI, nI_ltI, nI_eq, jm_in_nI, nI_clamp, nI_add, n_mul, pk_sub, n_le_t, n_le_f, n_lt_t, n_lt_f, n_eq_t, n_eq_f, true_and, and_true, ne_eq, not_false_eq_true, not_true_eq_false, min_n, max_n, dif_n, n_rem, n_div, or_nI, shl_nI, Option.toList_some, Option.toList_none, List.singleton_append, List.nil_append, if_true, if_false, or_true, true_or, or_false, false_or, and_false, false_and, Bool.false_eq_true, hp, hk, hls, hp0, jm_sw, lossV]
  · rcases hk5 with rfl | rfl | rfl | rfl | rfl <;> simp (disch := omega) only [cl22, w22_0, w22_1, w22_4, w22_5, w22_6, w22_9, w22_10, w22_13, w22_14, w22_15, w22_16, w22_19, w22_20, w22_21, w22_52, w22_53, w22_56, w22_57, w22_58, w22_59, w22_60, w22_61, w22_62, w22_65, w22_66, w22_69, w22_70, w22_71, w22_74, w22_75, w22_76, w22_79, w22_80, w22_81, w22_82, w22_83, w22_84, w22_87, w22_88, w22_91, w22_92, w22_95, w22_96, w22_97, w22_98, w22_99, w22_102, w22_103, w22_104, hs, hl, ↓neg_vN, lit_nI, nI_leI, nI_ltI, nI_eq, jm_in_nI, nI_clamp, nI_add, n_mul, pk_sub, n_le_t, n_le_f, n_lt_t, n_lt_f, n_eq_t, n_eq_f, true_and, and_true, ne_eq, not_false_eq_true, not_true_eq_false, min_n, max_n, dif_n, n_rem, n_div, or_nI, shl_nI, Option.toList_some, Option.toList_none, List.singleton_append, List.nil_append, if_true, if_false, or_true, true_or, or_false, false_or, and_false, false_and, Bool.false_eq_true, hp, hk, hls, hp0, jm_sw, lossV]
theorem c_beatBehind {c r loud kd bt ls p g : Nat} (hc : isCamp c) (hr : r < 5) (h0 : S c 0 = nI loud) (hp : S (c + 7) r = nI p) (hk : S (c + 3) r = nI kd) (hls : S (c + 5) r = nI ls) (hbt : S (c + 4) r = nI bt) (hg : S (c + 9) r = nI g) (b0 : loud ≤ 60) (b1 : 1 ≤ kd) (b2 : kd ≤ 5) (b3 : ls ≤ 9) (b4 : p < 64) (b5 : bt ≤ 60) (b6 : g ≤ 15) : CL L (d + 1) 21 [.ref c, .int (nI r)] S Z ↔ Z (some (.int (nI (beatV loud kd bt ls p g)))) S := by
  have hs := camp_sh hc
  have hl := camp_ll L hc
  have hv := lossV_le (kd := kd) (p := p) b3
  by_cases hk5 : kd = 5
  · subst hk5
    by_cases hp0 : 0 < bt
    · simp (disch := omega) only [cl21, w21_0, w21_1, w21_4, w21_5, w21_6, w21_7, w21_10, w21_11, w21_14, w21_15, w21_16, w21_19, w21_20, w21_23, w21_24, w21_25, w21_26, w21_27, w21_30, w21_31, w21_34, w21_35, w21_36, w21_37, w21_40, w21_41, w21_42, w21_43, w21_46, w21_47, w21_48, w21_51, w21_52, w21_55, hs, hl, ↓neg_vN, lit_nI, nI_leI, nI_ltI, nI_eq, jm_in_nI, nI_clamp, nI_add, n_mul, pk_sub, n_le_t, n_le_f, n_lt_t, n_lt_f, n_eq_t, n_eq_f, true_and, and_true, ne_eq, not_false_eq_true, not_true_eq_false, min_n, max_n, dif_n, n_rem, n_div, or_nI, shl_nI, Option.toList_some, Option.toList_none, List.singleton_append, List.nil_append, if_true, if_false, or_true, true_or, or_false, false_or, and_false, false_and, Bool.false_eq_true, hp, hk, hls, h0, hbt, hg, hp0, c_lossBehind hc hr hp hk hls b1 b2 b3 b4, beatV]
    · simp (disch := omega) only [cl21, w21_0, w21_1, w21_4, w21_5, w21_6, w21_7, w21_10, w21_11, w21_14, w21_15, w21_16, w21_19, w21_20, w21_23, w21_24, w21_25, w21_26, w21_27, w21_30, w21_31, w21_34, w21_35, w21_36, w21_37, w21_40, w21_41, w21_42, w21_43, w21_46, w21_47, w21_48, w21_51, w21_52, w21_55, hs, hl, ↓neg_vN, lit_nI, nI_leI, nI_ltI, nI_eq, jm_in_nI, nI_clamp, nI_add, n_mul, pk_sub, n_le_t, n_le_f, n_lt_t, n_lt_f, n_eq_t, n_eq_f, true_and, and_true, ne_eq, not_false_eq_true, not_true_eq_false, min_n, max_n, dif_n, n_rem, n_div, or_nI, shl_nI, Option.toList_some, Option.toList_none, List.singleton_append, List.nil_append, if_true, if_false, or_true, true_or, or_false, false_or, and_false, false_and, Bool.false_eq_true, hp, hk, hls, h0, hbt, hg, hp0, c_lossBehind hc hr hp hk hls b1 b2 b3 b4, beatV, and_false]
  · simp (disch := omega) only [cl21, w21_0, w21_1, w21_4, w21_5, w21_6, w21_7, w21_10, w21_11, w21_14, w21_15, w21_16, w21_19, w21_20, w21_23, w21_24, w21_25, w21_26, w21_27, w21_30, w21_31, w21_34, w21_35, w21_36, w21_37, w21_40, w21_41, w21_42, w21_43, w21_46, w21_47, w21_48, w21_51, w21_52, w21_55, hs, hl, ↓neg_vN, lit_nI, nI_leI, nI_ltI, nI_eq, jm_in_nI, nI_clamp, nI_add, n_mul, pk_sub, n_le_t, n_le_f, n_lt_t, n_lt_f, n_eq_t, n_eq_f, true_and, and_true, ne_eq, not_false_eq_true, not_true_eq_false, min_n, max_n, dif_n, n_rem, n_div, or_nI, shl_nI, Option.toList_some, Option.toList_none, List.singleton_append, List.nil_append, if_true, if_false, or_true, true_or, or_false, false_or, and_false, false_and, Bool.false_eq_true, hp, hk, hls, h0, hbt, hg, hk5, c_lossBehind hc hr hp hk hls b1 b2 b3 b4, beatV, false_and]
theorem c_strengthBehind {c h st p : Nat} (hc : isCamp c) (hr : h < 5) (hst : S (c + 1) h = nI st) (hp : S (c + 8) h = nI p) (b1 : st ≤ 20) (b2 : p < 64) : CL L (d + 1) 23 [.ref c, .int (nI h)] S Z ↔ Z (some (.int (nI (strV st p)))) S := by
  have hs := camp_sh hc
  have hl := camp_ll L hc
  have hq := pop6_le p
  by_cases hp0 : p = 0
  · simp (disch := omega) only [cl23, w23_0, w23_1, w23_4, w23_5, w23_6, w23_9, w23_11, w23_12, w23_15, w23_16, w23_17, w23_18, w23_19, w23_22, w23_23, w23_24, w23_25, w23_28, w23_29, w23_30, w23_31, w23_34, w23_35, w23_36, w23_39, w23_40, w23_43, hs, hl, ↓neg_vN, lit_nI, nI_leI, nI_ltI, nI_eq, jm_in_nI, nI_clamp, nI_add, n_mul, pk_sub, n_le_t, n_le_f, n_lt_t, n_lt_f, n_eq_t, n_eq_f, true_and, and_true, ne_eq, not_false_eq_true, not_true_eq_false, min_n, max_n, dif_n, n_rem, n_div, or_nI, shl_nI, Option.toList_some, Option.toList_none, List.singleton_append, List.nil_append, if_true, if_false, or_true, true_or, or_false, false_or, and_false, false_and, Bool.false_eq_true, hst, hp, hp0, strV]
  · simp (disch := omega) only [cl23, w23_0, w23_1, w23_4, w23_5, w23_6, w23_9, w23_11, w23_12, w23_15, w23_16, w23_17, w23_18, w23_19, w23_22, w23_23, w23_24, w23_25, w23_28, w23_29, w23_30, w23_31, w23_34, w23_35, w23_36, w23_39, w23_40, w23_43, hs, hl, ↓neg_vN, lit_nI, nI_leI, nI_ltI, nI_eq, jm_in_nI, nI_clamp, nI_add, n_mul, pk_sub, n_le_t, n_le_f, n_lt_t, n_lt_f, n_eq_t, n_eq_f, true_and, and_true, ne_eq, not_false_eq_true, not_true_eq_false, min_n, max_n, dif_n, n_rem, n_div, or_nI, shl_nI, Option.toList_some, Option.toList_none, List.singleton_append, List.nil_append, if_true, if_false, or_true, true_or, or_false, false_or, and_false, false_and, Bool.false_eq_true, hst, hp, hp0, strV, c_bitCount, bcI_pop]
end
section
variable {L d : Nat} {Z : Option Value → jm_I2 → Prop}
theorem hour_loop1 {c : Nat} {S T : jm_I2} {k : kT} (hc : isCamp c) (hX : RX c S k) (hV : KV k) (hT : tP c S k T) : ∀ i, i ≤ k 0 → (WQ L (d + 2) 20 6 [.ref c, .int (nI i)] [] (fillS T (c + 4) (fun r => nI (newBt k r)) i) Z ↔ WQ L (d + 2) 20 31 [.ref c, .int (nI (k 0))] [] (fillS T (c + 4) (fun r => nI (newBt k r)) (k 0)) Z) := by
  have hs := camp_sh hc
  have hl := camp_ll L hc
  obtain ⟨v0, v1, v2, v3, v4, v5⟩ := hV
  obtain ⟨x0, x1, x2, x3, x4, x5⟩ := hX
  obtain ⟨t1, t2, t3⟩ := hT
  have f : ∀ i o, o ≠ c + 4 → o ≠ c + 7 → o ≠ c + 8 → o ≠ c + 9 → fillS T (c + 4) (fun r => nI (newBt k r)) i o = S o := fun i o h h7 h8 h9 => by rw [fillS_ne h, t1 o h7 h8 h9]
  apply down_ind
  · rw [w20_6]
    simp (disch := omega) only [w20_7, w20_8, w20_11, w20_14, w20_15, w20_18, w20_19, w20_20, w20_21, w20_24, w20_25, w20_28, hs, hl, ↓neg_vN, lit_nI, nI_leI, nI_ltI, nI_eq, jm_in_nI, nI_clamp, nI_add, n_mul, pk_sub, n_le_t, n_le_f, n_lt_t, n_lt_f, n_eq_t, n_eq_f, true_and, and_true, ne_eq, not_false_eq_true, not_true_eq_false, min_n, max_n, dif_n, n_rem, n_div, or_nI, shl_nI, Option.toList_some, Option.toList_none, List.singleton_append, List.nil_append, if_true, if_false, or_true, true_or, or_false, false_or, and_false, false_and, Bool.false_eq_true, f, x3]
  · intro i hi ih
    obtain ⟨z1, z2, z3, z4⟩ := x5 i hi
    obtain ⟨b1, b2, b3, b4, b5, b6⟩ := v5 i hi
    have hg := kGn_le k i (k 1)
    have hb := bset64 (kPd k i) v1
    rw [← ih, w20_6]
    simp (disch := omega) only [w20_7, w20_8, w20_11, w20_14, w20_15, w20_18, w20_19, w20_20, w20_21, w20_24, w20_25, w20_28, hs, hl, ↓neg_vN, lit_nI, nI_leI, nI_ltI, nI_eq, jm_in_nI, nI_clamp, nI_add, n_mul, pk_sub, n_le_t, n_le_f, n_lt_t, n_lt_f, n_eq_t, n_eq_f, true_and, and_true, ne_eq, not_false_eq_true, not_true_eq_false, min_n, max_n, dif_n, n_rem, n_div, or_nI, shl_nI, Option.toList_some, Option.toList_none, List.singleton_append, List.nil_append, if_true, if_false, or_true, true_or, or_false, false_or, and_false, false_and, Bool.false_eq_true, f, x3]
    rw [c_beatBehind (c := c) (r := i) (loud := k 2) (kd := kKd k i) (bt := kBt k i) (ls := kLs k i) (p := bset (kPd k i) (k 1)) (g := kGn k i (k 1)) hc (by omega) (by rw [f _ _ (by omega) (by omega) (by omega) (by omega), x0]) (by rw [fillS_ne (by omega), (t2 i hi).1]) (by rw [f _ _ (by omega) (by omega) (by omega) (by omega), z1]) (by rw [f _ _ (by omega) (by omega) (by omega) (by omega), z3]) (by rw [fillS_ge (Nat.le_refl _), t1 _ (by omega) (by omega) (by omega), z2]) (by rw [fillS_ne (by omega), (t2 i hi).2]) (by omega) (by omega) (by omega) (by omega) (by omega) (by omega) (by omega)]
    simp (disch := omega) only [w20_7, w20_8, w20_11, w20_14, w20_15, w20_18, w20_19, w20_20, w20_21, w20_24, w20_25, w20_28, hs, hl, ↓neg_vN, lit_nI, nI_leI, nI_ltI, nI_eq, jm_in_nI, nI_clamp, nI_add, n_mul, pk_sub, n_le_t, n_le_f, n_lt_t, n_lt_f, n_eq_t, n_eq_f, true_and, and_true, ne_eq, not_false_eq_true, not_true_eq_false, min_n, max_n, dif_n, n_rem, n_div, or_nI, shl_nI, Option.toList_some, Option.toList_none, List.singleton_append, List.nil_append, if_true, if_false, or_true, true_or, or_false, false_or, and_false, false_and, Bool.false_eq_true]
    exact Iff.of_eq (congrArg (fun s => WQ L (d + 2) 20 6 _ _ s Z) (fillS_S T (c + 4) (fun r => nI (newBt k r)) i))
theorem hour_loop2 {c : Nat} {T : jm_I2} {k : kT} (hc : isCamp c) (hV : KV k) (h2 : T c 2 = nI (k 1)) (hT : ∀ h, h < k 1 → T (c + 1) h = nI (kSt k h) ∧ T (c + 8) h = nI (bset (fun r => kPd k r h) (k 0))) : ∀ i, i ≤ k 1 → (WQ L (d + 2) 20 33 [.ref c, .int (nI i)] [] (fillS T (c + 1) (fun r => nI (newSt k r)) i) Z ↔ WQ L (d + 2) 20 58 [.ref c, .int (nI (k 1))] [] (fillS T (c + 1) (fun r => nI (newSt k r)) (k 1)) Z) := by
  have hs := camp_sh hc
  have hl := camp_ll L hc
  obtain ⟨v0, v1, v2, v3, v4, v5⟩ := hV
  have f : ∀ i, fillS T (c + 1) (fun r => nI (newSt k r)) i c = T c := fun i => fillS_ne (by omega)
  apply down_ind
  · rw [w20_33]
    simp (disch := omega) only [w20_34, w20_35, w20_38, w20_41, w20_42, w20_45, w20_46, w20_47, w20_48, w20_51, w20_52, w20_55, hs, hl, ↓neg_vN, lit_nI, nI_leI, nI_ltI, nI_eq, jm_in_nI, nI_clamp, nI_add, n_mul, pk_sub, n_le_t, n_le_f, n_lt_t, n_lt_f, n_eq_t, n_eq_f, true_and, and_true, ne_eq, not_false_eq_true, not_true_eq_false, min_n, max_n, dif_n, n_rem, n_div, or_nI, shl_nI, Option.toList_some, Option.toList_none, List.singleton_append, List.nil_append, if_true, if_false, or_true, true_or, or_false, false_or, and_false, false_and, Bool.false_eq_true, f, h2]
  · intro i hi ih
    obtain ⟨z1, z2⟩ := hT i hi
    obtain ⟨b1, b2⟩ := v4 i hi
    have hb := bset64 (fun r => kPd k r i) v0
    rw [← ih, w20_33]
    simp (disch := omega) only [w20_34, w20_35, w20_38, w20_41, w20_42, w20_45, w20_46, w20_47, w20_48, w20_51, w20_52, w20_55, hs, hl, ↓neg_vN, lit_nI, nI_leI, nI_ltI, nI_eq, jm_in_nI, nI_clamp, nI_add, n_mul, pk_sub, n_le_t, n_le_f, n_lt_t, n_lt_f, n_eq_t, n_eq_f, true_and, and_true, ne_eq, not_false_eq_true, not_true_eq_false, min_n, max_n, dif_n, n_rem, n_div, or_nI, shl_nI, Option.toList_some, Option.toList_none, List.singleton_append, List.nil_append, if_true, if_false, or_true, true_or, or_false, false_or, and_false, false_and, Bool.false_eq_true, f, h2]
    rw [c_strengthBehind (c := c) (h := i) (st := kSt k i) (p := bset (fun r => kPd k r i) (k 0)) hc (by omega) (by rw [fillS_ge (Nat.le_refl _), z1]) (by rw [fillS_ne (by omega), z2]) (by omega) (by omega)]
    simp (disch := omega) only [w20_34, w20_35, w20_38, w20_41, w20_42, w20_45, w20_46, w20_47, w20_48, w20_51, w20_52, w20_55, hs, hl, ↓neg_vN, lit_nI, nI_leI, nI_ltI, nI_eq, jm_in_nI, nI_clamp, nI_add, n_mul, pk_sub, n_le_t, n_le_f, n_lt_t, n_lt_f, n_eq_t, n_eq_f, true_and, and_true, ne_eq, not_false_eq_true, not_true_eq_false, min_n, max_n, dif_n, n_rem, n_div, or_nI, shl_nI, Option.toList_some, Option.toList_none, List.singleton_append, List.nil_append, if_true, if_false, or_true, true_or, or_false, false_or, and_false, false_and, Bool.false_eq_true]
    exact Iff.of_eq (congrArg (fun s => WQ L (d + 2) 20 33 _ _ s Z) (fillS_S T (c + 1) (fun r => nI (newSt k r)) i))
/-- outside a camp nothing changes -/
def offC (c : Nat) (S T : jm_I2) : Prop := ∀ o, (o < c ∨ c + 9 < o) → T o = S o
theorem c_passHour {c : Nat} {S : jm_I2} {k : kT} (hc : isCamp c) (hX : RX c S k) (hV : KV k) (hn : 0 < k 1) (hZ : ∀ T, RX c T (hourA k) → offC c S T → Z none T) : CL L (d + 2) 20 [.ref c] S Z := by
  have hs := camp_sh hc
  have hl := camp_ll L hc
  simp only [cl20, w20_0, w20_1, hs, true_and]
  refine c_tally hc hX hV hn (fun T hT => ?_)
  simp (disch := omega) only [w20_4, w20_5, ↓neg_vN, lit_nI, nI_leI, nI_ltI, nI_eq, jm_in_nI, nI_clamp, nI_add, n_mul, pk_sub, n_le_t, n_le_f, n_lt_t, n_lt_f, n_eq_t, n_eq_f, true_and, and_true, ne_eq, not_false_eq_true, not_true_eq_false, min_n, max_n, dif_n, n_rem, n_div, or_nI, shl_nI, Option.toList_some, Option.toList_none, List.singleton_append, List.nil_append, if_true, if_false, or_true, true_or, or_false, false_or, and_false, false_and, Bool.false_eq_true]
  have e1 := (hour_loop1 (L := L) (d := d) (Z := Z) hc hX hV hT 0 (Nat.zero_le _)).mpr
  rw [fillS_0] at e1
  apply e1
  clear e1
  obtain ⟨v0, v1, v2, v3, v4, v5⟩ := hV
  obtain ⟨x0, x1, x2, x3, x4, x5⟩ := hX
  obtain ⟨t1, t2, t3⟩ := hT
  simp (disch := omega) only [w20_31, w20_32, ↓neg_vN, lit_nI, nI_leI, nI_ltI, nI_eq, jm_in_nI, nI_clamp, nI_add, n_mul, pk_sub, n_le_t, n_le_f, n_lt_t, n_lt_f, n_eq_t, n_eq_f, true_and, and_true, ne_eq, not_false_eq_true, not_true_eq_false, min_n, max_n, dif_n, n_rem, n_div, or_nI, shl_nI, Option.toList_some, Option.toList_none, List.singleton_append, List.nil_append, if_true, if_false, or_true, true_or, or_false, false_or, and_false, false_and, Bool.false_eq_true]
  have f : ∀ o, o ≠ c + 4 → o ≠ c + 7 → o ≠ c + 8 → o ≠ c + 9 → fillS T (c + 4) (fun r => nI (newBt k r)) (k 0) o = S o := fun o h h7 h8 h9 => by rw [fillS_ne h, t1 o h7 h8 h9]
  have e2 := (hour_loop2 (L := L) (d := d) (Z := Z) (T := fillS T (c + 4) (fun r => nI (newBt k r)) (k 0)) hc ⟨v0, v1, v2, v3, v4, v5⟩ (by rw [f _ (by omega) (by omega) (by omega) (by omega), x2]) (fun h hh => ⟨by rw [f _ (by omega) (by omega) (by omega) (by omega), (x4 h hh).1], by rw [fillS_ne (by omega), t3 h hh]⟩) 0 (Nat.zero_le _)).mpr
  rw [fillS_0] at e2
  apply e2
  clear e2
  have g : ∀ o, o ≠ c + 1 → o ≠ c + 4 → o ≠ c + 7 → o ≠ c + 8 → o ≠ c + 9 → fillS (fillS T (c + 4) (fun r => nI (newBt k r)) (k 0)) (c + 1) (fun r => nI (newSt k r)) (k 1) o = S o := fun o h1 h h7 h8 h9 => by rw [fillS_ne h1, f o h h7 h8 h9]
  simp (disch := omega) only [w20_58, w20_59, w20_60, w20_63, w20_64, w20_65, w20_68, hs, ↓neg_vN, lit_nI, nI_leI, nI_ltI, nI_eq, jm_in_nI, nI_clamp, nI_add, n_mul, pk_sub, n_le_t, n_le_f, n_lt_t, n_lt_f, n_eq_t, n_eq_f, true_and, and_true, ne_eq, not_false_eq_true, not_true_eq_false, min_n, max_n, dif_n, n_rem, n_div, or_nI, shl_nI, Option.toList_some, Option.toList_none, List.singleton_append, List.nil_append, if_true, if_false, or_true, true_or, or_false, false_or, and_false, false_and, Bool.false_eq_true, g, x1]
  refine hZ _ ⟨?_, ?_, ?_, ?_, fun h hh => ?_, fun r hr => ?_⟩ (fun o ho => ?_)
  · simp (disch := omega) only [upd_at, g, x0, hourA_low, n_eq_f, and_false, if_false]
  · simp (disch := omega) only [upd_at, hourA_low, and_self, if_true]
  · simp (disch := omega) only [upd_at, g, x2, hourA_low, n_eq_f, and_false, if_false]
  · simp (disch := omega) only [upd_at, g, x3, hourA_low, n_eq_f, and_false, if_false]
  · have hh' : h < k 1 := hh
    rw [hourA_St hh' v1, hourA_Pl (by omega)]
    simp (disch := omega) only [upd_at, n_eq_f, false_and, if_false, fillS_lt, g, x4, true_and]
  · have hr' : r < k 0 := hr
    rw [hourA_Kd, hourA_Bt hr', hourA_Ls, hourA_Br]
    have e4 : fillS (fillS T (c + 4) (fun r => nI (newBt k r)) (k 0)) (c + 1) (fun r => nI (newSt k r)) (k 1) (c + 4) = fillS T (c + 4) (fun r => nI (newBt k r)) (k 0) (c + 4) := fillS_ne (by omega)
    simp (disch := omega) only [upd_at, n_eq_f, false_and, if_false, e4, fillS_lt, g, x5, true_and, and_self]
  · funext i
    simp (disch := omega) only [upd_at, n_eq_f, false_and, if_false, g]
end
