/-! ===== the fewest of sets ===== -/
def mnF (ok : Nat → Bool) : Nat → Option Nat
  | 0 => none
  | n + 1 => if ok n = true ∧ (mnF ok n = none ∨ pop6 n < pop6 ((mnF ok n).getD 0)) then some n else mnF ok n
def oN : Option Nat → Int32
  | none => vN
  | some s => nI s
theorem mnF_not {ok : Nat → Bool} {n : Nat} (h : ok n = false) : mnF ok (n + 1) = mnF ok n := by
  rw [mnF, if_neg (fun q => by rw [h] at q; exact absurd q.1 (by decide))]
theorem mnF_n {ok : Nat → Bool} {n : Nat} (h : ok n = true) (h2 : mnF ok n = none) : mnF ok (n + 1) = some n := by
  rw [mnF, if_pos ⟨h, Or.inl h2⟩]
theorem mnF_s {ok : Nat → Bool} {n s : Nat} (h : ok n = true) (h2 : mnF ok n = some s) (h3 : pop6 n < pop6 s) : mnF ok (n + 1) = some n := by
  rw [mnF, if_pos ⟨h, Or.inr (by rw [h2]; exact h3)⟩]
theorem mnF_b {ok : Nat → Bool} {n s : Nat} (h2 : mnF ok n = some s) (h3 : ¬ pop6 n < pop6 s) : mnF ok (n + 1) = some s := by
  rw [mnF, if_neg (fun q => by
    rcases q.2 with q2 | q2
    · rw [h2] at q2; cases q2
    · rw [h2] at q2; exact h3 q2), h2]
theorem mnF_lt {ok : Nat → Bool} : ∀ {n s : Nat}, mnF ok n = some s → s < n
  | 0, s, h => by cases h
  | n + 1, s, h => by
    rw [mnF] at h
    split at h
    · cases h; omega
    · have := mnF_lt h; omega
theorem mnF_ext {ok : Nat → Bool} {a : Nat} : ∀ {n : Nat}, a ≤ n → (∀ i, a ≤ i → i < n → ok i = false) → mnF ok n = mnF ok a
  | 0, h, _ => by rw [show a = 0 by omega]
  | n + 1, h, hk => by
    by_cases e : a = n + 1
    · rw [e]
    · rw [mnF_not (hk n (by omega) (by omega)), mnF_ext (by omega) (fun i h1 h2 => hk i h1 (by omega))]
def fwV (o : Option Nat) (w : Nat) : Int32 := match o with
  | none => vN
  | some s => if w = 0 then nI (pop6 s) else nI s
theorem nand_le : ∀ a, a < 64 → ∀ b, b < 64 → a &&& (63 ^^^ b) = 0 → a ≤ b := by decide +kernel
def cvP (k : kT) (t m s : Nat) : Bool := decide (s &&& (63 ^^^ m) = 0) && decide (t &&& (63 ^^^ orB k s (k 0)) = 0)
theorem pow_le32 {n : Nat} (h : n ≤ 5) : 2 ^ n ≤ 32 := show 2 ^ n ≤ 2 ^ 5 from Nat.pow_le_pow_right (by decide) h
section
variable {xs : Nat → Int32} {L d : Nat} {S : jm_I2} {k : kT} {Z : Option Value → jm_I2 → Prop}
theorem c_fewest {o : Option Nat} {w : Nat} (ho : ∀ s, o = some s → s < 64) (hw : w ≤ 1) : CL L (d + 1) 120 [.int (oN o), .int (nI w)] S Z ↔ Z (some (.int (fwV o w))) S := by
  cases o with
  | none => simp (disch := omega) only [cl120, w120_0, w120_1, w120_3, w120_6, w120_8, w120_9, w120_10, w120_13, w120_14, w120_17, w120_20, w120_21, ↓neg_vM, ↓neg_vB, ↓neg_vS, ↓neg_vF, ↓neg_vO, ↓neg_vA, ↓neg_vN, lit_nI, nI_leI, nI_ltI, nI_eq, jm_in_nI, nI_clamp, nI_add, n_mul, pk_sub, n_le_t, n_le_f, n_lt_t, n_lt_f, n_eq_t, n_eq_f, true_and, and_true, ne_eq, not_false_eq_true, not_true_eq_false, min_n, max_n, dif_n, n_rem, n_div, or_nI, shl_nI, Option.toList_some, Option.toList_none, List.singleton_append, List.nil_append, if_true, if_false, or_true, true_or, or_false, false_or, and_false, false_and, Bool.false_eq_true, oN, fwV]
  | some s =>
    have := ho s rfl
    by_cases h : w = 0
    · simp (disch := omega) only [cl120, w120_0, w120_1, w120_3, w120_6, w120_8, w120_9, w120_10, w120_13, w120_14, w120_17, w120_20, w120_21, ↓neg_vM, ↓neg_vB, ↓neg_vS, ↓neg_vF, ↓neg_vO, ↓neg_vA, ↓neg_vN, lit_nI, nI_leI, nI_ltI, nI_eq, jm_in_nI, nI_clamp, nI_add, n_mul, pk_sub, n_le_t, n_le_f, n_lt_t, n_lt_f, n_eq_t, n_eq_f, true_and, and_true, ne_eq, not_false_eq_true, not_true_eq_false, min_n, max_n, dif_n, n_rem, n_div, or_nI, shl_nI, Option.toList_some, Option.toList_none, List.singleton_append, List.nil_append, if_true, if_false, or_true, true_or, or_false, false_or, and_false, false_and, Bool.false_eq_true, oN, fwV, eq_vN, h, c_bitCount, bcI_pop]
    · simp (disch := omega) only [cl120, w120_0, w120_1, w120_3, w120_6, w120_8, w120_9, w120_10, w120_13, w120_14, w120_17, w120_20, w120_21, ↓neg_vM, ↓neg_vB, ↓neg_vS, ↓neg_vF, ↓neg_vO, ↓neg_vA, ↓neg_vN, lit_nI, nI_leI, nI_ltI, nI_eq, jm_in_nI, nI_clamp, nI_add, n_mul, pk_sub, n_le_t, n_le_f, n_lt_t, n_lt_f, n_eq_t, n_eq_f, true_and, and_true, ne_eq, not_false_eq_true, not_true_eq_false, min_n, max_n, dif_n, n_rem, n_div, or_nI, shl_nI, Option.toList_some, Option.toList_none, List.singleton_append, List.nil_append, if_true, if_false, or_true, true_or, or_false, false_or, and_false, false_and, Bool.false_eq_true, oN, fwV, eq_vN, h]
theorem c_fewestBarring {t : Nat} (hX : RX 25 S k) (hV : KV k) (ht64 : t < 64) : CL L (d + 2) 29 [.ref 25, .int (nI t)] S Z ↔ Z (some (.int (oN (mnF (cvP k t (bset (kHd k) (k 0))) (bset (kHd k) (k 0) + 1))))) S := by
  have hs := camp_sh isC25
  have v0 := hV.1
  have hm32 := bset64 (kHd k) v0
  obtain ⟨m, hm⟩ : ∃ m, m = bset (kHd k) (k 0) := ⟨_, rfl⟩
  simp (disch := omega) only [cl29, w29_0, w29_1, w29_4, w29_5, w29_7, w29_8, w29_9, hs, ↓neg_vM, ↓neg_vB, ↓neg_vS, ↓neg_vF, ↓neg_vO, ↓neg_vA, ↓neg_vN, lit_nI, nI_leI, nI_ltI, nI_eq, jm_in_nI, nI_clamp, nI_add, n_mul, pk_sub, n_le_t, n_le_f, n_lt_t, n_lt_f, n_eq_t, n_eq_f, true_and, and_true, ne_eq, not_false_eq_true, not_true_eq_false, min_n, max_n, dif_n, n_rem, n_div, or_nI, shl_nI, Option.toList_some, Option.toList_none, List.singleton_append, List.nil_append, if_true, if_false, or_true, true_or, or_false, false_or, and_false, false_and, Bool.false_eq_true, c_holding isC25 hX hV]
  rw [← hm] at hm32 ⊢
  have key : ∀ i, i ≤ m + 1 → ∀ u, (WQ L (d + 2) 29 11 [.ref 25, .int (nI t), .int (nI m), .int (oN (mnF (cvP k t m) i)), .int (nI i), u] [] S Z ↔ Z (some (.int (oN (mnF (cvP k t m) (m + 1))))) S) := by
    apply down_ind
    · intro u
      rw [w29_11]
      simp (disch := omega) only [w29_13, w29_14, w29_17, w29_19, w29_20, w29_21, w29_22, w29_23, w29_26, w29_27, w29_28, w29_30, w29_33, w29_34, w29_35, w29_36, w29_39, w29_40, w29_43, w29_44, w29_46, w29_48, w29_51, w29_52, w29_54, w29_57, w29_59, w29_62, w29_63, w29_66, w29_69, w29_71, w29_72, w29_75, w29_78, w29_79, hs, ↓neg_vM, ↓neg_vB, ↓neg_vS, ↓neg_vF, ↓neg_vO, ↓neg_vA, ↓neg_vN, lit_nI, nI_leI, nI_ltI, nI_eq, jm_in_nI, nI_clamp, nI_add, n_mul, pk_sub, n_le_t, n_le_f, n_lt_t, n_lt_f, n_eq_t, n_eq_f, true_and, and_true, ne_eq, not_false_eq_true, not_true_eq_false, min_n, max_n, dif_n, n_rem, n_div, or_nI, shl_nI, Option.toList_some, Option.toList_none, List.singleton_append, List.nil_append, if_true, if_false, or_true, true_or, or_false, false_or, and_false, false_and, Bool.false_eq_true]
    · intro i hi ih u
      have hor := orB_lt hV i (k 0) (Nat.le_refl _)
      have n1 := nand_n5 (show i < 64 by omega) (show m < 64 by omega)
      have n2 := nand_n5 ht64 hor
      have l1 := and_le (a := i) (b := 63 ^^^ m)
      have l2 := and_le (a := t) (b := 63 ^^^ orB k i (k 0))
      by_cases c1 : i &&& (63 ^^^ m) = 0
      · by_cases c2 : t &&& (63 ^^^ orB k i (k 0)) = 0
        · have hok : cvP k t m i = true := by unfold cvP; simp [c1, c2]
          cases hmn : mnF (cvP k t m) i with
          | none =>
            rw [← ih (.int (nI 1)), w29_11, mnF_n hok hmn]
            simp (disch := omega) only [w29_13, w29_14, w29_17, w29_19, w29_20, w29_21, w29_22, w29_23, w29_26, w29_27, w29_28, w29_30, w29_33, w29_34, w29_35, w29_36, w29_39, w29_40, w29_43, w29_44, w29_46, w29_48, w29_51, w29_52, w29_54, w29_57, w29_59, w29_62, w29_63, w29_66, w29_69, w29_71, w29_72, w29_75, hs, ↓neg_vM, ↓neg_vB, ↓neg_vS, ↓neg_vF, ↓neg_vO, ↓neg_vA, ↓neg_vN, lit_nI, nI_leI, nI_ltI, nI_eq, jm_in_nI, nI_clamp, nI_add, n_mul, pk_sub, n_le_t, n_le_f, n_lt_t, n_lt_f, n_eq_t, n_eq_f, true_and, and_true, ne_eq, not_false_eq_true, not_true_eq_false, min_n, max_n, dif_n, n_rem, n_div, or_nI, shl_nI, Option.toList_some, Option.toList_none, List.singleton_append, List.nil_append, if_true, if_false, or_true, true_or, or_false, false_or, and_false, false_and, Bool.false_eq_true, oN, c_barredBy isC25 hX hV, n1, n2, c1, c2]
          | some s =>
            have hs64 := mnF_lt hmn
            have p1 := pop6_le i
            have p2 := pop6_le s
            by_cases c3 : pop6 i < pop6 s
            · rw [← ih (.int (nI 1)), w29_11, mnF_s hok hmn c3]
              simp (disch := omega) only [w29_13, w29_14, w29_17, w29_19, w29_20, w29_21, w29_22, w29_23, w29_26, w29_27, w29_28, w29_30, w29_33, w29_34, w29_35, w29_36, w29_39, w29_40, w29_43, w29_44, w29_46, w29_48, w29_51, w29_52, w29_54, w29_57, w29_59, w29_62, w29_63, w29_66, w29_69, w29_71, w29_72, w29_75, hs, ↓neg_vM, ↓neg_vB, ↓neg_vS, ↓neg_vF, ↓neg_vO, ↓neg_vA, ↓neg_vN, lit_nI, nI_leI, nI_ltI, nI_eq, jm_in_nI, nI_clamp, nI_add, n_mul, pk_sub, n_le_t, n_le_f, n_lt_t, n_lt_f, n_eq_t, n_eq_f, true_and, and_true, ne_eq, not_false_eq_true, not_true_eq_false, min_n, max_n, dif_n, n_rem, n_div, or_nI, shl_nI, Option.toList_some, Option.toList_none, List.singleton_append, List.nil_append, if_true, if_false, or_true, true_or, or_false, false_or, and_false, false_and, Bool.false_eq_true, oN, c_barredBy isC25 hX hV, n1, n2, c1, c2, eq_vN, c_bitCount, bcI_pop]
            · rw [← ih (.int (nI 1)), w29_11, mnF_b hmn c3]
              simp (disch := omega) only [w29_13, w29_14, w29_17, w29_19, w29_20, w29_21, w29_22, w29_23, w29_26, w29_27, w29_28, w29_30, w29_33, w29_34, w29_35, w29_36, w29_39, w29_40, w29_43, w29_44, w29_46, w29_48, w29_51, w29_52, w29_54, w29_57, w29_59, w29_62, w29_63, w29_66, w29_69, w29_71, w29_72, w29_75, hs, ↓neg_vM, ↓neg_vB, ↓neg_vS, ↓neg_vF, ↓neg_vO, ↓neg_vA, ↓neg_vN, lit_nI, nI_leI, nI_ltI, nI_eq, jm_in_nI, nI_clamp, nI_add, n_mul, pk_sub, n_le_t, n_le_f, n_lt_t, n_lt_f, n_eq_t, n_eq_f, true_and, and_true, ne_eq, not_false_eq_true, not_true_eq_false, min_n, max_n, dif_n, n_rem, n_div, or_nI, shl_nI, Option.toList_some, Option.toList_none, List.singleton_append, List.nil_append, if_true, if_false, or_true, true_or, or_false, false_or, and_false, false_and, Bool.false_eq_true, oN, c_barredBy isC25 hX hV, n1, n2, c1, c2, eq_vN, c_bitCount, bcI_pop]
        · have hok : cvP k t m i = false := by unfold cvP; simp [c2]
          rw [← ih (.int (nI 0)), w29_11, mnF_not hok]
          simp (disch := omega) only [w29_13, w29_14, w29_17, w29_19, w29_20, w29_21, w29_22, w29_23, w29_26, w29_27, w29_28, w29_30, w29_33, w29_34, w29_35, w29_36, w29_39, w29_40, w29_43, w29_44, w29_46, w29_48, w29_51, w29_52, w29_54, w29_57, w29_59, w29_62, w29_63, w29_66, w29_69, w29_71, w29_72, w29_75, hs, ↓neg_vM, ↓neg_vB, ↓neg_vS, ↓neg_vF, ↓neg_vO, ↓neg_vA, ↓neg_vN, lit_nI, nI_leI, nI_ltI, nI_eq, jm_in_nI, nI_clamp, nI_add, n_mul, pk_sub, n_le_t, n_le_f, n_lt_t, n_lt_f, n_eq_t, n_eq_f, true_and, and_true, ne_eq, not_false_eq_true, not_true_eq_false, min_n, max_n, dif_n, n_rem, n_div, or_nI, shl_nI, Option.toList_some, Option.toList_none, List.singleton_append, List.nil_append, if_true, if_false, or_true, true_or, or_false, false_or, and_false, false_and, Bool.false_eq_true, c_barredBy isC25 hX hV, n1, n2, c1, c2]
      · have hok : cvP k t m i = false := by unfold cvP; simp [c1]
        rw [← ih (.int (nI 0)), w29_11, mnF_not hok]
        simp (disch := omega) only [w29_13, w29_14, w29_17, w29_19, w29_20, w29_21, w29_22, w29_23, w29_26, w29_27, w29_28, w29_30, w29_33, w29_34, w29_35, w29_36, w29_39, w29_40, w29_43, w29_44, w29_46, w29_48, w29_51, w29_52, w29_54, w29_57, w29_59, w29_62, w29_63, w29_66, w29_69, w29_71, w29_72, w29_75, hs, ↓neg_vM, ↓neg_vB, ↓neg_vS, ↓neg_vF, ↓neg_vO, ↓neg_vA, ↓neg_vN, lit_nI, nI_leI, nI_ltI, nI_eq, jm_in_nI, nI_clamp, nI_add, n_mul, pk_sub, n_le_t, n_le_f, n_lt_t, n_lt_f, n_eq_t, n_eq_f, true_and, and_true, ne_eq, not_false_eq_true, not_true_eq_false, min_n, max_n, dif_n, n_rem, n_div, or_nI, shl_nI, Option.toList_some, Option.toList_none, List.singleton_append, List.nil_append, if_true, if_false, or_true, true_or, or_false, false_or, and_false, false_and, Bool.false_eq_true, n1, c1]
  exact key 0 (Nat.zero_le _) _
theorem r_cover {t w : Nat} {T : jm_I2} (hM : RM 132 T k) (hV : KV k) (ht64 : t < 64) (hw : w ≤ 1) : WQ L (d + 2) 190 40 [.ref 128, .int (nI t), .int (nI w), .null, .null, .null, .null, .null] [] T Z ↔ Z (some (.int (fwV (mnF (cvP k t (bset (kHd k) (k 0))) (bset (kHd k) (k 0) + 1)) w))) T := by
  have hm := mod_sh L
  have v0 := hV.1
  have e0 := hM 0 (by decide)
  have hm32 := bset64 (kHd k) v0
  have hmlt := bset_lt (kHd k) (k 0)
  have hp32 := pow_le32 v0
  obtain ⟨m, hmm⟩ : ∃ m, m = bset (kHd k) (k 0) := ⟨_, rfl⟩
  simp (disch := omega) only [w190_40, w190_41, w190_44, w190_47, w190_48, w190_50, w190_52, w190_53, hm, ↓neg_vM, ↓neg_vB, ↓neg_vS, ↓neg_vF, ↓neg_vO, ↓neg_vA, ↓neg_vN, lit_nI, nI_leI, nI_ltI, nI_eq, jm_in_nI, nI_clamp, nI_add, n_mul, pk_sub, n_le_t, n_le_f, n_lt_t, n_lt_f, n_eq_t, n_eq_f, true_and, and_true, ne_eq, not_false_eq_true, not_true_eq_false, min_n, max_n, dif_n, n_rem, n_div, or_nI, shl_nI, Option.toList_some, Option.toList_none, List.singleton_append, List.nil_append, if_true, if_false, or_true, true_or, or_false, false_or, and_false, false_and, Bool.false_eq_true, r_holding isR132 hM hV]
  rw [← hmm] at hm32 hmlt ⊢
  have eend : mnF (cvP k t m) (2 ^ k 0) = mnF (cvP k t m) (m + 1) := mnF_ext (by omega) (fun i h1 h2 => by
    have := nand_le i (by omega) m (by omega)
    unfold cvP
    rw [Bool.and_eq_false_iff]
    left
    rw [decide_eq_false_iff_not]
    intro q
    have := this q
    omega)
  have inner : ∀ i fd, i < 64 → ∀ r, r ≤ k 0 → (WQ L (d + 2) 190 74 [.ref 128, .int (nI t), .int (nI w), .int (nI m), .int fd, .int (nI i), .int (nI (orB k i r)), .int (nI r)] [] T Z ↔ WQ L (d + 2) 190 120 [.ref 128, .int (nI t), .int (nI w), .int (nI m), .int fd, .int (nI i), .int (nI (orB k i (k 0))), .int (nI (k 0))] [] T Z) := by
    intro i fd hi
    apply down_ind
    · rw [w190_74]
      simp (disch := omega) only [w190_76, w190_77, w190_80, w190_81, w190_82, w190_85, w190_87, w190_89, w190_91, w190_94, w190_97, w190_98, w190_101, w190_103, w190_104, w190_107, w190_110, w190_111, w190_112, w190_114, w190_117, hm, ↓neg_vM, ↓neg_vB, ↓neg_vS, ↓neg_vF, ↓neg_vO, ↓neg_vA, ↓neg_vN, lit_nI, nI_leI, nI_ltI, nI_eq, jm_in_nI, nI_clamp, nI_add, n_mul, pk_sub, n_le_t, n_le_f, n_lt_t, n_lt_f, n_eq_t, n_eq_f, true_and, and_true, ne_eq, not_false_eq_true, not_true_eq_false, min_n, max_n, dif_n, n_rem, n_div, or_nI, shl_nI, Option.toList_some, Option.toList_none, List.singleton_append, List.nil_append, if_true, if_false, or_true, true_or, or_false, false_or, and_false, false_and, Bool.false_eq_true, e0]
    · intro r hr ih
      rw [← ih, w190_74, orB]
      by_cases c : i.testBit r = true
      · simp (disch := omega) only [w190_76, w190_77, w190_80, w190_81, w190_82, w190_85, w190_87, w190_89, w190_91, w190_94, w190_97, w190_98, w190_101, w190_103, w190_104, w190_107, w190_110, w190_111, w190_112, w190_114, w190_117, hm, ↓neg_vM, ↓neg_vB, ↓neg_vS, ↓neg_vF, ↓neg_vO, ↓neg_vA, ↓neg_vN, lit_nI, nI_leI, nI_ltI, nI_eq, jm_in_nI, nI_clamp, nI_add, n_mul, pk_sub, n_le_t, n_le_f, n_lt_t, n_lt_f, n_eq_t, n_eq_f, true_and, and_true, ne_eq, not_false_eq_true, not_true_eq_false, min_n, max_n, dif_n, n_rem, n_div, or_nI, shl_nI, Option.toList_some, Option.toList_none, List.singleton_append, List.nil_append, if_true, if_false, or_true, true_or, or_false, false_or, and_false, false_and, Bool.false_eq_true, e0, r_has, c, r_of3 isR132 hM]
      · simp (disch := omega) only [w190_76, w190_77, w190_80, w190_81, w190_82, w190_85, w190_87, w190_89, w190_91, w190_94, w190_97, w190_98, w190_101, w190_103, w190_104, w190_107, w190_110, w190_111, w190_112, w190_114, w190_117, hm, ↓neg_vM, ↓neg_vB, ↓neg_vS, ↓neg_vF, ↓neg_vO, ↓neg_vA, ↓neg_vN, lit_nI, nI_leI, nI_ltI, nI_eq, jm_in_nI, nI_clamp, nI_add, n_mul, pk_sub, n_le_t, n_le_f, n_lt_t, n_lt_f, n_eq_t, n_eq_f, true_and, and_true, ne_eq, not_false_eq_true, not_true_eq_false, min_n, max_n, dif_n, n_rem, n_div, or_nI, shl_nI, Option.toList_some, Option.toList_none, List.singleton_append, List.nil_append, if_true, if_false, or_true, true_or, or_false, false_or, and_false, false_and, Bool.false_eq_true, e0, r_has, c]
  have key : ∀ i, i ≤ 2 ^ k 0 → ∀ u6 u7, (WQ L (d + 2) 190 55 [.ref 128, .int (nI t), .int (nI w), .int (nI m), .int (oN (mnF (cvP k t m) i)), .int (nI i), u6, u7] [] T Z ↔ Z (some (.int (fwV (mnF (cvP k t m) (m + 1)) w))) T) := by
    apply down_ind
    · intro u6 u7
      rw [w190_55, eend]
      cases hmn : mnF (cvP k t m) (m + 1) with
      | none => simp (disch := omega) only [w190_57, w190_58, w190_59, w190_62, w190_63, w190_64, w190_65, w190_168, w190_170, w190_172, w190_175, w190_176, w190_177, w190_180, w190_182, w190_185, w190_187, w190_190, hm, ↓neg_vM, ↓neg_vB, ↓neg_vS, ↓neg_vF, ↓neg_vO, ↓neg_vA, ↓neg_vN, lit_nI, nI_leI, nI_ltI, nI_eq, jm_in_nI, nI_clamp, nI_add, n_mul, pk_sub, n_le_t, n_le_f, n_lt_t, n_lt_f, n_eq_t, n_eq_f, true_and, and_true, ne_eq, not_false_eq_true, not_true_eq_false, min_n, max_n, dif_n, n_rem, n_div, or_nI, shl_nI, Option.toList_some, Option.toList_none, List.singleton_append, List.nil_append, if_true, if_false, or_true, true_or, or_false, false_or, and_false, false_and, Bool.false_eq_true, e0, oN, fwV]
      | some s =>
        have hs64 := mnF_lt hmn
        by_cases c : w = 0
        · simp (disch := omega) only [w190_57, w190_58, w190_59, w190_62, w190_63, w190_64, w190_65, w190_168, w190_170, w190_172, w190_175, w190_176, w190_177, w190_180, w190_182, w190_185, w190_187, w190_190, hm, ↓neg_vM, ↓neg_vB, ↓neg_vS, ↓neg_vF, ↓neg_vO, ↓neg_vA, ↓neg_vN, lit_nI, nI_leI, nI_ltI, nI_eq, jm_in_nI, nI_clamp, nI_add, n_mul, pk_sub, n_le_t, n_le_f, n_lt_t, n_lt_f, n_eq_t, n_eq_f, true_and, and_true, ne_eq, not_false_eq_true, not_true_eq_false, min_n, max_n, dif_n, n_rem, n_div, or_nI, shl_nI, Option.toList_some, Option.toList_none, List.singleton_append, List.nil_append, if_true, if_false, or_true, true_or, or_false, false_or, and_false, false_and, Bool.false_eq_true, e0, oN, fwV, eq_vN, r_bits, c]
        · simp (disch := omega) only [w190_57, w190_58, w190_59, w190_62, w190_63, w190_64, w190_65, w190_168, w190_170, w190_172, w190_175, w190_176, w190_177, w190_180, w190_182, w190_185, w190_187, w190_190, hm, ↓neg_vM, ↓neg_vB, ↓neg_vS, ↓neg_vF, ↓neg_vO, ↓neg_vA, ↓neg_vN, lit_nI, nI_leI, nI_ltI, nI_eq, jm_in_nI, nI_clamp, nI_add, n_mul, pk_sub, n_le_t, n_le_f, n_lt_t, n_lt_f, n_eq_t, n_eq_f, true_and, and_true, ne_eq, not_false_eq_true, not_true_eq_false, min_n, max_n, dif_n, n_rem, n_div, or_nI, shl_nI, Option.toList_some, Option.toList_none, List.singleton_append, List.nil_append, if_true, if_false, or_true, true_or, or_false, false_or, and_false, false_and, Bool.false_eq_true, e0, oN, fwV, eq_vN, show w = 1 by omega]
    · intro i hi ih u6 u7
      have hor := orB_lt hV i (k 0) (Nat.le_refl _)
      have n1 := nand_n5 (show i < 64 by omega) (show m < 64 by omega)
      have n2 := nand_n5 ht64 hor
      have l1 := and_le (a := i) (b := 63 ^^^ m)
      have l2 := and_le (a := t) (b := 63 ^^^ orB k i (k 0))
      have in0 := fun fd => inner i fd (by omega) 0 (Nat.zero_le _)
      rw [orB] at in0
      rw [w190_55]
      simp (disch := omega) only [w190_57, w190_58, w190_59, w190_62, w190_63, w190_64, w190_65, w190_68, w190_69, w190_71, w190_72, hm, ↓neg_vM, ↓neg_vB, ↓neg_vS, ↓neg_vF, ↓neg_vO, ↓neg_vA, ↓neg_vN, lit_nI, nI_leI, nI_ltI, nI_eq, jm_in_nI, nI_clamp, nI_add, n_mul, pk_sub, n_le_t, n_le_f, n_lt_t, n_lt_f, n_eq_t, n_eq_f, true_and, and_true, ne_eq, not_false_eq_true, not_true_eq_false, min_n, max_n, dif_n, n_rem, n_div, or_nI, shl_nI, Option.toList_some, Option.toList_none, List.singleton_append, List.nil_append, if_true, if_false, or_true, true_or, or_false, false_or, and_false, false_and, Bool.false_eq_true, e0]
      rw [in0]
      by_cases c1 : i &&& (63 ^^^ m) = 0
      · by_cases c2 : t &&& (63 ^^^ orB k i (k 0)) = 0
        · have hok : cvP k t m i = true := by unfold cvP; simp [c1, c2]
          cases hmn : mnF (cvP k t m) i with
          | none =>
            rw [← ih (.int (nI (orB k i (k 0)))) (.int (nI (k 0))), mnF_n hok hmn]
            simp (disch := omega) only [w190_120, w190_122, w190_123, w190_124, w190_125, w190_126, w190_129, w190_130, w190_132, w190_133, w190_134, w190_135, w190_138, w190_140, w190_142, w190_145, w190_147, w190_150, w190_152, w190_155, w190_158, w190_160, w190_162, w190_165, hm, ↓neg_vM, ↓neg_vB, ↓neg_vS, ↓neg_vF, ↓neg_vO, ↓neg_vA, ↓neg_vN, lit_nI, nI_leI, nI_ltI, nI_eq, jm_in_nI, nI_clamp, nI_add, n_mul, pk_sub, n_le_t, n_le_f, n_lt_t, n_lt_f, n_eq_t, n_eq_f, true_and, and_true, ne_eq, not_false_eq_true, not_true_eq_false, min_n, max_n, dif_n, n_rem, n_div, or_nI, shl_nI, Option.toList_some, Option.toList_none, List.singleton_append, List.nil_append, if_true, if_false, or_true, true_or, or_false, false_or, and_false, false_and, Bool.false_eq_true, oN, n1, n2, c1, c2]
          | some s =>
            have hs64 := mnF_lt hmn
            have p1 := pop6_le i
            have p2 := pop6_le s
            by_cases c3 : pop6 i < pop6 s
            · rw [← ih (.int (nI (orB k i (k 0)))) (.int (nI (k 0))), mnF_s hok hmn c3]
              simp (disch := omega) only [w190_120, w190_122, w190_123, w190_124, w190_125, w190_126, w190_129, w190_130, w190_132, w190_133, w190_134, w190_135, w190_138, w190_140, w190_142, w190_145, w190_147, w190_150, w190_152, w190_155, w190_158, w190_160, w190_162, w190_165, hm, ↓neg_vM, ↓neg_vB, ↓neg_vS, ↓neg_vF, ↓neg_vO, ↓neg_vA, ↓neg_vN, lit_nI, nI_leI, nI_ltI, nI_eq, jm_in_nI, nI_clamp, nI_add, n_mul, pk_sub, n_le_t, n_le_f, n_lt_t, n_lt_f, n_eq_t, n_eq_f, true_and, and_true, ne_eq, not_false_eq_true, not_true_eq_false, min_n, max_n, dif_n, n_rem, n_div, or_nI, shl_nI, Option.toList_some, Option.toList_none, List.singleton_append, List.nil_append, if_true, if_false, or_true, true_or, or_false, false_or, and_false, false_and, Bool.false_eq_true, oN, n1, n2, c1, c2, eq_vN, r_bits]
            · rw [← ih (.int (nI (orB k i (k 0)))) (.int (nI (k 0))), mnF_b hmn c3]
              simp (disch := omega) only [w190_120, w190_122, w190_123, w190_124, w190_125, w190_126, w190_129, w190_130, w190_132, w190_133, w190_134, w190_135, w190_138, w190_140, w190_142, w190_145, w190_147, w190_150, w190_152, w190_155, w190_158, w190_160, w190_162, w190_165, hm, ↓neg_vM, ↓neg_vB, ↓neg_vS, ↓neg_vF, ↓neg_vO, ↓neg_vA, ↓neg_vN, lit_nI, nI_leI, nI_ltI, nI_eq, jm_in_nI, nI_clamp, nI_add, n_mul, pk_sub, n_le_t, n_le_f, n_lt_t, n_lt_f, n_eq_t, n_eq_f, true_and, and_true, ne_eq, not_false_eq_true, not_true_eq_false, min_n, max_n, dif_n, n_rem, n_div, or_nI, shl_nI, Option.toList_some, Option.toList_none, List.singleton_append, List.nil_append, if_true, if_false, or_true, true_or, or_false, false_or, and_false, false_and, Bool.false_eq_true, oN, n1, n2, c1, c2, eq_vN, r_bits]
        · have hok : cvP k t m i = false := by unfold cvP; simp [c2]
          rw [← ih (.int (nI (orB k i (k 0)))) (.int (nI (k 0))), mnF_not hok]
          simp (disch := omega) only [w190_120, w190_122, w190_123, w190_124, w190_125, w190_126, w190_129, w190_130, w190_132, w190_133, w190_134, w190_135, w190_138, w190_140, w190_142, w190_145, w190_147, w190_150, w190_152, w190_155, w190_158, w190_160, w190_162, w190_165, hm, ↓neg_vM, ↓neg_vB, ↓neg_vS, ↓neg_vF, ↓neg_vO, ↓neg_vA, ↓neg_vN, lit_nI, nI_leI, nI_ltI, nI_eq, jm_in_nI, nI_clamp, nI_add, n_mul, pk_sub, n_le_t, n_le_f, n_lt_t, n_lt_f, n_eq_t, n_eq_f, true_and, and_true, ne_eq, not_false_eq_true, not_true_eq_false, min_n, max_n, dif_n, n_rem, n_div, or_nI, shl_nI, Option.toList_some, Option.toList_none, List.singleton_append, List.nil_append, if_true, if_false, or_true, true_or, or_false, false_or, and_false, false_and, Bool.false_eq_true, n1, n2, c1, c2]
      · have hok : cvP k t m i = false := by unfold cvP; simp [c1]
        rw [← ih (.int (nI (orB k i (k 0)))) (.int (nI (k 0))), mnF_not hok]
        simp (disch := omega) only [w190_120, w190_122, w190_123, w190_124, w190_125, w190_126, w190_129, w190_130, w190_132, w190_133, w190_134, w190_135, w190_138, w190_140, w190_142, w190_145, w190_147, w190_150, w190_152, w190_155, w190_158, w190_160, w190_162, w190_165, hm, ↓neg_vM, ↓neg_vB, ↓neg_vS, ↓neg_vF, ↓neg_vO, ↓neg_vA, ↓neg_vN, lit_nI, nI_leI, nI_ltI, nI_eq, jm_in_nI, nI_clamp, nI_add, n_mul, pk_sub, n_le_t, n_le_f, n_lt_t, n_lt_f, n_eq_t, n_eq_f, true_and, and_true, ne_eq, not_false_eq_true, not_true_eq_false, min_n, max_n, dif_n, n_rem, n_div, or_nI, shl_nI, Option.toList_some, Option.toList_none, List.singleton_append, List.nil_append, if_true, if_false, or_true, true_or, or_false, false_or, and_false, false_and, Bool.false_eq_true, n1, c1]
  exact key 0 (Nat.zero_le _) _ _
theorem p_cover {v w : Int32} (hI : InvK xs S k) : CL L (d + 9) 101 [.ref 0, .int v, .int w] S (Zx xs L (d + 9) 190 [.ref 128, .int v, .int w]) := by
  have ht := top_sh L
  have hm := mod_sh L
  obtain ⟨hX, hM, hV, h999, h01⟩ := hI.2.2.2.1
  have hM4 : RM 132 (jm_upd S 128 0 (nI 0)) k := RM_of hM (upd_ne (by decide))
  have v0 := hV.1
  by_cases h : k 0 = 0
  · simp (disch := omega) only [w101_0, w101_1, w101_4, w101_7, w101_9, cl101, ht, ↓neg_vM, ↓neg_vB, ↓neg_vS, ↓neg_vF, ↓neg_vO, ↓neg_vA, ↓neg_vN, lit_nI, nI_leI, nI_ltI, nI_eq, jm_in_nI, nI_clamp, nI_add, n_mul, pk_sub, n_le_t, n_le_f, n_lt_t, n_lt_f, n_eq_t, n_eq_f, true_and, and_true, ne_eq, not_false_eq_true, not_true_eq_false, min_n, max_n, dif_n, n_rem, n_div, or_nI, shl_nI, Option.toList_some, Option.toList_none, List.singleton_append, List.nil_append, if_true, if_false, or_true, true_or, or_false, false_or, and_false, false_and, Bool.false_eq_true, Zx_some, c_noCamp hX hV, h]
    simp (disch := omega) only [w190_0, w190_1, w190_2, w190_5, w190_6, w190_9, w190_12, w190_14, cl190, hm, ↓neg_vM, ↓neg_vB, ↓neg_vS, ↓neg_vF, ↓neg_vO, ↓neg_vA, ↓neg_vN, lit_nI, nI_leI, nI_ltI, nI_eq, jm_in_nI, nI_clamp, nI_add, n_mul, pk_sub, n_le_t, n_le_f, n_lt_t, n_lt_f, n_eq_t, n_eq_f, true_and, and_true, ne_eq, not_false_eq_true, not_true_eq_false, min_n, max_n, dif_n, n_rem, n_div, or_nI, shl_nI, Option.toList_some, Option.toList_none, List.singleton_append, List.nil_append, if_true, if_false, or_true, true_or, or_false, false_or, and_false, false_and, Bool.false_eq_true, Zm_some, r_isThere hM4 v0, h]
    exact ⟨k, InvK_same hI Same_thrown⟩
  · by_cases h2 : nI 0 ≤ v ∧ v ≤ nI 63
    · by_cases h3 : nI 0 ≤ w ∧ w ≤ nI 1
      · obtain ⟨t, -, ht6, rfl⟩ := btw (by decide) h2 (by decide)
        obtain ⟨b, -, hb, rfl⟩ := btw (by decide) h3 (by decide)
        clear h2 h3
        have hm32 := bset64 (kHd k) v0
        have hlt : ∀ s, mnF (cvP k t (bset (kHd k) (k 0))) (bset (kHd k) (k 0) + 1) = some s → s < 64 := fun s q => by
          have := mnF_lt q
          omega
        simp (disch := omega) only [cl101, w101_0, w101_1, w101_4, w101_7, w101_9, w101_10, w101_11, w101_12, w101_14, w101_17, w101_20, w101_21, w101_22, w101_23, w101_26, w101_29, w101_31, w101_32, w101_33, w101_36, w101_37, w101_40, w101_41, w101_44, ht, ↓neg_vM, ↓neg_vB, ↓neg_vS, ↓neg_vF, ↓neg_vO, ↓neg_vA, ↓neg_vN, lit_nI, nI_leI, nI_ltI, nI_eq, jm_in_nI, nI_clamp, nI_add, n_mul, pk_sub, n_le_t, n_le_f, n_lt_t, n_lt_f, n_eq_t, n_eq_f, true_and, and_true, ne_eq, not_false_eq_true, not_true_eq_false, min_n, max_n, dif_n, n_rem, n_div, or_nI, shl_nI, Option.toList_some, Option.toList_none, List.singleton_append, List.nil_append, if_true, if_false, or_true, true_or, or_false, false_or, and_false, false_and, Bool.false_eq_true, Zx_some, c_noCamp hX hV, h, c_withinP, c_fewestBarring hX hV, c_fewest hlt hb]
        simp (disch := omega) only [w190_0, w190_1, w190_2, w190_5, w190_6, w190_9, w190_12, w190_14, w190_15, w190_16, w190_17, w190_18, w190_21, w190_24, w190_27, w190_28, w190_29, w190_30, w190_31, w190_34, w190_37, w190_39, cl190, hm, ↓neg_vM, ↓neg_vB, ↓neg_vS, ↓neg_vF, ↓neg_vO, ↓neg_vA, ↓neg_vN, lit_nI, nI_leI, nI_ltI, nI_eq, jm_in_nI, nI_clamp, nI_add, n_mul, pk_sub, n_le_t, n_le_f, n_lt_t, n_lt_f, n_eq_t, n_eq_f, true_and, and_true, ne_eq, not_false_eq_true, not_true_eq_false, min_n, max_n, dif_n, n_rem, n_div, or_nI, shl_nI, Option.toList_some, Option.toList_none, List.singleton_append, List.nil_append, if_true, if_false, or_true, true_or, or_false, false_or, and_false, false_and, Bool.false_eq_true, Zm_some, r_isThere hM4 v0, h, lit_lN, nI_l, r_in, lN_le, r_cover hM4 hV]
        exact ⟨k, InvK_same hI Same_thrown⟩
      · simp (disch := omega) only [w101_0, w101_1, w101_4, w101_7, w101_9, w101_10, w101_11, w101_12, w101_14, w101_17, w101_20, w101_21, w101_22, w101_23, w101_26, w101_29, w101_31, cl101, ht, ↓neg_vM, ↓neg_vB, ↓neg_vS, ↓neg_vF, ↓neg_vO, ↓neg_vA, ↓neg_vN, lit_nI, nI_leI, nI_ltI, nI_eq, jm_in_nI, nI_clamp, nI_add, n_mul, pk_sub, n_le_t, n_le_f, n_lt_t, n_lt_f, n_eq_t, n_eq_f, true_and, and_true, ne_eq, not_false_eq_true, not_true_eq_false, min_n, max_n, dif_n, n_rem, n_div, or_nI, shl_nI, Option.toList_some, Option.toList_none, List.singleton_append, List.nil_append, if_true, if_false, or_true, true_or, or_false, false_or, and_false, false_and, Bool.false_eq_true, Zx_some, c_noCamp hX hV, h, c_withinP, h2, h3]
        simp (disch := omega) only [w190_0, w190_1, w190_2, w190_5, w190_6, w190_9, w190_12, w190_14, w190_15, w190_16, w190_17, w190_18, w190_21, w190_24, w190_27, w190_28, w190_29, w190_30, w190_31, w190_34, w190_37, w190_39, cl190, hm, ↓neg_vM, ↓neg_vB, ↓neg_vS, ↓neg_vF, ↓neg_vO, ↓neg_vA, ↓neg_vN, lit_nI, nI_leI, nI_ltI, nI_eq, jm_in_nI, nI_clamp, nI_add, n_mul, pk_sub, n_le_t, n_le_f, n_lt_t, n_lt_f, n_eq_t, n_eq_f, true_and, and_true, ne_eq, not_false_eq_true, not_true_eq_false, min_n, max_n, dif_n, n_rem, n_div, or_nI, shl_nI, Option.toList_some, Option.toList_none, List.singleton_append, List.nil_append, if_true, if_false, or_true, true_or, or_false, false_or, and_false, false_and, Bool.false_eq_true, Zm_some, r_isThere hM4 v0, h, lit_lN, r_in, lx_le, xl_le, h2, h3]
        exact ⟨k, InvK_same hI Same_thrown⟩
    · simp (disch := omega) only [w101_0, w101_1, w101_4, w101_7, w101_9, w101_10, w101_11, w101_12, w101_14, w101_17, w101_20, w101_21, w101_22, w101_23, w101_26, w101_29, w101_31, cl101, ht, ↓neg_vM, ↓neg_vB, ↓neg_vS, ↓neg_vF, ↓neg_vO, ↓neg_vA, ↓neg_vN, lit_nI, nI_leI, nI_ltI, nI_eq, jm_in_nI, nI_clamp, nI_add, n_mul, pk_sub, n_le_t, n_le_f, n_lt_t, n_lt_f, n_eq_t, n_eq_f, true_and, and_true, ne_eq, not_false_eq_true, not_true_eq_false, min_n, max_n, dif_n, n_rem, n_div, or_nI, shl_nI, Option.toList_some, Option.toList_none, List.singleton_append, List.nil_append, if_true, if_false, or_true, true_or, or_false, false_or, and_false, false_and, Bool.false_eq_true, Zx_some, c_noCamp hX hV, h, c_withinP, h2]
      simp (disch := omega) only [w190_0, w190_1, w190_2, w190_5, w190_6, w190_9, w190_12, w190_14, w190_15, w190_16, w190_17, w190_18, w190_21, w190_24, w190_27, w190_28, w190_29, w190_30, w190_31, w190_34, w190_37, w190_39, cl190, hm, ↓neg_vM, ↓neg_vB, ↓neg_vS, ↓neg_vF, ↓neg_vO, ↓neg_vA, ↓neg_vN, lit_nI, nI_leI, nI_ltI, nI_eq, jm_in_nI, nI_clamp, nI_add, n_mul, pk_sub, n_le_t, n_le_f, n_lt_t, n_lt_f, n_eq_t, n_eq_f, true_and, and_true, ne_eq, not_false_eq_true, not_true_eq_false, min_n, max_n, dif_n, n_rem, n_div, or_nI, shl_nI, Option.toList_some, Option.toList_none, List.singleton_append, List.nil_append, if_true, if_false, or_true, true_or, or_false, false_or, and_false, false_and, Bool.false_eq_true, Zm_some, r_isThere hM4 v0, h, lit_lN, r_in, lx_le, xl_le, h2]
      exact ⟨k, InvK_same hI Same_thrown⟩
end
