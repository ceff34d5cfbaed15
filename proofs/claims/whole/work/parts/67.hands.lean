/-! ===== hands for a rule ===== -/
/-- what the first n hands play is q -/
def plK (k : kT) (q : Nat → Nat) (n : Nat) : kT := fun i => if 5 ≤ i ∧ i < 14 ∧ i % 2 = 1 ∧ (i - 5) / 2 < n then q ((i - 5) / 2) else k i
theorem plK_0 (k : kT) (q : Nat → Nat) : plK k q 0 = k := by
  funext i
  unfold plK
  rw [if_neg (by omega)]
theorem plK_S (k : kT) (q : Nat → Nat) {n : Nat} (h : n < 5) : plK k q (n + 1) = kU (plK k q n) (4 + 2 * n + 1) (q n) := by
  funext i
  unfold plK kU
  by_cases e : i = 4 + 2 * n + 1
  · rw [if_pos e, if_pos (by omega), show (i - 5) / 2 = n by omega]
  · rw [if_neg e]
    dsimp only
    by_cases e2 : 5 ≤ i ∧ i < 14 ∧ i % 2 = 1 ∧ (i - 5) / 2 < n
    · rw [if_pos e2, if_pos (by omega)]
    · rw [if_neg e2, if_neg (by omega)]
theorem plK_low (k : kT) (q : Nat → Nat) (n : Nat) {i : Nat} (h : i < 5 ∨ 14 ≤ i ∨ i % 2 = 0) : plK k q n i = k i := by
  unfold plK
  rw [if_neg (by omega)]
theorem plK_Pl (k : kT) (q : Nat → Nat) {n h : Nat} (h5 : h < 5) : kPl (plK k q n) h = if h < n then q h else kPl k h := by
  unfold kPl plK
  by_cases e : h < n
  · rw [if_pos e, if_pos (by omega), show (5 + 2 * h - 5) / 2 = h by omega]
  · rw [if_neg e, if_neg (by omega)]
theorem plK_St (k : kT) (q : Nat → Nat) (n h : Nat) : kSt (plK k q n) h = kSt k h := plK_low k q n (by omega)
theorem plK_Kd (k : kT) (q : Nat → Nat) (n r : Nat) : kKd (plK k q n) r = kKd k r := plK_low k q n (by omega)
theorem plK_Bt (k : kT) (q : Nat → Nat) (n r : Nat) : kBt (plK k q n) r = kBt k r := plK_low k q n (by omega)
theorem plK_Ls (k : kT) (q : Nat → Nat) (n r : Nat) : kLs (plK k q n) r = kLs k r := plK_low k q n (by omega)
theorem plK_Br (k : kT) (q : Nat → Nat) (n r : Nat) : kBr (plK k q n) r = kBr k r := plK_low k q n (by omega)
theorem KV_pl {k : kT} {q : Nat → Nat} (hV : KV k) (hq : ∀ h, h < k 1 → q h ≤ k 0) (n : Nat) : KV (plK k q n) := by
  obtain ⟨v0, v1, v2, v3, v4, v5⟩ := hV
  have l : ∀ i, i < 4 → plK k q n i = k i := fun i hi => plK_low k q n (by omega)
  unfold KV
  rw [l 0 (by decide), l 1 (by decide), l 2 (by decide), l 3 (by decide)]
  refine ⟨v0, v1, v2, v3, fun h hh => ?_, fun r hr => ?_⟩
  · rw [plK_St, plK_Pl k q (by omega)]
    refine ⟨(v4 h hh).1, ?_⟩
    by_cases e : h < n
    · rw [if_pos e]; exact hq h hh
    · rw [if_neg e]; exact (v4 h hh).2
  · rw [plK_Kd, plK_Bt, plK_Ls, plK_Br]
    exact v5 r hr
theorem RX_plId {c n : Nat} {T : jm_I2} {k : kT} {q : Nat → Nat} (h : RX c T (plK k q n)) (hn : n < 5) (e : q n = kPl k n) : RX c T (plK k q (n + 1)) := by
  have e2 : plK k q (n + 1) = plK k q n := by
    rw [plK_S k q hn]
    funext i
    unfold kU
    by_cases ei : i = 4 + 2 * n + 1
    · rw [if_pos ei, ei, e]
      unfold kPl plK
      rw [if_neg (by omega), show 4 + 2 * n + 1 = 5 + 2 * n by omega]
    · rw [if_neg ei]
  rw [e2]
  exact h
theorem RM_plId {a n : Nat} {T : jm_I2} {k : kT} {q : Nat → Nat} (h : RM a T (plK k q n)) (hn : n < 5) (e : q n = kPl k n) : RM a T (plK k q (n + 1)) := by
  intro i hi
  rw [h i hi, plK_S k q hn]
  congr 1
  unfold kU
  by_cases ei : i = 4 + 2 * n + 1
  · rw [if_pos ei, ei, e]
    unfold kPl plK
    rw [if_neg (by omega), show 4 + 2 * n + 1 = 5 + 2 * n by omega]
  · rw [if_neg ei]
def lpV (k : kT) (r s h : Nat) : Nat := if s.testBit h = true then r + 1 else if kPl k h = r + 1 then 0 else kPl k h
theorem lpV_le {k : kT} (hV : KV k) {r : Nat} (s : Nat) (hr : r < k 0) : ∀ h, h < k 1 → lpV k r s h ≤ k 0 := fun h hh => by
  have := (hV.2.2.2.2.1 h hh).2
  unfold lpV
  split
  · omega
  · split <;> omega
def hdP (k : kT) (r n s : Nat) : Bool := decide (0 < kBt (hoursA (plK k (lpV k r s) (k 1)) n) r)
section
variable {xs : Nat → Int32} {L d : Nat} {S : jm_I2} {k : kT} {Z : Option Value → jm_I2 → Prop}
theorem c_letPlay {r s : Nat} (hX : RX 83 S k) (hV : KV k) (hr : r < k 0) (hs64 : s < 64) (hZ : ∀ T, RX 83 T (plK k (lpV k r s) (k 1)) → offC 83 S T → Z none T) : CL L d 37 [.ref 83, .int (nI r), .int (nI s)] S Z := by
  have hs := camp_sh isC83
  have hl := camp_ll L isC83
  have v0 := hV.1
  have v1 := hV.2.1
  have key : ∀ i, i ≤ k 1 → ∀ T, RX 83 T (plK k (lpV k r s) i) → offC 83 S T → WQ L d 37 2 [.ref 83, .int (nI r), .int (nI s), .int (nI i)] [] T Z := by
    apply down_ind
    · intro T tX tf
      have x2 := tX.2.2.1
      rw [plK_low _ _ _ (by omega)] at x2
      rw [w37_2]
      simp (disch := omega) only [w37_3, w37_4, w37_7, w37_10, w37_11, w37_12, w37_13, w37_14, w37_15, w37_18, w37_19, w37_22, w37_23, w37_24, w37_25, w37_28, w37_29, w37_32, w37_33, w37_34, w37_35, w37_38, w37_39, w37_42, w37_43, w37_45, w37_46, w37_49, w37_52, hs, hl, ↓neg_vM, ↓neg_vB, ↓neg_vS, ↓neg_vF, ↓neg_vO, ↓neg_vA, ↓neg_vN, lit_nI, nI_leI, nI_ltI, nI_eq, jm_in_nI, nI_clamp, nI_add, n_mul, pk_sub, n_le_t, n_le_f, n_lt_t, n_lt_f, n_eq_t, n_eq_f, true_and, and_true, ne_eq, not_false_eq_true, not_true_eq_false, min_n, max_n, dif_n, n_rem, n_div, or_nI, shl_nI, Option.toList_some, Option.toList_none, List.singleton_append, List.nil_append, if_true, if_false, or_true, true_or, or_false, false_or, and_false, false_and, Bool.false_eq_true, x2]
      exact hZ T tX tf
    · intro i hi ih T tX tf
      have x2 := tX.2.2.1
      have z2 := (tX.2.2.2.2.1 i (by rw [plK_low _ _ _ (by omega)]; exact hi)).2
      rw [plK_low _ _ _ (by omega)] at x2
      rw [plK_Pl _ _ (by omega), if_neg (by omega)] at z2
      have w2 := (hV.2.2.2.2.1 i hi).2
      rw [w37_2]
      by_cases c1 : s.testBit i = true
      · have e : lpV k r s i = r + 1 := by unfold lpV; rw [if_pos c1]
        simp (disch := omega) only [w37_3, w37_4, w37_7, w37_10, w37_11, w37_12, w37_13, w37_14, w37_15, w37_18, w37_19, w37_22, w37_23, w37_24, w37_25, w37_28, w37_29, w37_32, w37_33, w37_34, w37_35, w37_38, w37_39, w37_42, w37_43, w37_45, w37_46, w37_49, w37_52, hs, hl, ↓neg_vM, ↓neg_vB, ↓neg_vS, ↓neg_vF, ↓neg_vO, ↓neg_vA, ↓neg_vN, lit_nI, nI_leI, nI_ltI, nI_eq, jm_in_nI, nI_clamp, nI_add, n_mul, pk_sub, n_le_t, n_le_f, n_lt_t, n_lt_f, n_eq_t, n_eq_f, true_and, and_true, ne_eq, not_false_eq_true, not_true_eq_false, min_n, max_n, dif_n, n_rem, n_div, or_nI, shl_nI, Option.toList_some, Option.toList_none, List.singleton_append, List.nil_append, if_true, if_false, or_true, true_or, or_false, false_or, and_false, false_and, Bool.false_eq_true, x2, shr_n5, c1]
        refine ih _ ?_ (fun o ho => by rw [upd_ne (by omega), tf o ho])
        rw [plK_S _ _ (by omega), e]
        exact RX_Pl (b := r + 1) tX (by omega) (by rw [plK_low _ _ _ (by omega)]; exact v1)
      · by_cases c2 : kPl k i = r + 1
        · have e : lpV k r s i = 0 := by unfold lpV; rw [if_neg c1, if_pos c2]
          simp (disch := omega) only [w37_3, w37_4, w37_7, w37_10, w37_11, w37_12, w37_13, w37_14, w37_15, w37_18, w37_19, w37_22, w37_23, w37_24, w37_25, w37_28, w37_29, w37_32, w37_33, w37_34, w37_35, w37_38, w37_39, w37_42, w37_43, w37_45, w37_46, w37_49, w37_52, hs, hl, ↓neg_vM, ↓neg_vB, ↓neg_vS, ↓neg_vF, ↓neg_vO, ↓neg_vA, ↓neg_vN, lit_nI, nI_leI, nI_ltI, nI_eq, jm_in_nI, nI_clamp, nI_add, n_mul, pk_sub, n_le_t, n_le_f, n_lt_t, n_lt_f, n_eq_t, n_eq_f, true_and, and_true, ne_eq, not_false_eq_true, not_true_eq_false, min_n, max_n, dif_n, n_rem, n_div, or_nI, shl_nI, Option.toList_some, Option.toList_none, List.singleton_append, List.nil_append, if_true, if_false, or_true, true_or, or_false, false_or, and_false, false_and, Bool.false_eq_true, x2, shr_n5, c1, z2, plv_eq, c2]
          refine ih _ ?_ (fun o ho => by rw [upd_ne (by omega), tf o ho])
          rw [plK_S _ _ (by omega), e]
          exact RX_Pl (b := 0) tX (by omega) (by rw [plK_low _ _ _ (by omega)]; exact v1)
        · have e : lpV k r s i = kPl k i := by unfold lpV; rw [if_neg c1, if_neg c2]
          simp (disch := omega) only [w37_3, w37_4, w37_7, w37_10, w37_11, w37_12, w37_13, w37_14, w37_15, w37_18, w37_19, w37_22, w37_23, w37_24, w37_25, w37_28, w37_29, w37_32, w37_33, w37_34, w37_35, w37_38, w37_39, w37_42, w37_43, w37_45, w37_46, w37_49, w37_52, hs, hl, ↓neg_vM, ↓neg_vB, ↓neg_vS, ↓neg_vF, ↓neg_vO, ↓neg_vA, ↓neg_vN, lit_nI, nI_leI, nI_ltI, nI_eq, jm_in_nI, nI_clamp, nI_add, n_mul, pk_sub, n_le_t, n_le_f, n_lt_t, n_lt_f, n_eq_t, n_eq_f, true_and, and_true, ne_eq, not_false_eq_true, not_true_eq_false, min_n, max_n, dif_n, n_rem, n_div, or_nI, shl_nI, Option.toList_some, Option.toList_none, List.singleton_append, List.nil_append, if_true, if_false, or_true, true_or, or_false, false_or, and_false, false_and, Bool.false_eq_true, x2, shr_n5, c1, z2, plv_eq, c2]
          exact ih _ (RX_plId tX (by omega) e) tf
  simp (disch := omega) only [cl37, w37_0, w37_1, ↓neg_vM, ↓neg_vB, ↓neg_vS, ↓neg_vF, ↓neg_vO, ↓neg_vA, ↓neg_vN, lit_nI, nI_leI, nI_ltI, nI_eq, jm_in_nI, nI_clamp, nI_add, n_mul, pk_sub, n_le_t, n_le_f, n_lt_t, n_lt_f, n_eq_t, n_eq_f, true_and, and_true, ne_eq, not_false_eq_true, not_true_eq_false, min_n, max_n, dif_n, n_rem, n_div, or_nI, shl_nI, Option.toList_some, Option.toList_none, List.singleton_append, List.nil_append, if_true, if_false, or_true, true_or, or_false, false_or, and_false, false_and, Bool.false_eq_true]
  exact key 0 (Nat.zero_le _) S (by rw [plK_0]; exact hX) (fun o _ => rfl)
theorem fh_eval {r n i : Nat} {fd : Int32} {T : jm_I2} (hX : RX 25 T k) (hV : KV k) (hk1 : 0 < k 1) (h3 : k 3 ≤ 999) (hn : n ≤ 60) (hr : r < k 0) (hi : i < 64) (hZ : ∀ T2, offC 83 T T2 → WQ L (d + 4) 36 7 [.ref 82, .ref 25, .int (nI r), .int (nI n), .int (if hdP k r n i = true then nI i else fd), .int (nI (i + 1))] [] T2 Z) : WQ L (d + 4) 36 38 [.ref 82, .ref 25, .int (nI r), .int (nI n), .int fd, .int (nI i)] [] T Z := by
  have ht := top_sh L
  have hs := camp_sh isC83
  simp (disch := omega) only [w36_38, w36_39, w36_42, w36_43, w36_46, w36_47, w36_50, w36_51, w36_53, w36_56, w36_57, w36_60, w36_61, w36_64, w36_65, w36_68, w36_69, w36_72, w36_75, w36_77, w36_80, w36_82, w36_84, w36_87, ht, hs, ↓neg_vM, ↓neg_vB, ↓neg_vS, ↓neg_vF, ↓neg_vO, ↓neg_vA, ↓neg_vN, lit_nI, nI_leI, nI_ltI, nI_eq, jm_in_nI, nI_clamp, nI_add, n_mul, pk_sub, n_le_t, n_le_f, n_lt_t, n_lt_f, n_eq_t, n_eq_f, true_and, and_true, ne_eq, not_false_eq_true, not_true_eq_false, min_n, max_n, dif_n, n_rem, n_div, or_nI, shl_nI, Option.toList_some, Option.toList_none, List.singleton_append, List.nil_append, if_true, if_false, or_true, true_or, or_false, false_or, and_false, false_and, Bool.false_eq_true]
  refine c_become isC83 isC25 (by decide) hX hV (fun T1 tX1 tf1 => ?_)
  simp (disch := omega) only [w36_38, w36_39, w36_42, w36_43, w36_46, w36_47, w36_50, w36_51, w36_53, w36_56, w36_57, w36_60, w36_61, w36_64, w36_65, w36_68, w36_69, w36_72, w36_75, w36_77, w36_80, w36_82, w36_84, w36_87, ht, hs, ↓neg_vM, ↓neg_vB, ↓neg_vS, ↓neg_vF, ↓neg_vO, ↓neg_vA, ↓neg_vN, lit_nI, nI_leI, nI_ltI, nI_eq, jm_in_nI, nI_clamp, nI_add, n_mul, pk_sub, n_le_t, n_le_f, n_lt_t, n_lt_f, n_eq_t, n_eq_f, true_and, and_true, ne_eq, not_false_eq_true, not_true_eq_false, min_n, max_n, dif_n, n_rem, n_div, or_nI, shl_nI, Option.toList_some, Option.toList_none, List.singleton_append, List.nil_append, if_true, if_false, or_true, true_or, or_false, false_or, and_false, false_and, Bool.false_eq_true]
  refine c_letPlay tX1 hV hr hi (fun T2 tX2 tf2 => ?_)
  simp (disch := omega) only [w36_38, w36_39, w36_42, w36_43, w36_46, w36_47, w36_50, w36_51, w36_53, w36_56, w36_57, w36_60, w36_61, w36_64, w36_65, w36_68, w36_69, w36_72, w36_75, w36_77, w36_80, w36_82, w36_84, w36_87, ht, hs, ↓neg_vM, ↓neg_vB, ↓neg_vS, ↓neg_vF, ↓neg_vO, ↓neg_vA, ↓neg_vN, lit_nI, nI_leI, nI_ltI, nI_eq, jm_in_nI, nI_clamp, nI_add, n_mul, pk_sub, n_le_t, n_le_f, n_lt_t, n_lt_f, n_eq_t, n_eq_f, true_and, and_true, ne_eq, not_false_eq_true, not_true_eq_false, min_n, max_n, dif_n, n_rem, n_div, or_nI, shl_nI, Option.toList_some, Option.toList_none, List.singleton_append, List.nil_append, if_true, if_false, or_true, true_or, or_false, false_or, and_false, false_and, Bool.false_eq_true]
  have hVp := KV_pl (n := k 1) hV (lpV_le hV i hr)
  have p3 : plK k (lpV k r i) (k 1) 3 = k 3 := plK_low _ _ _ (by omega)
  have p1 : plK k (lpV k r i) (k 1) 1 = k 1 := plK_low _ _ _ (by omega)
  have p0 : plK k (lpV k r i) (k 1) 0 = k 0 := plK_low _ _ _ (by omega)
  refine c_passHours isC83 tX2 hVp (by rw [p1]; exact hk1) (by rw [p3]; omega) (fun T3 tX3 tf3 => ?_)
  have hVn := KV_hours hVp n (by rw [p3]; omega)
  have hr2 : r < hoursA (plK k (lpV k r i) (k 1)) n 0 := by rw [(hoursA_low _ n).1, p0]; exact hr
  have e := hZ T3 (fun o ho => by rw [tf3 o ho, tf2 o ho, tf1 o ho])
  by_cases c : 0 < kBt (hoursA (plK k (lpV k r i) (k 1)) n) r
  · have e2 : hdP k r n i = true := by unfold hdP; simp [c]
    rw [if_pos e2] at e
    simp (disch := omega) only [w36_38, w36_39, w36_42, w36_43, w36_46, w36_47, w36_50, w36_51, w36_53, w36_56, w36_57, w36_60, w36_61, w36_64, w36_65, w36_68, w36_69, w36_72, w36_75, w36_77, w36_80, w36_82, w36_84, w36_87, ht, hs, ↓neg_vM, ↓neg_vB, ↓neg_vS, ↓neg_vF, ↓neg_vO, ↓neg_vA, ↓neg_vN, lit_nI, nI_leI, nI_ltI, nI_eq, jm_in_nI, nI_clamp, nI_add, n_mul, pk_sub, n_le_t, n_le_f, n_lt_t, n_lt_f, n_eq_t, n_eq_f, true_and, and_true, ne_eq, not_false_eq_true, not_true_eq_false, min_n, max_n, dif_n, n_rem, n_div, or_nI, shl_nI, Option.toList_some, Option.toList_none, List.singleton_append, List.nil_append, if_true, if_false, or_true, true_or, or_false, false_or, and_false, false_and, Bool.false_eq_true, c_holds isC83 tX3 hVn hr2, c]
    exact e
  · have e2 : hdP k r n i = false := by unfold hdP; simp [c]
    rw [if_neg (by rw [e2]; decide)] at e
    simp (disch := omega) only [w36_38, w36_39, w36_42, w36_43, w36_46, w36_47, w36_50, w36_51, w36_53, w36_56, w36_57, w36_60, w36_61, w36_64, w36_65, w36_68, w36_69, w36_72, w36_75, w36_77, w36_80, w36_82, w36_84, w36_87, ht, hs, ↓neg_vM, ↓neg_vB, ↓neg_vS, ↓neg_vF, ↓neg_vO, ↓neg_vA, ↓neg_vN, lit_nI, nI_leI, nI_ltI, nI_eq, jm_in_nI, nI_clamp, nI_add, n_mul, pk_sub, n_le_t, n_le_f, n_lt_t, n_lt_f, n_eq_t, n_eq_f, true_and, and_true, ne_eq, not_false_eq_true, not_true_eq_false, min_n, max_n, dif_n, n_rem, n_div, or_nI, shl_nI, Option.toList_some, Option.toList_none, List.singleton_append, List.nil_append, if_true, if_false, or_true, true_or, or_false, false_or, and_false, false_and, Bool.false_eq_true, c_holds isC83 tX3 hVn hr2, c]
    exact e
theorem c_fewestHands {r n : Nat} (hX : RX 25 S k) (hV : KV k) (hk1 : 0 < k 1) (h3 : k 3 ≤ 999) (hn : n ≤ 60) (hr : r < k 0) (hZ : ∀ T, offC 83 S T → Z (some (.int (oN (mnF (hdP k r n) (2 ^ k 1))))) T) : CL L (d + 4) 36 [.ref 82, .ref 25, .int (nI r), .int (nI n)] S Z := by
  have ht := top_sh L
  have hs := camp_sh isC25
  have v1 := hV.2.1
  have hp32 := pow_le32 v1
  have key : ∀ i, i ≤ 2 ^ k 1 → ∀ T, offC 83 S T → WQ L (d + 4) 36 7 [.ref 82, .ref 25, .int (nI r), .int (nI n), .int (oN (mnF (hdP k r n) i)), .int (nI i)] [] T Z := by
    apply down_ind
    · intro T tf
      have x2 : T 25 2 = nI (k 1) := by rw [tf 25 (by omega)]; exact hX.2.2.1
      rw [w36_7]
      simp (disch := omega) only [w36_9, w36_10, w36_11, w36_14, w36_15, w36_90, w36_92, ht, hs, ↓neg_vM, ↓neg_vB, ↓neg_vS, ↓neg_vF, ↓neg_vO, ↓neg_vA, ↓neg_vN, lit_nI, nI_leI, nI_ltI, nI_eq, jm_in_nI, nI_clamp, nI_add, n_mul, pk_sub, n_le_t, n_le_f, n_lt_t, n_lt_f, n_eq_t, n_eq_f, true_and, and_true, ne_eq, not_false_eq_true, not_true_eq_false, min_n, max_n, dif_n, n_rem, n_div, or_nI, shl_nI, Option.toList_some, Option.toList_none, List.singleton_append, List.nil_append, if_true, if_false, or_true, true_or, or_false, false_or, and_false, false_and, Bool.false_eq_true, x2]
      exact hZ T tf
    · intro i hi ih T tf
      have x2 : T 25 2 = nI (k 1) := by rw [tf 25 (by omega)]; exact hX.2.2.1
      have tX : RX 25 T k := RX_of hX (fun o h1 h2 => tf o (by omega))
      rw [w36_7]
      cases hmn : mnF (hdP k r n) i with
      | none =>
        simp (disch := omega) only [w36_9, w36_10, w36_11, w36_14, w36_15, w36_18, w36_20, w36_22, w36_25, w36_27, w36_30, w36_32, w36_35, ht, hs, ↓neg_vM, ↓neg_vB, ↓neg_vS, ↓neg_vF, ↓neg_vO, ↓neg_vA, ↓neg_vN, lit_nI, nI_leI, nI_ltI, nI_eq, jm_in_nI, nI_clamp, nI_add, n_mul, pk_sub, n_le_t, n_le_f, n_lt_t, n_lt_f, n_eq_t, n_eq_f, true_and, and_true, ne_eq, not_false_eq_true, not_true_eq_false, min_n, max_n, dif_n, n_rem, n_div, or_nI, shl_nI, Option.toList_some, Option.toList_none, List.singleton_append, List.nil_append, if_true, if_false, or_true, true_or, or_false, false_or, and_false, false_and, Bool.false_eq_true, x2, oN]
        refine fh_eval tX hV hk1 h3 hn hr (by omega) (fun T2 tf2 => ?_)
        have e := ih T2 (fun o ho => by rw [tf2 o ho, tf o ho])
        cases hok : hdP k r n i with
        | true => rw [mnF_n hok hmn] at e; exact e
        | false => rw [mnF_not hok, hmn] at e; exact e
      | some s =>
        have hsl := mnF_lt hmn
        have p1 := pop6_le i
        have p2 := pop6_le s
        by_cases c : pop6 i < pop6 s
        · simp (disch := omega) only [w36_9, w36_10, w36_11, w36_14, w36_15, w36_18, w36_20, w36_22, w36_25, w36_27, w36_30, w36_32, w36_35, ht, hs, ↓neg_vM, ↓neg_vB, ↓neg_vS, ↓neg_vF, ↓neg_vO, ↓neg_vA, ↓neg_vN, lit_nI, nI_leI, nI_ltI, nI_eq, jm_in_nI, nI_clamp, nI_add, n_mul, pk_sub, n_le_t, n_le_f, n_lt_t, n_lt_f, n_eq_t, n_eq_f, true_and, and_true, ne_eq, not_false_eq_true, not_true_eq_false, min_n, max_n, dif_n, n_rem, n_div, or_nI, shl_nI, Option.toList_some, Option.toList_none, List.singleton_append, List.nil_append, if_true, if_false, or_true, true_or, or_false, false_or, and_false, false_and, Bool.false_eq_true, x2, oN, eq_vN, c_bitCount, bcI_pop]
          refine fh_eval tX hV hk1 h3 hn hr (by omega) (fun T2 tf2 => ?_)
          have e := ih T2 (fun o ho => by rw [tf2 o ho, tf o ho])
          cases hok : hdP k r n i with
          | true => rw [mnF_s hok hmn c] at e; exact e
          | false => rw [mnF_not hok, hmn] at e; exact e
        · have e := ih T tf
          rw [mnF_b hmn c] at e
          simp (disch := omega) only [w36_9, w36_10, w36_11, w36_14, w36_15, w36_18, w36_20, w36_22, w36_25, w36_27, w36_30, w36_32, w36_35, w36_84, w36_87, ht, hs, ↓neg_vM, ↓neg_vB, ↓neg_vS, ↓neg_vF, ↓neg_vO, ↓neg_vA, ↓neg_vN, lit_nI, nI_leI, nI_ltI, nI_eq, jm_in_nI, nI_clamp, nI_add, n_mul, pk_sub, n_le_t, n_le_f, n_lt_t, n_lt_f, n_eq_t, n_eq_f, true_and, and_true, ne_eq, not_false_eq_true, not_true_eq_false, min_n, max_n, dif_n, n_rem, n_div, or_nI, shl_nI, Option.toList_some, Option.toList_none, List.singleton_append, List.nil_append, if_true, if_false, or_true, true_or, or_false, false_or, and_false, false_and, Bool.false_eq_true, x2, oN, eq_vN, c_bitCount, bcI_pop]
          exact e
  simp (disch := omega) only [cl36, w36_0, w36_2, w36_4, w36_5, ↓neg_vM, ↓neg_vB, ↓neg_vS, ↓neg_vF, ↓neg_vO, ↓neg_vA, ↓neg_vN, lit_nI, nI_leI, nI_ltI, nI_eq, jm_in_nI, nI_clamp, nI_add, n_mul, pk_sub, n_le_t, n_le_f, n_lt_t, n_lt_f, n_eq_t, n_eq_f, true_and, and_true, ne_eq, not_false_eq_true, not_true_eq_false, min_n, max_n, dif_n, n_rem, n_div, or_nI, shl_nI, Option.toList_some, Option.toList_none, List.singleton_append, List.nil_append, if_true, if_false, or_true, true_or, or_false, false_or, and_false, false_and, Bool.false_eq_true]
  exact key 0 (Nat.zero_le _) S (fun o _ => rfl)
theorem rh_eval {r n w i : Nat} {fd : Int32} {u : Value} {T : jm_I2} (hM : RM 132 T k) (hV : KV k) (h3 : k 3 ≤ 999) (hn : n ≤ 60) (hr : r < k 0) (hi : i < 64) (hZ : ∀ T2 u, (∀ o, o ≠ 134 → o ≠ 137 → o ≠ 138 → T2 o = T o) → WQ L (d + 9) 188 45 [.ref 128, .int (nI r), .int (nI n), .int (nI w), .int (if hdP k r n i = true then nI i else fd), .int (nI (i + 1)), u] [] T2 Z) : WQ L (d + 9) 188 78 [.ref 128, .int (nI r), .int (nI n), .int (nI w), .int fd, .int (nI i), u] [] T Z := by
  have hm := mod_sh L
  have v0 := hV.1
  have v1 := hV.2.1
  have p3 : plK k (lpV k r i) (k 1) 3 = k 3 := plK_low _ _ _ (by omega)
  have p0 : plK k (lpV k r i) (k 1) 0 = k 0 := plK_low _ _ _ (by omega)
  have hVp := KV_pl (n := k 1) hV (lpV_le hV i hr)
  simp (disch := omega) only [w188_78, w188_79, w188_82, w188_83, hm, ↓neg_vM, ↓neg_vB, ↓neg_vS, ↓neg_vF, ↓neg_vO, ↓neg_vA, ↓neg_vN, lit_nI, nI_leI, nI_ltI, nI_eq, jm_in_nI, nI_clamp, nI_add, n_mul, pk_sub, n_le_t, n_le_f, n_lt_t, n_lt_f, n_eq_t, n_eq_f, true_and, and_true, ne_eq, not_false_eq_true, not_true_eq_false, min_n, max_n, dif_n, n_rem, n_div, or_nI, shl_nI, Option.toList_some, Option.toList_none, List.singleton_append, List.nil_append, if_true, if_false, or_true, true_or, or_false, false_or, and_false, false_and, Bool.false_eq_true, r_layThen hM]
  have key : ∀ h, h ≤ k 1 → ∀ T1, RM 134 T1 (plK k (lpV k r i) h) → (∀ o, o ≠ 134 → T1 o = T o) → WQ L (d + 9) 188 85 [.ref 128, .int (nI r), .int (nI n), .int (nI w), .int fd, .int (nI i), .int (nI h)] [] T1 Z := by
    apply down_ind
    · intro T1 tM tf
      have e1 : T1 132 1 = nI (k 1) := by rw [tf 132 (by decide)]; exact hM 1 (by decide)
      rw [w188_85]
      simp (disch := omega) only [w188_87, w188_88, w188_91, w188_92, w188_93, w188_149, w188_150, w188_151, w188_154, w188_155, hm, ↓neg_vM, ↓neg_vB, ↓neg_vS, ↓neg_vF, ↓neg_vO, ↓neg_vA, ↓neg_vN, lit_nI, nI_leI, nI_ltI, nI_eq, jm_in_nI, nI_clamp, nI_add, n_mul, pk_sub, n_le_t, n_le_f, n_lt_t, n_lt_f, n_eq_t, n_eq_f, true_and, and_true, ne_eq, not_false_eq_true, not_true_eq_false, min_n, max_n, dif_n, n_rem, n_div, or_nI, shl_nI, Option.toList_some, Option.toList_none, List.singleton_append, List.nil_append, if_true, if_false, or_true, true_or, or_false, false_or, and_false, false_and, Bool.false_eq_true, e1]
      refine r_hoursOf isR134 tM hVp (by rw [p3]; omega) (fun U uM uf => ?_)
      have e := fun u => hZ U u (fun o h1 h2 h3 => by rw [uf o h1 h2 h3, tf o h1])
      have hVn := KV_hours hVp n (by rw [p3]; omega)
      have b3 := (hVn.2.2.2.2.2 r (by rw [(hoursA_low _ n).1, p0]; exact hr)).2.2.1
      by_cases c : 0 < kBt (hoursA (plK k (lpV k r i) (k 1)) n) r
      · have e2 : hdP k r n i = true := by unfold hdP; simp [c]
        rw [if_pos e2] at e
        simp (disch := omega) only [w188_149, w188_150, w188_151, w188_154, w188_155, w188_158, w188_159, w188_162, w188_163, w188_164, w188_167, w188_170, w188_172, w188_175, w188_177, w188_179, w188_182, hm, ↓neg_vM, ↓neg_vB, ↓neg_vS, ↓neg_vF, ↓neg_vO, ↓neg_vA, ↓neg_vN, lit_nI, nI_leI, nI_ltI, nI_eq, jm_in_nI, nI_clamp, nI_add, n_mul, pk_sub, n_le_t, n_le_f, n_lt_t, n_lt_f, n_eq_t, n_eq_f, true_and, and_true, ne_eq, not_false_eq_true, not_true_eq_false, min_n, max_n, dif_n, n_rem, n_div, or_nI, shl_nI, Option.toList_some, Option.toList_none, List.singleton_append, List.nil_append, if_true, if_false, or_true, true_or, or_false, false_or, and_false, false_and, Bool.false_eq_true, r_of1 isR134 uM]
        exact e _
      · have e2 : hdP k r n i = false := by unfold hdP; simp [c]
        rw [if_neg (by rw [e2]; decide)] at e
        simp (disch := omega) only [w188_149, w188_150, w188_151, w188_154, w188_155, w188_158, w188_159, w188_162, w188_163, w188_164, w188_167, w188_170, w188_172, w188_175, w188_177, w188_179, w188_182, hm, ↓neg_vM, ↓neg_vB, ↓neg_vS, ↓neg_vF, ↓neg_vO, ↓neg_vA, ↓neg_vN, lit_nI, nI_leI, nI_ltI, nI_eq, jm_in_nI, nI_clamp, nI_add, n_mul, pk_sub, n_le_t, n_le_f, n_lt_t, n_lt_f, n_eq_t, n_eq_f, true_and, and_true, ne_eq, not_false_eq_true, not_true_eq_false, min_n, max_n, dif_n, n_rem, n_div, or_nI, shl_nI, Option.toList_some, Option.toList_none, List.singleton_append, List.nil_append, if_true, if_false, or_true, true_or, or_false, false_or, and_false, false_and, Bool.false_eq_true, r_of1 isR134 uM]
        exact e _
    · intro h hh ih T1 tM tf
      have e1 : T1 132 1 = nI (k 1) := by rw [tf 132 (by decide)]; exact hM 1 (by decide)
      have tM2 : RM 132 T1 k := RM_of hM (tf 132 (by decide))
      have w2 := (hV.2.2.2.2.1 h hh).2
      rw [w188_85]
      by_cases c1 : i.testBit h = true
      · have e : lpV k r i h = r + 1 := by unfold lpV; rw [if_pos c1]
        simp (disch := omega) only [w188_87, w188_88, w188_91, w188_92, w188_93, w188_96, w188_98, w188_100, w188_103, w188_106, w188_107, w188_110, w188_112, w188_113, w188_116, w188_119, w188_120, w188_123, w188_125, w188_128, w188_129, w188_132, w188_133, w188_136, w188_138, w188_140, w188_143, w188_146, hm, ↓neg_vM, ↓neg_vB, ↓neg_vS, ↓neg_vF, ↓neg_vO, ↓neg_vA, ↓neg_vN, lit_nI, nI_leI, nI_ltI, nI_eq, jm_in_nI, nI_clamp, nI_add, n_mul, pk_sub, n_le_t, n_le_f, n_lt_t, n_lt_f, n_eq_t, n_eq_f, true_and, and_true, ne_eq, not_false_eq_true, not_true_eq_false, min_n, max_n, dif_n, n_rem, n_div, or_nI, shl_nI, Option.toList_some, Option.toList_none, List.singleton_append, List.nil_append, if_true, if_false, or_true, true_or, or_false, false_or, and_false, false_and, Bool.false_eq_true, e1, r_has, c1, r_plays isR134]
        refine ih _ ?_ (fun o ho => by rw [upd_ne ho, tf o ho])
        rw [plK_S _ _ (by omega), e]
        exact RM_upd tM
      · by_cases c2 : kPl k h = r + 1
        · have e : lpV k r i h = 0 := by unfold lpV; rw [if_neg c1, if_pos c2]
          simp (disch := omega) only [w188_87, w188_88, w188_91, w188_92, w188_93, w188_96, w188_98, w188_100, w188_103, w188_106, w188_107, w188_110, w188_112, w188_113, w188_116, w188_119, w188_120, w188_123, w188_125, w188_128, w188_129, w188_132, w188_133, w188_136, w188_138, w188_140, w188_143, w188_146, hm, ↓neg_vM, ↓neg_vB, ↓neg_vS, ↓neg_vF, ↓neg_vO, ↓neg_vA, ↓neg_vN, lit_nI, nI_leI, nI_ltI, nI_eq, jm_in_nI, nI_clamp, nI_add, n_mul, pk_sub, n_le_t, n_le_f, n_lt_t, n_lt_f, n_eq_t, n_eq_f, true_and, and_true, ne_eq, not_false_eq_true, not_true_eq_false, min_n, max_n, dif_n, n_rem, n_div, or_nI, shl_nI, Option.toList_some, Option.toList_none, List.singleton_append, List.nil_append, if_true, if_false, or_true, true_or, or_false, false_or, and_false, false_and, Bool.false_eq_true, e1, r_has, c1, r_playsOf isR132 tM2, plv_eq, c2, r_playsN isR134]
          refine ih _ ?_ (fun o ho => by rw [upd_ne ho, tf o ho])
          rw [plK_S _ _ (by omega), e]
          exact RM_upd tM
        · have e : lpV k r i h = kPl k h := by unfold lpV; rw [if_neg c1, if_neg c2]
          simp (disch := omega) only [w188_87, w188_88, w188_91, w188_92, w188_93, w188_96, w188_98, w188_100, w188_103, w188_106, w188_107, w188_110, w188_112, w188_113, w188_116, w188_119, w188_120, w188_123, w188_125, w188_128, w188_129, w188_132, w188_133, w188_136, w188_138, w188_140, w188_143, w188_146, hm, ↓neg_vM, ↓neg_vB, ↓neg_vS, ↓neg_vF, ↓neg_vO, ↓neg_vA, ↓neg_vN, lit_nI, nI_leI, nI_ltI, nI_eq, jm_in_nI, nI_clamp, nI_add, n_mul, pk_sub, n_le_t, n_le_f, n_lt_t, n_lt_f, n_eq_t, n_eq_f, true_and, and_true, ne_eq, not_false_eq_true, not_true_eq_false, min_n, max_n, dif_n, n_rem, n_div, or_nI, shl_nI, Option.toList_some, Option.toList_none, List.singleton_append, List.nil_append, if_true, if_false, or_true, true_or, or_false, false_or, and_false, false_and, Bool.false_eq_true, e1, r_has, c1, r_playsOf isR132 tM2, plv_eq, c2]
          exact ih _ (RM_plId tM (by omega) e) tf
  exact key 0 (Nat.zero_le _) _ (by rw [plK_0]; exact RM_fill) (fun o ho => fillS_ne ho)
theorem r_hands {r n w : Nat} {T : jm_I2} (hM : RM 132 T k) (hV : KV k) (h3 : k 3 ≤ 999) (hn : n ≤ 60) (hr : r < k 0) (hw : w ≤ 1) (hZ : ∀ T2, (∀ o, o ≠ 134 → o ≠ 137 → o ≠ 138 → T2 o = T o) → Z (some (.int (fwV (mnF (hdP k r n) (2 ^ k 1)) w))) T2) : WQ L (d + 9) 188 38 [.ref 128, .int (nI r), .int (nI n), .int (nI w), .null, .null, .null] [] T Z := by
  have hm := mod_sh L
  have v1 := hV.2.1
  have hp32 := pow_le32 v1
  have key : ∀ i, i ≤ 2 ^ k 1 → ∀ T1 u, (∀ o, o ≠ 134 → o ≠ 137 → o ≠ 138 → T1 o = T o) → WQ L (d + 9) 188 45 [.ref 128, .int (nI r), .int (nI n), .int (nI w), .int (oN (mnF (hdP k r n) i)), .int (nI i), u] [] T1 Z := by
    apply down_ind
    · intro T1 u tf
      have e1 : T1 132 1 = nI (k 1) := by rw [tf 132 (by decide) (by decide) (by decide)]; exact hM 1 (by decide)
      have e := hZ T1 tf
      rw [w188_45]
      cases hmn : mnF (hdP k r n) (2 ^ k 1) with
      | none =>
        rw [hmn] at e
        simp (disch := omega) only [w188_47, w188_48, w188_49, w188_52, w188_53, w188_54, w188_55, w188_185, w188_187, w188_189, w188_192, w188_193, w188_194, w188_197, w188_199, w188_202, w188_204, w188_207, hm, ↓neg_vM, ↓neg_vB, ↓neg_vS, ↓neg_vF, ↓neg_vO, ↓neg_vA, ↓neg_vN, lit_nI, nI_leI, nI_ltI, nI_eq, jm_in_nI, nI_clamp, nI_add, n_mul, pk_sub, n_le_t, n_le_f, n_lt_t, n_lt_f, n_eq_t, n_eq_f, true_and, and_true, ne_eq, not_false_eq_true, not_true_eq_false, min_n, max_n, dif_n, n_rem, n_div, or_nI, shl_nI, Option.toList_some, Option.toList_none, List.singleton_append, List.nil_append, if_true, if_false, or_true, true_or, or_false, false_or, and_false, false_and, Bool.false_eq_true, e1, oN]
        exact e
      | some s =>
        rw [hmn] at e
        have hsl := mnF_lt hmn
        change Z (some (.int (if w = 0 then nI (pop6 s) else nI s))) T1 at e
        by_cases c : w = 0
        · rw [if_pos c] at e
          simp (disch := omega) only [w188_47, w188_48, w188_49, w188_52, w188_53, w188_54, w188_55, w188_185, w188_187, w188_189, w188_192, w188_193, w188_194, w188_197, w188_199, w188_202, w188_204, w188_207, hm, ↓neg_vM, ↓neg_vB, ↓neg_vS, ↓neg_vF, ↓neg_vO, ↓neg_vA, ↓neg_vN, lit_nI, nI_leI, nI_ltI, nI_eq, jm_in_nI, nI_clamp, nI_add, n_mul, pk_sub, n_le_t, n_le_f, n_lt_t, n_lt_f, n_eq_t, n_eq_f, true_and, and_true, ne_eq, not_false_eq_true, not_true_eq_false, min_n, max_n, dif_n, n_rem, n_div, or_nI, shl_nI, Option.toList_some, Option.toList_none, List.singleton_append, List.nil_append, if_true, if_false, or_true, true_or, or_false, false_or, and_false, false_and, Bool.false_eq_true, e1, oN, eq_vN, r_bits, c]
          exact e
        · rw [if_neg c] at e
          simp (disch := omega) only [w188_47, w188_48, w188_49, w188_52, w188_53, w188_54, w188_55, w188_185, w188_187, w188_189, w188_192, w188_193, w188_194, w188_197, w188_199, w188_202, w188_204, w188_207, hm, ↓neg_vM, ↓neg_vB, ↓neg_vS, ↓neg_vF, ↓neg_vO, ↓neg_vA, ↓neg_vN, lit_nI, nI_leI, nI_ltI, nI_eq, jm_in_nI, nI_clamp, nI_add, n_mul, pk_sub, n_le_t, n_le_f, n_lt_t, n_lt_f, n_eq_t, n_eq_f, true_and, and_true, ne_eq, not_false_eq_true, not_true_eq_false, min_n, max_n, dif_n, n_rem, n_div, or_nI, shl_nI, Option.toList_some, Option.toList_none, List.singleton_append, List.nil_append, if_true, if_false, or_true, true_or, or_false, false_or, and_false, false_and, Bool.false_eq_true, e1, oN, eq_vN, show w = 1 by omega]
          exact e
    · intro i hi ih T1 u tf
      have e1 : T1 132 1 = nI (k 1) := by rw [tf 132 (by decide) (by decide) (by decide)]; exact hM 1 (by decide)
      have tM : RM 132 T1 k := RM_of hM (tf 132 (by decide) (by decide) (by decide))
      rw [w188_45]
      cases hmn : mnF (hdP k r n) i with
      | none =>
        simp (disch := omega) only [w188_47, w188_48, w188_49, w188_52, w188_53, w188_54, w188_55, w188_58, w188_60, w188_62, w188_65, w188_67, w188_70, w188_72, w188_75, hm, ↓neg_vM, ↓neg_vB, ↓neg_vS, ↓neg_vF, ↓neg_vO, ↓neg_vA, ↓neg_vN, lit_nI, nI_leI, nI_ltI, nI_eq, jm_in_nI, nI_clamp, nI_add, n_mul, pk_sub, n_le_t, n_le_f, n_lt_t, n_lt_f, n_eq_t, n_eq_f, true_and, and_true, ne_eq, not_false_eq_true, not_true_eq_false, min_n, max_n, dif_n, n_rem, n_div, or_nI, shl_nI, Option.toList_some, Option.toList_none, List.singleton_append, List.nil_append, if_true, if_false, or_true, true_or, or_false, false_or, and_false, false_and, Bool.false_eq_true, e1, oN]
        refine rh_eval tM hV h3 hn hr (by omega) (fun T2 u2 tf2 => ?_)
        have e := ih T2 u2 (fun o a b c => by rw [tf2 o a b c, tf o a b c])
        cases hok : hdP k r n i with
        | true => rw [mnF_n hok hmn] at e; exact e
        | false => rw [mnF_not hok, hmn] at e; exact e
      | some s =>
        have hsl := mnF_lt hmn
        have p1 := pop6_le i
        have p2 := pop6_le s
        by_cases c : pop6 i < pop6 s
        · simp (disch := omega) only [w188_47, w188_48, w188_49, w188_52, w188_53, w188_54, w188_55, w188_58, w188_60, w188_62, w188_65, w188_67, w188_70, w188_72, w188_75, hm, ↓neg_vM, ↓neg_vB, ↓neg_vS, ↓neg_vF, ↓neg_vO, ↓neg_vA, ↓neg_vN, lit_nI, nI_leI, nI_ltI, nI_eq, jm_in_nI, nI_clamp, nI_add, n_mul, pk_sub, n_le_t, n_le_f, n_lt_t, n_lt_f, n_eq_t, n_eq_f, true_and, and_true, ne_eq, not_false_eq_true, not_true_eq_false, min_n, max_n, dif_n, n_rem, n_div, or_nI, shl_nI, Option.toList_some, Option.toList_none, List.singleton_append, List.nil_append, if_true, if_false, or_true, true_or, or_false, false_or, and_false, false_and, Bool.false_eq_true, e1, oN, eq_vN, r_bits]
          refine rh_eval tM hV h3 hn hr (by omega) (fun T2 u2 tf2 => ?_)
          have e := ih T2 u2 (fun o a b c => by rw [tf2 o a b c, tf o a b c])
          cases hok : hdP k r n i with
          | true => rw [mnF_s hok hmn c] at e; exact e
          | false => rw [mnF_not hok, hmn] at e; exact e
        · have e := ih T1 u tf
          rw [mnF_b hmn c] at e
          simp (disch := omega) only [w188_47, w188_48, w188_49, w188_52, w188_53, w188_54, w188_55, w188_58, w188_60, w188_62, w188_65, w188_67, w188_70, w188_72, w188_75, w188_179, w188_182, hm, ↓neg_vM, ↓neg_vB, ↓neg_vS, ↓neg_vF, ↓neg_vO, ↓neg_vA, ↓neg_vN, lit_nI, nI_leI, nI_ltI, nI_eq, jm_in_nI, nI_clamp, nI_add, n_mul, pk_sub, n_le_t, n_le_f, n_lt_t, n_lt_f, n_eq_t, n_eq_f, true_and, and_true, ne_eq, not_false_eq_true, not_true_eq_false, min_n, max_n, dif_n, n_rem, n_div, or_nI, shl_nI, Option.toList_some, Option.toList_none, List.singleton_append, List.nil_append, if_true, if_false, or_true, true_or, or_false, false_or, and_false, false_and, Bool.false_eq_true, e1, oN, eq_vN, r_bits]
          exact e
  simp (disch := omega) only [w188_38, w188_40, w188_42, w188_43, ↓neg_vM, ↓neg_vB, ↓neg_vS, ↓neg_vF, ↓neg_vO, ↓neg_vA, ↓neg_vN, lit_nI, nI_leI, nI_ltI, nI_eq, jm_in_nI, nI_clamp, nI_add, n_mul, pk_sub, n_le_t, n_le_f, n_lt_t, n_lt_f, n_eq_t, n_eq_f, true_and, and_true, ne_eq, not_false_eq_true, not_true_eq_false, min_n, max_n, dif_n, n_rem, n_div, or_nI, shl_nI, Option.toList_some, Option.toList_none, List.singleton_append, List.nil_append, if_true, if_false, or_true, true_or, or_false, false_or, and_false, false_and, Bool.false_eq_true]
  exact key 0 (Nat.zero_le _) T _ (fun o _ _ _ => rfl)
theorem p_hands {v w b : Int32} (hI : InvK xs S k) : CL L (d + 9) 99 [.ref 0, .int v, .int w, .int b] S (Zx xs L (d + 9) 188 [.ref 128, .int v, .int w, .int b]) := by
  have ht := top_sh L
  have hm := mod_sh L
  obtain ⟨hX, hM, hV, h999, h01⟩ := hI.2.2.2.1
  have hM4 : RM 132 (jm_upd S 128 0 (nI 0)) k := RM_of hM (upd_ne (by decide))
  have v0 := hV.1
  have v1 := hV.2.1
  have hp32 := pow_le32 v1
  by_cases h : isN v (k 0) = true
  · by_cases h2 : nI 1 ≤ w ∧ w ≤ nI 30
    · by_cases h3 : nI 0 ≤ b ∧ b ≤ nI 1
      · obtain ⟨r, hr, rfl⟩ := isN_of (by omega) h
        obtain ⟨n, hn1, hn, rfl⟩ := btw (by decide) h2 (by decide)
        obtain ⟨c, -, hc, rfl⟩ := btw (by decide) h3 (by decide)
        clear h2 h3
        have hlt : ∀ s, mnF (hdP k r n) (2 ^ k 1) = some s → s < 64 := fun s q => by
          have := mnF_lt q
          omega
        simp (disch := omega) only [cl99, w99_0, w99_1, w99_2, w99_5, w99_8, w99_9, w99_10, w99_12, w99_15, w99_18, w99_19, w99_20, w99_21, w99_24, w99_27, w99_29, w99_30, w99_31, w99_34, w99_35, w99_38, w99_39, w99_40, w99_43, w99_44, w99_47, ht, ↓neg_vM, ↓neg_vB, ↓neg_vS, ↓neg_vF, ↓neg_vO, ↓neg_vA, ↓neg_vN, lit_nI, nI_leI, nI_ltI, nI_eq, jm_in_nI, nI_clamp, nI_add, n_mul, pk_sub, n_le_t, n_le_f, n_lt_t, n_lt_f, n_eq_t, n_eq_f, true_and, and_true, ne_eq, not_false_eq_true, not_true_eq_false, min_n, max_n, dif_n, n_rem, n_div, or_nI, shl_nI, Option.toList_some, Option.toList_none, List.singleton_append, List.nil_append, if_true, if_false, or_true, true_or, or_false, false_or, and_false, false_and, Bool.false_eq_true, c_noRule hX hV, h, c_withinP]
        refine c_fewestHands hX hV (h01 (by omega)) h999 (show n ≤ 60 by omega) hr (fun T tf => ?_)
        simp (disch := omega) only [cl99, w99_0, w99_1, w99_2, w99_5, w99_8, w99_9, w99_10, w99_12, w99_15, w99_18, w99_19, w99_20, w99_21, w99_24, w99_27, w99_29, w99_30, w99_31, w99_34, w99_35, w99_38, w99_39, w99_40, w99_43, w99_44, w99_47, ht, ↓neg_vM, ↓neg_vB, ↓neg_vS, ↓neg_vF, ↓neg_vO, ↓neg_vA, ↓neg_vN, lit_nI, nI_leI, nI_ltI, nI_eq, jm_in_nI, nI_clamp, nI_add, n_mul, pk_sub, n_le_t, n_le_f, n_lt_t, n_lt_f, n_eq_t, n_eq_f, true_and, and_true, ne_eq, not_false_eq_true, not_true_eq_false, min_n, max_n, dif_n, n_rem, n_div, or_nI, shl_nI, Option.toList_some, Option.toList_none, List.singleton_append, List.nil_append, if_true, if_false, or_true, true_or, or_false, false_or, and_false, false_and, Bool.false_eq_true, c_fewest hlt hc, Zx_some]
        have hM5 : RM 132 (jm_upd T 128 0 (nI 0)) k := RM_of hM (by rw [upd_ne (by decide), tf _ (by decide)])
        simp (disch := omega) only [w188_0, w188_1, w188_2, w188_5, w188_6, w188_7, w188_10, w188_13, w188_14, w188_15, w188_16, w188_19, w188_22, w188_25, w188_26, w188_27, w188_28, w188_29, w188_32, w188_35, w188_37, cl188, hm, ↓neg_vM, ↓neg_vB, ↓neg_vS, ↓neg_vF, ↓neg_vO, ↓neg_vA, ↓neg_vN, lit_nI, nI_leI, nI_ltI, nI_eq, jm_in_nI, nI_clamp, nI_add, n_mul, pk_sub, n_le_t, n_le_f, n_lt_t, n_lt_f, n_eq_t, n_eq_f, true_and, and_true, ne_eq, not_false_eq_true, not_true_eq_false, min_n, max_n, dif_n, n_rem, n_div, or_nI, shl_nI, Option.toList_some, Option.toList_none, List.singleton_append, List.nil_append, if_true, if_false, or_true, true_or, or_false, false_or, and_false, false_and, Bool.false_eq_true, r_isRule hM5 v0, h, lit_lN, nI_l, r_in, lN_le]
        refine r_hands hM5 hV h999 (by omega) hr hc (fun U uf => ?_)
        rw [Zm_some]
        refine ⟨rfl, k, InvK_same hI (Same_q (fun o ho h1 => ?_) (fun i hi => ?_))⟩
        · unfold scr at ho
          rw [uf o (by omega) (by omega) (by omega), upd_ne h1, tf o (by omega)]
        · rw [uf 128 (by omega) (by omega) (by omega), upd_at, if_neg (fun q => hi q.2), tf 128 (by omega)]
      · simp (disch := omega) only [w99_0, w99_1, w99_2, w99_5, w99_8, w99_9, w99_10, w99_12, w99_15, w99_18, w99_19, w99_20, w99_21, w99_24, w99_27, w99_29, cl99, ht, ↓neg_vM, ↓neg_vB, ↓neg_vS, ↓neg_vF, ↓neg_vO, ↓neg_vA, ↓neg_vN, lit_nI, nI_leI, nI_ltI, nI_eq, jm_in_nI, nI_clamp, nI_add, n_mul, pk_sub, n_le_t, n_le_f, n_lt_t, n_lt_f, n_eq_t, n_eq_f, true_and, and_true, ne_eq, not_false_eq_true, not_true_eq_false, min_n, max_n, dif_n, n_rem, n_div, or_nI, shl_nI, Option.toList_some, Option.toList_none, List.singleton_append, List.nil_append, if_true, if_false, or_true, true_or, or_false, false_or, and_false, false_and, Bool.false_eq_true, Zx_some, c_noRule hX hV, h, c_withinP, h2, h3]
        simp (disch := omega) only [w188_0, w188_1, w188_2, w188_5, w188_6, w188_7, w188_10, w188_13, w188_14, w188_15, w188_16, w188_19, w188_22, w188_25, w188_26, w188_27, w188_28, w188_29, w188_32, w188_35, w188_37, cl188, hm, ↓neg_vM, ↓neg_vB, ↓neg_vS, ↓neg_vF, ↓neg_vO, ↓neg_vA, ↓neg_vN, lit_nI, nI_leI, nI_ltI, nI_eq, jm_in_nI, nI_clamp, nI_add, n_mul, pk_sub, n_le_t, n_le_f, n_lt_t, n_lt_f, n_eq_t, n_eq_f, true_and, and_true, ne_eq, not_false_eq_true, not_true_eq_false, min_n, max_n, dif_n, n_rem, n_div, or_nI, shl_nI, Option.toList_some, Option.toList_none, List.singleton_append, List.nil_append, if_true, if_false, or_true, true_or, or_false, false_or, and_false, false_and, Bool.false_eq_true, Zm_some, r_isRule hM4 v0, h, lit_lN, r_in, lx_le, xl_le, h2, h3]
        exact ⟨k, InvK_same hI Same_thrown⟩
    · simp (disch := omega) only [w99_0, w99_1, w99_2, w99_5, w99_8, w99_9, w99_10, w99_12, w99_15, w99_18, w99_19, w99_20, w99_21, w99_24, w99_27, w99_29, cl99, ht, ↓neg_vM, ↓neg_vB, ↓neg_vS, ↓neg_vF, ↓neg_vO, ↓neg_vA, ↓neg_vN, lit_nI, nI_leI, nI_ltI, nI_eq, jm_in_nI, nI_clamp, nI_add, n_mul, pk_sub, n_le_t, n_le_f, n_lt_t, n_lt_f, n_eq_t, n_eq_f, true_and, and_true, ne_eq, not_false_eq_true, not_true_eq_false, min_n, max_n, dif_n, n_rem, n_div, or_nI, shl_nI, Option.toList_some, Option.toList_none, List.singleton_append, List.nil_append, if_true, if_false, or_true, true_or, or_false, false_or, and_false, false_and, Bool.false_eq_true, Zx_some, c_noRule hX hV, h, c_withinP, h2]
      simp (disch := omega) only [w188_0, w188_1, w188_2, w188_5, w188_6, w188_7, w188_10, w188_13, w188_14, w188_15, w188_16, w188_19, w188_22, w188_25, w188_26, w188_27, w188_28, w188_29, w188_32, w188_35, w188_37, cl188, hm, ↓neg_vM, ↓neg_vB, ↓neg_vS, ↓neg_vF, ↓neg_vO, ↓neg_vA, ↓neg_vN, lit_nI, nI_leI, nI_ltI, nI_eq, jm_in_nI, nI_clamp, nI_add, n_mul, pk_sub, n_le_t, n_le_f, n_lt_t, n_lt_f, n_eq_t, n_eq_f, true_and, and_true, ne_eq, not_false_eq_true, not_true_eq_false, min_n, max_n, dif_n, n_rem, n_div, or_nI, shl_nI, Option.toList_some, Option.toList_none, List.singleton_append, List.nil_append, if_true, if_false, or_true, true_or, or_false, false_or, and_false, false_and, Bool.false_eq_true, Zm_some, r_isRule hM4 v0, h, lit_lN, r_in, lx_le, xl_le, h2]
      exact ⟨k, InvK_same hI Same_thrown⟩
  · simp (disch := omega) only [w99_0, w99_1, w99_2, w99_5, w99_8, w99_9, w99_10, w99_12, w99_15, w99_18, w99_19, w99_20, w99_21, w99_24, w99_27, w99_29, cl99, ht, ↓neg_vM, ↓neg_vB, ↓neg_vS, ↓neg_vF, ↓neg_vO, ↓neg_vA, ↓neg_vN, lit_nI, nI_leI, nI_ltI, nI_eq, jm_in_nI, nI_clamp, nI_add, n_mul, pk_sub, n_le_t, n_le_f, n_lt_t, n_lt_f, n_eq_t, n_eq_f, true_and, and_true, ne_eq, not_false_eq_true, not_true_eq_false, min_n, max_n, dif_n, n_rem, n_div, or_nI, shl_nI, Option.toList_some, Option.toList_none, List.singleton_append, List.nil_append, if_true, if_false, or_true, true_or, or_false, false_or, and_false, false_and, Bool.false_eq_true, Zx_some, c_noRule hX hV, h]
    simp (disch := omega) only [w188_0, w188_1, w188_2, w188_5, w188_6, w188_7, w188_10, w188_13, w188_14, w188_15, w188_16, w188_19, w188_22, w188_25, w188_26, w188_27, w188_28, w188_29, w188_32, w188_35, w188_37, cl188, hm, ↓neg_vM, ↓neg_vB, ↓neg_vS, ↓neg_vF, ↓neg_vO, ↓neg_vA, ↓neg_vN, lit_nI, nI_leI, nI_ltI, nI_eq, jm_in_nI, nI_clamp, nI_add, n_mul, pk_sub, n_le_t, n_le_f, n_lt_t, n_lt_f, n_eq_t, n_eq_f, true_and, and_true, ne_eq, not_false_eq_true, not_true_eq_false, min_n, max_n, dif_n, n_rem, n_div, or_nI, shl_nI, Option.toList_some, Option.toList_none, List.singleton_append, List.nil_append, if_true, if_false, or_true, true_or, or_false, false_or, and_false, false_and, Bool.false_eq_true, Zm_some, r_isRule hM4 v0, h]
    exact ⟨k, InvK_same hI Same_thrown⟩
end
