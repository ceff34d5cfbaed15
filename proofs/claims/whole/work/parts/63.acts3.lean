def acN (n : Nat) : Nat → Nat
  | 0 => n
  | i + 1 => pN (acN n i)
def acX (nx : Nat) : Nat → Nat
  | 0 => nx
  | i + 1 => (acX nx i + 1) % 24
def acF (n : Nat) (f : Nat → kT) (k : kT) : Nat → (Nat → kT)
  | 0 => f
  | i + 1 => pF (acN n i) (acF n f k i) (hoursA k i)
theorem acX_lt {nx : Nat} (h : nx < 24) : ∀ i, acX nx i < 24
  | 0 => h
  | i + 1 => Nat.mod_lt _ (by decide)
theorem KG_hours {k : kT} (hG : KG k) {n : Nat} (h : k 3 + n ≤ 999) : KG (hoursA k n) := by
  obtain ⟨a0, a1, a2, a3⟩ := hoursA_low k n
  exact ⟨KV_hours hG.1 n (by omega), by rw [a3]; exact h, by rw [a0, a1]; exact hG.2.2⟩
theorem HA_hours {n : Nat} {f : Nat → kT} {k : kT} (hH : HA n f k) (hG : KG k) : ∀ i, k 3 + i ≤ 999 → HA (acN n i) (acF n f k i) (hoursA k i)
  | 0, _ => hH
  | i + 1, h => HA_same (HA_push (HA_hours hH hG i (by omega)) (KG_hours hG (by omega))) (sameK_H _)
section
variable {xs : Nat → Int32} {L d : Nat} {S : jm_I2} {k : kT} {Z : Option Value → jm_I2 → Prop}
theorem p_soup {v w : Int32} (hI : InvK xs S k) : CL L (d + 9) 89 [.ref 0, .int v, .int w] S (Zx xs L (d + 9) 177 [.ref 128, .int v, .int w]) := by
  have ht := top_sh L
  have hm := mod_sh L
  obtain ⟨hX, hM, hG⟩ := hI.2.2.2.1
  have hV := hG.1
  have hs := camp_sh isC25
  have hl := camp_ll L isC25
  have hM4 : RM 132 (jm_upd S 128 0 (nI 0)) k := RM_of hM (upd_ne (by decide))
  have v0 := hV.1
  have v1 := hV.2.1
  by_cases h : isN v (k 1) = true
  · by_cases h2 : nI 1 ≤ w ∧ w ≤ nI 20
    · obtain ⟨r, hr, rfl⟩ := isN_of (by omega) h
      obtain ⟨b, hb1, hb, rfl⟩ := btw (by decide) h2 (by decide)
      clear h2
      obtain ⟨n, nx, f, hnx, hC, hR, hH⟩ := IA_get hI.2.2.2.2.1
      obtain ⟨z1, z2⟩ := hX.2.2.2.2.1 r hr
      obtain ⟨b1, b2⟩ := hV.2.2.2.2.1 r hr
      obtain ⟨u, hu, hu2⟩ : ∃ u, min (kSt k r + b) 20 = u ∧ u ≤ 20 := ⟨_, rfl, by omega⟩
      simp (disch := omega) only [cl89, w89_0, w89_1, w89_2, w89_5, w89_8, w89_9, w89_10, w89_12, w89_15, w89_18, w89_20, w89_21, w89_22, w89_25, w89_26, w89_29, w89_32, w89_33, w89_36, w89_39, w89_40, w89_42, w89_43, w89_46, w89_49, w89_50, w89_51, w89_52, w89_53, w89_56, w89_57, w89_58, w89_61, w89_64, w89_65, w89_66, ht, hs, hl, ↓neg_vM, ↓neg_vB, ↓neg_vS, ↓neg_vF, ↓neg_vO, ↓neg_vA, ↓neg_vN, lit_nI, nI_leI, nI_ltI, nI_eq, jm_in_nI, nI_clamp, nI_add, n_mul, pk_sub, n_le_t, n_le_f, n_lt_t, n_lt_f, n_eq_t, n_eq_f, true_and, and_true, ne_eq, not_false_eq_true, not_true_eq_false, min_n, max_n, dif_n, n_rem, n_div, or_nI, shl_nI, Option.toList_some, Option.toList_none, List.singleton_append, List.nil_append, if_true, if_false, or_true, true_or, or_false, false_or, and_false, false_and, Bool.false_eq_true, c_noHand hX hV, h, c_withinP]
      refine c_keep hX hV hH.1 hnx hC (fun T hC2 hf => ?_)
      have g4 : T (25 + 1) r = nI (kSt k r) := by rw [hf _ (by decide) (by decide), z1]
      simp (disch := omega) only [cl89, w89_0, w89_1, w89_2, w89_5, w89_8, w89_9, w89_10, w89_12, w89_15, w89_18, w89_20, w89_21, w89_22, w89_25, w89_26, w89_29, w89_32, w89_33, w89_36, w89_39, w89_40, w89_42, w89_43, w89_46, w89_49, w89_50, w89_51, w89_52, w89_53, w89_56, w89_57, w89_58, w89_61, w89_64, w89_65, w89_66, ht, hs, hl, ↓neg_vM, ↓neg_vB, ↓neg_vS, ↓neg_vF, ↓neg_vO, ↓neg_vA, ↓neg_vN, lit_nI, nI_leI, nI_ltI, nI_eq, jm_in_nI, nI_clamp, nI_add, n_mul, pk_sub, n_le_t, n_le_f, n_lt_t, n_lt_f, n_eq_t, n_eq_f, true_and, and_true, ne_eq, not_false_eq_true, not_true_eq_false, min_n, max_n, dif_n, n_rem, n_div, or_nI, shl_nI, Option.toList_some, Option.toList_none, List.singleton_append, List.nil_append, if_true, if_false, or_true, true_or, or_false, false_or, and_false, false_and, Bool.false_eq_true, g4, hu, upd_at, and_self, Zx_some]
      have hM5 : RM 132 (jm_upd (jm_upd T (25 + 1) r (nI u)) 128 0 (nI 0)) k := RM_of hM (by rw [upd_ne (by decide), upd_ne (by decide), hf _ (by decide) (by decide)])
      simp (disch := omega) only [cl177, w177_0, w177_1, w177_2, w177_5, w177_6, w177_7, w177_10, w177_13, w177_14, w177_15, w177_16, w177_19, w177_22, w177_25, w177_27, w177_28, w177_29, w177_32, w177_33, w177_36, w177_37, w177_40, w177_41, w177_42, w177_43, w177_44, w177_47, w177_48, w177_49, w177_50, w177_51, w177_52, w177_53, w177_55, w177_58, w177_60, w177_63, w177_64, w177_65, w177_66, w177_69, w177_70, w177_73, hm, ↓neg_vM, ↓neg_vB, ↓neg_vS, ↓neg_vF, ↓neg_vO, ↓neg_vA, ↓neg_vN, lit_nI, nI_leI, nI_ltI, nI_eq, jm_in_nI, nI_clamp, nI_add, n_mul, pk_sub, n_le_t, n_le_f, n_lt_t, n_lt_f, n_eq_t, n_eq_f, true_and, and_true, ne_eq, not_false_eq_true, not_true_eq_false, min_n, max_n, dif_n, n_rem, n_div, or_nI, shl_nI, Option.toList_some, Option.toList_none, List.singleton_append, List.nil_append, if_true, if_false, or_true, true_or, or_false, false_or, and_false, false_and, Bool.false_eq_true, r_isHand hM5 v1, h, lit_lN, nI_l, r_in, lN_le]
      have hR5 : RA (jm_upd (jm_upd T (25 + 1) r (nI u)) 128 0 (nI 0)) n f := RA_of hR (by rw [upd_ne (by decide), upd_ne (by decide), hf _ (by decide) (by decide)]) (by rw [upd_at, if_neg (by omega), upd_ne (by decide), hf _ (by decide) (by decide)])
      refine r_keep hM5 hH.1 hR5 (fun U hR6 hf2 hf3 => ?_)
      have hM6 : RM 132 U k := RM_of hM5 (hf2 _ (by decide) (by decide))
      have hM7 : RM 132 (jm_upd U 132 (4 + 2 * r) (nI u)) (kU k (4 + 2 * r) u) := RM_upd hM6
      have e7 : kSt (kU k (4 + 2 * r) u) r = u := kU_eq k (4 + 2 * r) u
      have hfin : InvK xs (jm_upd U 132 (4 + 2 * r) (nI u)) (kU k (4 + 2 * r + 0) u) := by
        refine InvK_A (n := pN n) (nx := (nx + 1) % 24) (g := pF n f k) hI ?_ hM7 (KG_U hG (by omega) (KV_U hV (by omega) (fun _ _ _ => by omega) (fun _ _ _ => by omega) (fun _ _ _ => by omega) (fun _ _ _ => by omega) (fun _ _ _ => by omega) (fun _ _ _ => by omega))) (by omega) ?_ ?_ (HA_same (HA_push hH hG) (sameK_U (by omega) (by omega))) (fun o ho => ?_) (fun i hi => ?_)
        · refine RX_of (RX_St (b := u) (h0 := r) (RX_of hX (T := T) (fun o h1 h2 => hf o (by omega) (by omega))) (by omega) v1) (fun o h1 h2 => ?_)
          rw [upd_ne (by omega), hf2 o (by omega) (by omega), upd_ne (by omega)]
        · refine CA_of hC2 (fun o ho => ?_)
          rw [upd_ne (by omega), hf2 o (by omega) (by omega), upd_ne (by omega), upd_ne (by omega)]
        · exact RA_of hR6 (upd_ne (by decide)) (by rw [upd_ne (by decide)])
        · rw [upd_ne (by omega), hf2 o (by omega) (by omega), upd_ne (by omega), upd_ne (by omega), hf o (by omega) (by omega)]
        · rw [upd_ne (by omega), hf3 i (by omega), upd_at, if_neg (by omega), upd_ne (by decide), hf _ (by decide) (by decide)]
      by_cases c : kSt k r + b ≤ 20
      · have hu3 : u = kSt k r + b := by omega
        rw [← hu3] at c
        simp (disch := omega) only [cl177, w177_0, w177_1, w177_2, w177_5, w177_6, w177_7, w177_10, w177_13, w177_14, w177_15, w177_16, w177_19, w177_22, w177_25, w177_27, w177_28, w177_29, w177_32, w177_33, w177_36, w177_37, w177_40, w177_41, w177_42, w177_43, w177_44, w177_47, w177_48, w177_49, w177_50, w177_51, w177_52, w177_53, w177_55, w177_58, w177_60, w177_63, w177_64, w177_65, w177_66, w177_69, w177_70, w177_73, hm, ↓neg_vM, ↓neg_vB, ↓neg_vS, ↓neg_vF, ↓neg_vO, ↓neg_vA, ↓neg_vN, lit_nI, nI_leI, nI_ltI, nI_eq, jm_in_nI, nI_clamp, nI_add, n_mul, pk_sub, n_le_t, n_le_f, n_lt_t, n_lt_f, n_eq_t, n_eq_f, true_and, and_true, ne_eq, not_false_eq_true, not_true_eq_false, min_n, max_n, dif_n, n_rem, n_div, or_nI, shl_nI, Option.toList_some, Option.toList_none, List.singleton_append, List.nil_append, if_true, if_false, or_true, true_or, or_false, false_or, and_false, false_and, Bool.false_eq_true, r_strength isR132 hM6, ← hu3, r_strength isR132 hM7, e7, Zm_some]
        exact ⟨_, hfin⟩
      · have hu3 : u = 20 := by omega
        rw [hu3] at hM7 e7 hfin
        simp (disch := omega) only [cl177, w177_0, w177_1, w177_2, w177_5, w177_6, w177_7, w177_10, w177_13, w177_14, w177_15, w177_16, w177_19, w177_22, w177_25, w177_27, w177_28, w177_29, w177_32, w177_33, w177_36, w177_37, w177_40, w177_41, w177_42, w177_43, w177_44, w177_47, w177_48, w177_49, w177_50, w177_51, w177_52, w177_53, w177_55, w177_58, w177_60, w177_63, w177_64, w177_65, w177_66, w177_69, w177_70, w177_73, hm, ↓neg_vM, ↓neg_vB, ↓neg_vS, ↓neg_vF, ↓neg_vO, ↓neg_vA, ↓neg_vN, lit_nI, nI_leI, nI_ltI, nI_eq, jm_in_nI, nI_clamp, nI_add, n_mul, pk_sub, n_le_t, n_le_f, n_lt_t, n_lt_f, n_eq_t, n_eq_f, true_and, and_true, ne_eq, not_false_eq_true, not_true_eq_false, min_n, max_n, dif_n, n_rem, n_div, or_nI, shl_nI, Option.toList_some, Option.toList_none, List.singleton_append, List.nil_append, if_true, if_false, or_true, true_or, or_false, false_or, and_false, false_and, Bool.false_eq_true, r_strength isR132 hM6, r_strength isR132 hM7, e7, Zm_some, hu3]
        exact ⟨_, hfin⟩
    · simp (disch := omega) only [w89_0, w89_1, w89_2, w89_5, w89_8, w89_9, w89_10, w89_12, w89_15, w89_18, w89_20, cl89, ht, hs, hl, ↓neg_vM, ↓neg_vB, ↓neg_vS, ↓neg_vF, ↓neg_vO, ↓neg_vA, ↓neg_vN, lit_nI, nI_leI, nI_ltI, nI_eq, jm_in_nI, nI_clamp, nI_add, n_mul, pk_sub, n_le_t, n_le_f, n_lt_t, n_lt_f, n_eq_t, n_eq_f, true_and, and_true, ne_eq, not_false_eq_true, not_true_eq_false, min_n, max_n, dif_n, n_rem, n_div, or_nI, shl_nI, Option.toList_some, Option.toList_none, List.singleton_append, List.nil_append, if_true, if_false, or_true, true_or, or_false, false_or, and_false, false_and, Bool.false_eq_true, Zx_some, c_noHand hX hV, h, c_withinP, h2]
      simp (disch := omega) only [w177_0, w177_1, w177_2, w177_5, w177_6, w177_7, w177_10, w177_13, w177_14, w177_15, w177_16, w177_19, w177_22, w177_25, w177_27, cl177, hm, ↓neg_vM, ↓neg_vB, ↓neg_vS, ↓neg_vF, ↓neg_vO, ↓neg_vA, ↓neg_vN, lit_nI, nI_leI, nI_ltI, nI_eq, jm_in_nI, nI_clamp, nI_add, n_mul, pk_sub, n_le_t, n_le_f, n_lt_t, n_lt_f, n_eq_t, n_eq_f, true_and, and_true, ne_eq, not_false_eq_true, not_true_eq_false, min_n, max_n, dif_n, n_rem, n_div, or_nI, shl_nI, Option.toList_some, Option.toList_none, List.singleton_append, List.nil_append, if_true, if_false, or_true, true_or, or_false, false_or, and_false, false_and, Bool.false_eq_true, Zm_some, r_isHand hM4 v1, h, lit_lN, r_in, lx_le, xl_le, h2]
      exact ⟨k, InvK_same hI Same_thrown⟩
  · simp (disch := omega) only [w89_0, w89_1, w89_2, w89_5, w89_8, w89_9, w89_10, w89_12, w89_15, w89_18, w89_20, cl89, ht, hs, hl, ↓neg_vM, ↓neg_vB, ↓neg_vS, ↓neg_vF, ↓neg_vO, ↓neg_vA, ↓neg_vN, lit_nI, nI_leI, nI_ltI, nI_eq, jm_in_nI, nI_clamp, nI_add, n_mul, pk_sub, n_le_t, n_le_f, n_lt_t, n_lt_f, n_eq_t, n_eq_f, true_and, and_true, ne_eq, not_false_eq_true, not_true_eq_false, min_n, max_n, dif_n, n_rem, n_div, or_nI, shl_nI, Option.toList_some, Option.toList_none, List.singleton_append, List.nil_append, if_true, if_false, or_true, true_or, or_false, false_or, and_false, false_and, Bool.false_eq_true, Zx_some, c_noHand hX hV, h]
    simp (disch := omega) only [w177_0, w177_1, w177_2, w177_5, w177_6, w177_7, w177_10, w177_13, w177_14, w177_15, w177_16, w177_19, w177_22, w177_25, w177_27, cl177, hm, ↓neg_vM, ↓neg_vB, ↓neg_vS, ↓neg_vF, ↓neg_vO, ↓neg_vA, ↓neg_vN, lit_nI, nI_leI, nI_ltI, nI_eq, jm_in_nI, nI_clamp, nI_add, n_mul, pk_sub, n_le_t, n_le_f, n_lt_t, n_lt_f, n_eq_t, n_eq_f, true_and, and_true, ne_eq, not_false_eq_true, not_true_eq_false, min_n, max_n, dif_n, n_rem, n_div, or_nI, shl_nI, Option.toList_some, Option.toList_none, List.singleton_append, List.nil_append, if_true, if_false, or_true, true_or, or_false, false_or, and_false, false_and, Bool.false_eq_true, Zm_some, r_isHand hM4 v1, h]
    exact ⟨k, InvK_same hI Same_thrown⟩
theorem p_play {v w : Int32} (hI : InvK xs S k) : CL L (d + 9) 88 [.ref 0, .int v, .int w] S (Zx xs L (d + 9) 176 [.ref 128, .int v, .int w]) := by
  have ht := top_sh L
  have hm := mod_sh L
  obtain ⟨hX, hM, hG⟩ := hI.2.2.2.1
  have hV := hG.1
  have hs := camp_sh isC25
  have hl := camp_ll L isC25
  have hM4 : RM 132 (jm_upd S 128 0 (nI 0)) k := RM_of hM (upd_ne (by decide))
  have v0 := hV.1
  have v1 := hV.2.1
  by_cases h : isN v (k 1) = true
  · obtain ⟨r, hr, rfl⟩ := isN_of (by omega) h
    obtain ⟨n, nx, f, hnx, hC, hR, hH⟩ := IA_get hI.2.2.2.2.1
    obtain ⟨z1, z2⟩ := hX.2.2.2.2.1 r hr
    obtain ⟨b1, b2⟩ := hV.2.2.2.2.1 r hr
    have hfin : ∀ (T U : jm_I2) (b : Nat), b ≤ k 0 → CA T (pN n) ((nx + 1) % 24) (pF n f k) → (∀ o, o ≠ 56 → ¬ (58 ≤ o ∧ o ≤ 81) → T o = S o) → RA U (pN n) (pF n f k) → RM 132 U k → (∀ o, o ≠ 128 → o ≠ 135 → U o = jm_upd (jm_upd T (25 + 2) r (plv b)) 128 0 (nI 0) o) → (∀ i, i ≠ 9 → U 128 i = jm_upd (jm_upd T (25 + 2) r (plv b)) 128 0 (nI 0) 128 i) → InvK xs (jm_upd U 132 (4 + 2 * r + 1) (nI b)) (kU k (4 + 2 * r + 1) b) := by
      intro T U b hb hC2 hf hR6 hM6 hf2 hf3
      refine InvK_A (n := pN n) (nx := (nx + 1) % 24) (g := pF n f k) hI ?_ (RM_upd hM6) (KG_U hG (by omega) (KV_U hV (by omega) (fun _ _ _ => by omega) (fun _ _ _ => by omega) (fun _ _ _ => by omega) (fun _ _ _ => by omega) (fun _ _ _ => by omega) (fun _ _ _ => by omega))) (by omega) ?_ ?_ (HA_same (HA_push hH hG) (sameK_U (by omega) (by omega))) (fun o ho => ?_) (fun i hi => ?_)
      · refine RX_of (RX_Pl (b := b) (h0 := r) (RX_of hX (T := T) (fun o h1 h2 => hf o (by omega) (by omega))) (by omega) v1) (fun o h1 h2 => ?_)
        rw [upd_ne (by omega), hf2 o (by omega) (by omega), upd_ne (by omega)]
      · refine CA_of hC2 (fun o ho => ?_)
        rw [upd_ne (by omega), hf2 o (by omega) (by omega), upd_ne (by omega), upd_ne (by omega)]
      · exact RA_of hR6 (upd_ne (by decide)) (by rw [upd_ne (by decide)])
      · rw [upd_ne (by omega), hf2 o (by omega) (by omega), upd_ne (by omega), upd_ne (by omega), hf o (by omega) (by omega)]
      · rw [upd_ne (by omega), hf3 i (by omega), upd_at, if_neg (by omega), upd_ne (by decide), hf _ (by decide) (by decide)]
    by_cases hw : w = vN
    · subst hw
      simp (disch := omega) only [cl88, w88_0, w88_1, w88_2, w88_5, w88_8, w88_9, w88_11, w88_14, w88_15, w88_16, w88_19, w88_22, w88_24, w88_25, w88_26, w88_29, w88_30, w88_33, w88_36, w88_37, w88_40, w88_43, w88_44, w88_45, w88_46, w88_47, w88_50, w88_53, w88_54, w88_55, w88_56, w88_57, ht, hs, hl, ↓neg_vM, ↓neg_vB, ↓neg_vS, ↓neg_vF, ↓neg_vO, ↓neg_vA, ↓neg_vN, lit_nI, nI_leI, nI_ltI, nI_eq, jm_in_nI, nI_clamp, nI_add, n_mul, pk_sub, n_le_t, n_le_f, n_lt_t, n_lt_f, n_eq_t, n_eq_f, true_and, and_true, ne_eq, not_false_eq_true, not_true_eq_false, min_n, max_n, dif_n, n_rem, n_div, or_nI, shl_nI, Option.toList_some, Option.toList_none, List.singleton_append, List.nil_append, if_true, if_false, or_true, true_or, or_false, false_or, and_false, false_and, Bool.false_eq_true, c_noHand hX hV, h]
      refine c_keep hX hV hH.1 hnx hC (fun T hC2 hf => ?_)
      have g4 : T (25 + 2) r = plv (kPl k r) := by rw [hf _ (by decide) (by decide), z2]
      simp (disch := omega) only [cl88, w88_0, w88_1, w88_2, w88_5, w88_8, w88_9, w88_11, w88_14, w88_15, w88_16, w88_19, w88_22, w88_24, w88_25, w88_26, w88_29, w88_30, w88_33, w88_36, w88_37, w88_40, w88_43, w88_44, w88_45, w88_46, w88_47, w88_50, w88_53, w88_54, w88_55, w88_56, w88_57, ht, hs, hl, ↓neg_vM, ↓neg_vB, ↓neg_vS, ↓neg_vF, ↓neg_vO, ↓neg_vA, ↓neg_vN, lit_nI, nI_leI, nI_ltI, nI_eq, jm_in_nI, nI_clamp, nI_add, n_mul, pk_sub, n_le_t, n_le_f, n_lt_t, n_lt_f, n_eq_t, n_eq_f, true_and, and_true, ne_eq, not_false_eq_true, not_true_eq_false, min_n, max_n, dif_n, n_rem, n_div, or_nI, shl_nI, Option.toList_some, Option.toList_none, List.singleton_append, List.nil_append, if_true, if_false, or_true, true_or, or_false, false_or, and_false, false_and, Bool.false_eq_true, g4, Zx_some]
      have hM5 : RM 132 (jm_upd (jm_upd T (25 + 2) r vN) 128 0 (nI 0)) k := RM_of hM (by rw [upd_ne (by decide), upd_ne (by decide), hf _ (by decide) (by decide)])
      simp (disch := omega) only [cl176, w176_0, w176_1, w176_2, w176_5, w176_6, w176_7, w176_10, w176_13, w176_14, w176_16, w176_19, w176_20, w176_21, w176_24, w176_27, w176_29, w176_30, w176_31, w176_34, w176_35, w176_38, w176_39, w176_42, w176_43, w176_44, w176_47, w176_48, w176_49, w176_52, w176_53, hm, ↓neg_vM, ↓neg_vB, ↓neg_vS, ↓neg_vF, ↓neg_vO, ↓neg_vA, ↓neg_vN, lit_nI, nI_leI, nI_ltI, nI_eq, jm_in_nI, nI_clamp, nI_add, n_mul, pk_sub, n_le_t, n_le_f, n_lt_t, n_lt_f, n_eq_t, n_eq_f, true_and, and_true, ne_eq, not_false_eq_true, not_true_eq_false, min_n, max_n, dif_n, n_rem, n_div, or_nI, shl_nI, Option.toList_some, Option.toList_none, List.singleton_append, List.nil_append, if_true, if_false, or_true, true_or, or_false, false_or, and_false, false_and, Bool.false_eq_true, r_isHand hM5 v1, h]
      have hR5 : RA (jm_upd (jm_upd T (25 + 2) r vN) 128 0 (nI 0)) n f := RA_of hR (by rw [upd_ne (by decide), upd_ne (by decide), hf _ (by decide) (by decide)]) (by rw [upd_at, if_neg (by omega), upd_ne (by decide), hf _ (by decide) (by decide)])
      refine r_keep hM5 hH.1 hR5 (fun U hR6 hf2 hf3 => ?_)
      have hM6 : RM 132 U k := RM_of hM5 (hf2 _ (by decide) (by decide))
      simp (disch := omega) only [cl176, w176_0, w176_1, w176_2, w176_5, w176_6, w176_7, w176_10, w176_13, w176_14, w176_16, w176_19, w176_20, w176_21, w176_24, w176_27, w176_29, w176_30, w176_31, w176_34, w176_35, w176_38, w176_39, w176_42, w176_43, w176_44, w176_47, w176_48, w176_49, w176_52, w176_53, hm, ↓neg_vM, ↓neg_vB, ↓neg_vS, ↓neg_vF, ↓neg_vO, ↓neg_vA, ↓neg_vN, lit_nI, nI_leI, nI_ltI, nI_eq, jm_in_nI, nI_clamp, nI_add, n_mul, pk_sub, n_le_t, n_le_f, n_lt_t, n_lt_f, n_eq_t, n_eq_f, true_and, and_true, ne_eq, not_false_eq_true, not_true_eq_false, min_n, max_n, dif_n, n_rem, n_div, or_nI, shl_nI, Option.toList_some, Option.toList_none, List.singleton_append, List.nil_append, if_true, if_false, or_true, true_or, or_false, false_or, and_false, false_and, Bool.false_eq_true, r_playsOf isR132 hM6, r_playsN isR132, Zm_some]
      exact ⟨_, hfin T U 0 (Nat.zero_le _) hC2 hf hR6 hM6 hf2 hf3⟩
    · by_cases h2 : isN w (k 0) = true
      · obtain ⟨q, hq, rfl⟩ := isN_of (by omega) h2
        simp (disch := omega) only [cl88, w88_0, w88_1, w88_2, w88_5, w88_8, w88_9, w88_11, w88_14, w88_15, w88_16, w88_19, w88_22, w88_24, w88_25, w88_26, w88_29, w88_30, w88_33, w88_36, w88_37, w88_40, w88_43, w88_44, w88_45, w88_46, w88_47, w88_50, w88_53, w88_54, w88_55, w88_56, w88_57, ht, hs, hl, ↓neg_vM, ↓neg_vB, ↓neg_vS, ↓neg_vF, ↓neg_vO, ↓neg_vA, ↓neg_vN, lit_nI, nI_leI, nI_ltI, nI_eq, jm_in_nI, nI_clamp, nI_add, n_mul, pk_sub, n_le_t, n_le_f, n_lt_t, n_lt_f, n_eq_t, n_eq_f, true_and, and_true, ne_eq, not_false_eq_true, not_true_eq_false, min_n, max_n, dif_n, n_rem, n_div, or_nI, shl_nI, Option.toList_some, Option.toList_none, List.singleton_append, List.nil_append, if_true, if_false, or_true, true_or, or_false, false_or, and_false, false_and, Bool.false_eq_true, c_noHand hX hV, c_noRule hX hV, h, h2, hw]
        refine c_keep hX hV hH.1 hnx hC (fun T hC2 hf => ?_)
        have g4 : T (25 + 2) r = plv (kPl k r) := by rw [hf _ (by decide) (by decide), z2]
        simp (disch := omega) only [cl88, w88_0, w88_1, w88_2, w88_5, w88_8, w88_9, w88_11, w88_14, w88_15, w88_16, w88_19, w88_22, w88_24, w88_25, w88_26, w88_29, w88_30, w88_33, w88_36, w88_37, w88_40, w88_43, w88_44, w88_45, w88_46, w88_47, w88_50, w88_53, w88_54, w88_55, w88_56, w88_57, ht, hs, hl, ↓neg_vM, ↓neg_vB, ↓neg_vS, ↓neg_vF, ↓neg_vO, ↓neg_vA, ↓neg_vN, lit_nI, nI_leI, nI_ltI, nI_eq, jm_in_nI, nI_clamp, nI_add, n_mul, pk_sub, n_le_t, n_le_f, n_lt_t, n_lt_f, n_eq_t, n_eq_f, true_and, and_true, ne_eq, not_false_eq_true, not_true_eq_false, min_n, max_n, dif_n, n_rem, n_div, or_nI, shl_nI, Option.toList_some, Option.toList_none, List.singleton_append, List.nil_append, if_true, if_false, or_true, true_or, or_false, false_or, and_false, false_and, Bool.false_eq_true, g4, Zx_some]
        have hM5 : RM 132 (jm_upd (jm_upd T (25 + 2) r (nI q)) 128 0 (nI 0)) k := RM_of hM (by rw [upd_ne (by decide), upd_ne (by decide), hf _ (by decide) (by decide)])
        simp (disch := omega) only [cl176, w176_0, w176_1, w176_2, w176_5, w176_6, w176_7, w176_10, w176_13, w176_14, w176_16, w176_19, w176_20, w176_21, w176_24, w176_27, w176_29, w176_30, w176_31, w176_34, w176_35, w176_38, w176_39, w176_42, w176_43, w176_44, w176_47, w176_48, w176_49, w176_52, w176_53, hm, ↓neg_vM, ↓neg_vB, ↓neg_vS, ↓neg_vF, ↓neg_vO, ↓neg_vA, ↓neg_vN, lit_nI, nI_leI, nI_ltI, nI_eq, jm_in_nI, nI_clamp, nI_add, n_mul, pk_sub, n_le_t, n_le_f, n_lt_t, n_lt_f, n_eq_t, n_eq_f, true_and, and_true, ne_eq, not_false_eq_true, not_true_eq_false, min_n, max_n, dif_n, n_rem, n_div, or_nI, shl_nI, Option.toList_some, Option.toList_none, List.singleton_append, List.nil_append, if_true, if_false, or_true, true_or, or_false, false_or, and_false, false_and, Bool.false_eq_true, r_isHand hM5 v1, r_isRule hM5 v0, h, h2, hw]
        have hR5 : RA (jm_upd (jm_upd T (25 + 2) r (nI q)) 128 0 (nI 0)) n f := RA_of hR (by rw [upd_ne (by decide), upd_ne (by decide), hf _ (by decide) (by decide)]) (by rw [upd_at, if_neg (by omega), upd_ne (by decide), hf _ (by decide) (by decide)])
        refine r_keep hM5 hH.1 hR5 (fun U hR6 hf2 hf3 => ?_)
        have hM6 : RM 132 U k := RM_of hM5 (hf2 _ (by decide) (by decide))
        simp (disch := omega) only [cl176, w176_0, w176_1, w176_2, w176_5, w176_6, w176_7, w176_10, w176_13, w176_14, w176_16, w176_19, w176_20, w176_21, w176_24, w176_27, w176_29, w176_30, w176_31, w176_34, w176_35, w176_38, w176_39, w176_42, w176_43, w176_44, w176_47, w176_48, w176_49, w176_52, w176_53, hm, ↓neg_vM, ↓neg_vB, ↓neg_vS, ↓neg_vF, ↓neg_vO, ↓neg_vA, ↓neg_vN, lit_nI, nI_leI, nI_ltI, nI_eq, jm_in_nI, nI_clamp, nI_add, n_mul, pk_sub, n_le_t, n_le_f, n_lt_t, n_lt_f, n_eq_t, n_eq_f, true_and, and_true, ne_eq, not_false_eq_true, not_true_eq_false, min_n, max_n, dif_n, n_rem, n_div, or_nI, shl_nI, Option.toList_some, Option.toList_none, List.singleton_append, List.nil_append, if_true, if_false, or_true, true_or, or_false, false_or, and_false, false_and, Bool.false_eq_true, r_playsOf isR132 hM6, r_plays isR132, Zm_some]
        exact ⟨_, hfin T U (q + 1) (by omega) hC2 hf hR6 hM6 hf2 hf3⟩
      · simp (disch := omega) only [w88_0, w88_1, w88_2, w88_5, w88_8, w88_9, w88_11, w88_14, w88_15, w88_16, w88_19, w88_22, w88_24, cl88, ht, hs, hl, ↓neg_vM, ↓neg_vB, ↓neg_vS, ↓neg_vF, ↓neg_vO, ↓neg_vA, ↓neg_vN, lit_nI, nI_leI, nI_ltI, nI_eq, jm_in_nI, nI_clamp, nI_add, n_mul, pk_sub, n_le_t, n_le_f, n_lt_t, n_lt_f, n_eq_t, n_eq_f, true_and, and_true, ne_eq, not_false_eq_true, not_true_eq_false, min_n, max_n, dif_n, n_rem, n_div, or_nI, shl_nI, Option.toList_some, Option.toList_none, List.singleton_append, List.nil_append, if_true, if_false, or_true, true_or, or_false, false_or, and_false, false_and, Bool.false_eq_true, Zx_some, c_noHand hX hV, c_noRule hX hV, h, h2, hw]
        simp (disch := omega) only [w176_0, w176_1, w176_2, w176_5, w176_6, w176_7, w176_10, w176_13, w176_14, w176_16, w176_19, w176_20, w176_21, w176_24, w176_27, w176_29, cl176, hm, ↓neg_vM, ↓neg_vB, ↓neg_vS, ↓neg_vF, ↓neg_vO, ↓neg_vA, ↓neg_vN, lit_nI, nI_leI, nI_ltI, nI_eq, jm_in_nI, nI_clamp, nI_add, n_mul, pk_sub, n_le_t, n_le_f, n_lt_t, n_lt_f, n_eq_t, n_eq_f, true_and, and_true, ne_eq, not_false_eq_true, not_true_eq_false, min_n, max_n, dif_n, n_rem, n_div, or_nI, shl_nI, Option.toList_some, Option.toList_none, List.singleton_append, List.nil_append, if_true, if_false, or_true, true_or, or_false, false_or, and_false, false_and, Bool.false_eq_true, Zm_some, r_isHand hM4 v1, r_isRule hM4 v0, h, h2, hw]
        exact ⟨k, InvK_same hI Same_thrown⟩
  · simp (disch := omega) only [w88_0, w88_1, w88_2, w88_5, w88_8, w88_9, w88_11, w88_14, w88_15, w88_16, w88_19, w88_22, w88_24, cl88, ht, hs, hl, ↓neg_vM, ↓neg_vB, ↓neg_vS, ↓neg_vF, ↓neg_vO, ↓neg_vA, ↓neg_vN, lit_nI, nI_leI, nI_ltI, nI_eq, jm_in_nI, nI_clamp, nI_add, n_mul, pk_sub, n_le_t, n_le_f, n_lt_t, n_lt_f, n_eq_t, n_eq_f, true_and, and_true, ne_eq, not_false_eq_true, not_true_eq_false, min_n, max_n, dif_n, n_rem, n_div, or_nI, shl_nI, Option.toList_some, Option.toList_none, List.singleton_append, List.nil_append, if_true, if_false, or_true, true_or, or_false, false_or, and_false, false_and, Bool.false_eq_true, Zx_some, c_noHand hX hV, h]
    simp (disch := omega) only [w176_0, w176_1, w176_2, w176_5, w176_6, w176_7, w176_10, w176_13, w176_14, w176_16, w176_19, w176_20, w176_21, w176_24, w176_27, w176_29, cl176, hm, ↓neg_vM, ↓neg_vB, ↓neg_vS, ↓neg_vF, ↓neg_vO, ↓neg_vA, ↓neg_vN, lit_nI, nI_leI, nI_ltI, nI_eq, jm_in_nI, nI_clamp, nI_add, n_mul, pk_sub, n_le_t, n_le_f, n_lt_t, n_lt_f, n_eq_t, n_eq_f, true_and, and_true, ne_eq, not_false_eq_true, not_true_eq_false, min_n, max_n, dif_n, n_rem, n_div, or_nI, shl_nI, Option.toList_some, Option.toList_none, List.singleton_append, List.nil_append, if_true, if_false, or_true, true_or, or_false, false_or, and_false, false_and, Bool.false_eq_true, Zm_some, r_isHand hM4 v1, h]
    exact ⟨k, InvK_same hI Same_thrown⟩
theorem p_hours {v : Int32} (hI : InvK xs S k) : CL L (d + 9) 86 [.ref 0, .int v] S (Zx xs L (d + 9) 174 [.ref 128, .int v]) := by
  have ht := top_sh L
  have hm := mod_sh L
  obtain ⟨hX, hM, hG⟩ := hI.2.2.2.1
  have hV := hG.1
  have hs := camp_sh isC25
  have hM4 : RM 132 (jm_upd S 128 0 (nI 0)) k := RM_of hM (upd_ne (by decide))
  have v0 := hV.1
  have v1 := hV.2.1
  have v3 := hG.2.1
  have x1 := hX.2.1
  have e3 := hM4 3 (by decide)
  by_cases h : k 0 = 0
  · simp (disch := omega) only [w86_0, w86_1, w86_4, w86_7, w86_9, cl86, ht, ↓neg_vM, ↓neg_vB, ↓neg_vS, ↓neg_vF, ↓neg_vO, ↓neg_vA, ↓neg_vN, lit_nI, nI_leI, nI_ltI, nI_eq, jm_in_nI, nI_clamp, nI_add, n_mul, pk_sub, n_le_t, n_le_f, n_lt_t, n_lt_f, n_eq_t, n_eq_f, true_and, and_true, ne_eq, not_false_eq_true, not_true_eq_false, min_n, max_n, dif_n, n_rem, n_div, or_nI, shl_nI, Option.toList_some, Option.toList_none, List.singleton_append, List.nil_append, if_true, if_false, or_true, true_or, or_false, false_or, and_false, false_and, Bool.false_eq_true, Zx_some, c_noCamp hX hV, h]
    simp (disch := omega) only [w174_0, w174_1, w174_2, w174_5, w174_6, w174_9, w174_12, w174_14, cl174, hm, ↓neg_vM, ↓neg_vB, ↓neg_vS, ↓neg_vF, ↓neg_vO, ↓neg_vA, ↓neg_vN, lit_nI, nI_leI, nI_ltI, nI_eq, jm_in_nI, nI_clamp, nI_add, n_mul, pk_sub, n_le_t, n_le_f, n_lt_t, n_lt_f, n_eq_t, n_eq_f, true_and, and_true, ne_eq, not_false_eq_true, not_true_eq_false, min_n, max_n, dif_n, n_rem, n_div, or_nI, shl_nI, Option.toList_some, Option.toList_none, List.singleton_append, List.nil_append, if_true, if_false, or_true, true_or, or_false, false_or, and_false, false_and, Bool.false_eq_true, Zm_some, r_isThere hM4 v0, h]
    exact ⟨k, InvK_same hI Same_thrown⟩
  · by_cases h2 : nI 1 ≤ v ∧ v ≤ nI 24
    · obtain ⟨m, hm1, hm2, rfl⟩ := btw (by decide) h2 (by decide)
      clear h2
      by_cases h3 : k 3 + m ≤ 999
      · obtain ⟨n, nx, f, hnx, hC, hR, hH⟩ := IA_get hI.2.2.2.2.1
        have hk1 := hG.2.2 (by omega)
        simp (disch := omega) only [w86_0, w86_1, w86_4, w86_7, w86_9, w86_10, w86_11, w86_12, w86_14, w86_17, w86_20, w86_22, w86_23, w86_24, w86_27, w86_30, w86_31, w86_32, w86_35, w86_38, w86_40, w86_41, w86_42, cl86, ht, ↓neg_vM, ↓neg_vB, ↓neg_vS, ↓neg_vF, ↓neg_vO, ↓neg_vA, ↓neg_vN, lit_nI, nI_leI, nI_ltI, nI_eq, jm_in_nI, nI_clamp, nI_add, n_mul, pk_sub, n_le_t, n_le_f, n_lt_t, n_lt_f, n_eq_t, n_eq_f, true_and, and_true, ne_eq, not_false_eq_true, not_true_eq_false, min_n, max_n, dif_n, n_rem, n_div, or_nI, shl_nI, Option.toList_some, Option.toList_none, List.singleton_append, List.nil_append, if_true, if_false, or_true, true_or, or_false, false_or, and_false, false_and, Bool.false_eq_true, c_noCamp hX hV, h, c_withinP, x1]
        have key : ∀ i, i ≤ m → ∀ T, RX 25 T (hoursA k i) → CA T (acN n i) (acX nx i) (acF n f k i) → (∀ o, ¬ (25 ≤ o ∧ o ≤ 34) → o ≠ 56 → ¬ (58 ≤ o ∧ o ≤ 81) → T o = S o) → WQ L (d + 9) 86 43 [.ref 0, .int (nI m), .int (nI i)] [] T (Zx xs L (d + 9) 174 [.ref 128, .int (nI m)]) := by
          apply down_ind
          · intro T tX tC tf
            have hVm := KV_hours hV m (by omega)
            rw [w86_43]
            simp (disch := omega) only [w86_44, w86_45, w86_48, w86_49, w86_52, w86_53, w86_56, w86_59, w86_60, w86_63, w86_66, w86_69, w86_72, w86_73, w86_76, w86_79, ht, ↓neg_vM, ↓neg_vB, ↓neg_vS, ↓neg_vF, ↓neg_vO, ↓neg_vA, ↓neg_vN, lit_nI, nI_leI, nI_ltI, nI_eq, jm_in_nI, nI_clamp, nI_add, n_mul, pk_sub, n_le_t, n_le_f, n_lt_t, n_lt_f, n_eq_t, n_eq_f, true_and, and_true, ne_eq, not_false_eq_true, not_true_eq_false, min_n, max_n, dif_n, n_rem, n_div, or_nI, shl_nI, Option.toList_some, Option.toList_none, List.singleton_append, List.nil_append, if_true, if_false, or_true, true_or, or_false, false_or, and_false, false_and, Bool.false_eq_true, c_holding isC25 tX hVm, Zx_some]
            have hM5 : RM 132 (jm_upd T 128 0 (nI 0)) k := RM_of hM (by rw [upd_ne (by decide), tf _ (by decide) (by decide) (by decide)])
            have hR5 : RA (jm_upd T 128 0 (nI 0)) n f := RA_of hR (by rw [upd_ne (by decide), tf _ (by decide) (by decide) (by decide)]) (by rw [upd_at, if_neg (by omega), tf _ (by decide) (by decide) (by decide)])
            have e5 := hM5 3 (by decide)
            simp (disch := omega) only [w174_0, w174_1, w174_2, w174_5, w174_6, w174_9, w174_12, w174_14, w174_15, w174_16, w174_17, w174_18, w174_21, w174_24, w174_27, w174_29, w174_30, w174_31, w174_34, w174_35, w174_36, w174_37, w174_38, w174_41, w174_44, w174_46, w174_47, w174_48, cl174, hm, ↓neg_vM, ↓neg_vB, ↓neg_vS, ↓neg_vF, ↓neg_vO, ↓neg_vA, ↓neg_vN, lit_nI, nI_leI, nI_ltI, nI_eq, jm_in_nI, nI_clamp, nI_add, n_mul, pk_sub, n_le_t, n_le_f, n_lt_t, n_lt_f, n_eq_t, n_eq_f, true_and, and_true, ne_eq, not_false_eq_true, not_true_eq_false, min_n, max_n, dif_n, n_rem, n_div, or_nI, shl_nI, Option.toList_some, Option.toList_none, List.singleton_append, List.nil_append, if_true, if_false, or_true, true_or, or_false, false_or, and_false, false_and, Bool.false_eq_true, r_isThere hM5 v0, h, lit_lN, nI_l, r_in, lN_le, e5]
            have key2 : ∀ i, i ≤ m → ∀ U, RM 132 U (hoursA k i) → RA U (acN n i) (acF n f k i) → (∀ o, o ≠ 128 → o ≠ 132 → o ≠ 135 → o ≠ 137 → o ≠ 138 → U o = T o) → (∀ x, x ≠ 0 → x ≠ 9 → U 128 x = T 128 x) → WQ L (d + 9) 174 49 [.ref 128, .int (nI m), .int (nI i)] [] U (Zm xs (nI (bset (kHd (hoursA k m)) (hoursA k m 0)))) := by
              apply down_ind
              · intro U uM uR uf uf2
                rw [w174_49]
                simp (disch := omega) only [w174_50, w174_51, w174_54, w174_55, w174_58, w174_59, w174_60, w174_63, w174_66, w174_69, w174_72, w174_73, w174_76, w174_79, hm, ↓neg_vM, ↓neg_vB, ↓neg_vS, ↓neg_vF, ↓neg_vO, ↓neg_vA, ↓neg_vN, lit_nI, nI_leI, nI_ltI, nI_eq, jm_in_nI, nI_clamp, nI_add, n_mul, pk_sub, n_le_t, n_le_f, n_lt_t, n_lt_f, n_eq_t, n_eq_f, true_and, and_true, ne_eq, not_false_eq_true, not_true_eq_false, min_n, max_n, dif_n, n_rem, n_div, or_nI, shl_nI, Option.toList_some, Option.toList_none, List.singleton_append, List.nil_append, if_true, if_false, or_true, true_or, or_false, false_or, and_false, false_and, Bool.false_eq_true, r_holding isR132 uM hVm, Zm_some]
                refine ⟨hoursA k m, InvK_A hI (RX_of tX (fun o h1 h2 => uf o (by omega) (by omega) (by omega) (by omega) (by omega))) uM (KG_hours hG h3) (acX_lt hnx m) (CA_of tC (fun o ho => uf o (by omega) (by omega) (by omega) (by omega) (by omega))) uR (HA_hours hH hG m h3) (fun o ho => ?_) (fun i hi => ?_)⟩
                · rw [uf o (by omega) (by omega) (by omega) (by omega) (by omega), tf o (by omega) (by omega) (by omega)]
                · rw [uf2 i (by omega) (by omega), tf _ (by decide) (by decide) (by decide)]
              · intro i hi ih U uM uR uf uf2
                rw [w174_49]
                simp (disch := omega) only [w174_50, w174_51, w174_54, w174_55, w174_58, w174_59, w174_60, w174_63, w174_66, w174_69, hm, ↓neg_vM, ↓neg_vB, ↓neg_vS, ↓neg_vF, ↓neg_vO, ↓neg_vA, ↓neg_vN, lit_nI, nI_leI, nI_ltI, nI_eq, jm_in_nI, nI_clamp, nI_add, n_mul, pk_sub, n_le_t, n_le_f, n_lt_t, n_lt_f, n_eq_t, n_eq_f, true_and, and_true, ne_eq, not_false_eq_true, not_true_eq_false, min_n, max_n, dif_n, n_rem, n_div, or_nI, shl_nI, Option.toList_some, Option.toList_none, List.singleton_append, List.nil_append, if_true, if_false, or_true, true_or, or_false, false_or, and_false, false_and, Bool.false_eq_true]
                refine r_keep uM (HA_hours hH hG i (by omega)).1 uR (fun U1 a1 a2 a3 => ?_)
                simp (disch := omega) only [w174_50, w174_51, w174_54, w174_55, w174_58, w174_59, w174_60, w174_63, w174_66, w174_69, hm, ↓neg_vM, ↓neg_vB, ↓neg_vS, ↓neg_vF, ↓neg_vO, ↓neg_vA, ↓neg_vN, lit_nI, nI_leI, nI_ltI, nI_eq, jm_in_nI, nI_clamp, nI_add, n_mul, pk_sub, n_le_t, n_le_f, n_lt_t, n_lt_f, n_eq_t, n_eq_f, true_and, and_true, ne_eq, not_false_eq_true, not_true_eq_false, min_n, max_n, dif_n, n_rem, n_div, or_nI, shl_nI, Option.toList_some, Option.toList_none, List.singleton_append, List.nil_append, if_true, if_false, or_true, true_or, or_false, false_or, and_false, false_and, Bool.false_eq_true]
                refine r_hour isR132 (RM_of uM (a2 _ (by decide) (by decide))) (KV_hours hV i (by omega)) (fun U2 b1 b2 => ?_)
                simp (disch := omega) only [w174_50, w174_51, w174_54, w174_55, w174_58, w174_59, w174_60, w174_63, w174_66, w174_69, hm, ↓neg_vM, ↓neg_vB, ↓neg_vS, ↓neg_vF, ↓neg_vO, ↓neg_vA, ↓neg_vN, lit_nI, nI_leI, nI_ltI, nI_eq, jm_in_nI, nI_clamp, nI_add, n_mul, pk_sub, n_le_t, n_le_f, n_lt_t, n_lt_f, n_eq_t, n_eq_f, true_and, and_true, ne_eq, not_false_eq_true, not_true_eq_false, min_n, max_n, dif_n, n_rem, n_div, or_nI, shl_nI, Option.toList_some, Option.toList_none, List.singleton_append, List.nil_append, if_true, if_false, or_true, true_or, or_false, false_or, and_false, false_and, Bool.false_eq_true]
                refine ih U2 b1 (RA_of a1 (b2 _ (by decide) (by decide) (by decide)) (by rw [b2 _ (by decide) (by decide) (by decide)])) (fun o h1 h2 h3 h4 h5 => ?_) (fun x h1 h2 => ?_)
                · rw [b2 o h2 h4 h5, a2 o h1 h3, uf o h1 h2 h3 h4 h5]
                · rw [b2 128 (by decide) (by decide) (by decide), a3 x h2, uf2 x h1 h2]
            exact key2 0 (Nat.zero_le _) _ hM5 hR5 (fun o h1 _ _ _ _ => upd_ne h1) (fun x h1 _ => by rw [upd_at, if_neg (fun q => h1 q.2)])
          · intro i hi ih T tX tC tf
            rw [w86_43]
            simp (disch := omega) only [w86_44, w86_45, w86_48, w86_49, w86_52, w86_53, w86_56, w86_59, w86_60, w86_63, w86_66, w86_69, ht, ↓neg_vM, ↓neg_vB, ↓neg_vS, ↓neg_vF, ↓neg_vO, ↓neg_vA, ↓neg_vN, lit_nI, nI_leI, nI_ltI, nI_eq, jm_in_nI, nI_clamp, nI_add, n_mul, pk_sub, n_le_t, n_le_f, n_lt_t, n_lt_f, n_eq_t, n_eq_f, true_and, and_true, ne_eq, not_false_eq_true, not_true_eq_false, min_n, max_n, dif_n, n_rem, n_div, or_nI, shl_nI, Option.toList_some, Option.toList_none, List.singleton_append, List.nil_append, if_true, if_false, or_true, true_or, or_false, false_or, and_false, false_and, Bool.false_eq_true]
            refine c_keep tX (KV_hours hV i (by omega)) (HA_hours hH hG i (by omega)).1 (acX_lt hnx i) tC (fun T1 a1 a2 => ?_)
            simp (disch := omega) only [w86_44, w86_45, w86_48, w86_49, w86_52, w86_53, w86_56, w86_59, w86_60, w86_63, w86_66, w86_69, ht, ↓neg_vM, ↓neg_vB, ↓neg_vS, ↓neg_vF, ↓neg_vO, ↓neg_vA, ↓neg_vN, lit_nI, nI_leI, nI_ltI, nI_eq, jm_in_nI, nI_clamp, nI_add, n_mul, pk_sub, n_le_t, n_le_f, n_lt_t, n_lt_f, n_eq_t, n_eq_f, true_and, and_true, ne_eq, not_false_eq_true, not_true_eq_false, min_n, max_n, dif_n, n_rem, n_div, or_nI, shl_nI, Option.toList_some, Option.toList_none, List.singleton_append, List.nil_append, if_true, if_false, or_true, true_or, or_false, false_or, and_false, false_and, Bool.false_eq_true]
            refine c_passHour isC25 (RX_of tX (fun o h1 h2 => a2 o (by omega) (by omega))) (KV_hours hV i (by omega)) (by rw [(hoursA_low k i).2.1]; exact hk1) (fun T2 b1 b2 => ?_)
            simp (disch := omega) only [w86_44, w86_45, w86_48, w86_49, w86_52, w86_53, w86_56, w86_59, w86_60, w86_63, w86_66, w86_69, ht, ↓neg_vM, ↓neg_vB, ↓neg_vS, ↓neg_vF, ↓neg_vO, ↓neg_vA, ↓neg_vN, lit_nI, nI_leI, nI_ltI, nI_eq, jm_in_nI, nI_clamp, nI_add, n_mul, pk_sub, n_le_t, n_le_f, n_lt_t, n_lt_f, n_eq_t, n_eq_f, true_and, and_true, ne_eq, not_false_eq_true, not_true_eq_false, min_n, max_n, dif_n, n_rem, n_div, or_nI, shl_nI, Option.toList_some, Option.toList_none, List.singleton_append, List.nil_append, if_true, if_false, or_true, true_or, or_false, false_or, and_false, false_and, Bool.false_eq_true]
            refine ih T2 b1 (CA_of a1 (fun o ho => b2 o (by omega))) (fun o h1 h2 h3 => ?_)
            rw [b2 o (by omega), a2 o h2 h3, tf o h1 h2 h3]
        exact key 0 (Nat.zero_le _) S hX hC (fun o _ _ _ => rfl)
      · simp (disch := omega) only [w86_0, w86_1, w86_4, w86_7, w86_9, w86_10, w86_11, w86_12, w86_14, w86_17, w86_20, w86_22, w86_23, w86_24, w86_27, w86_30, w86_31, w86_32, w86_35, w86_38, w86_40, cl86, ht, ↓neg_vM, ↓neg_vB, ↓neg_vS, ↓neg_vF, ↓neg_vO, ↓neg_vA, ↓neg_vN, lit_nI, nI_leI, nI_ltI, nI_eq, jm_in_nI, nI_clamp, nI_add, n_mul, pk_sub, n_le_t, n_le_f, n_lt_t, n_lt_f, n_eq_t, n_eq_f, true_and, and_true, ne_eq, not_false_eq_true, not_true_eq_false, min_n, max_n, dif_n, n_rem, n_div, or_nI, shl_nI, Option.toList_some, Option.toList_none, List.singleton_append, List.nil_append, if_true, if_false, or_true, true_or, or_false, false_or, and_false, false_and, Bool.false_eq_true, Zx_some, c_noCamp hX hV, h, c_withinP, x1]
        simp (disch := omega) only [w174_0, w174_1, w174_2, w174_5, w174_6, w174_9, w174_12, w174_14, w174_15, w174_16, w174_17, w174_18, w174_21, w174_24, w174_27, w174_29, w174_30, w174_31, w174_34, w174_35, w174_36, w174_37, w174_38, w174_41, w174_44, w174_46, cl174, hm, ↓neg_vM, ↓neg_vB, ↓neg_vS, ↓neg_vF, ↓neg_vO, ↓neg_vA, ↓neg_vN, lit_nI, nI_leI, nI_ltI, nI_eq, jm_in_nI, nI_clamp, nI_add, n_mul, pk_sub, n_le_t, n_le_f, n_lt_t, n_lt_f, n_eq_t, n_eq_f, true_and, and_true, ne_eq, not_false_eq_true, not_true_eq_false, min_n, max_n, dif_n, n_rem, n_div, or_nI, shl_nI, Option.toList_some, Option.toList_none, List.singleton_append, List.nil_append, if_true, if_false, or_true, true_or, or_false, false_or, and_false, false_and, Bool.false_eq_true, Zm_some, r_isThere hM4 v0, h, lit_lN, nI_l, r_in, lN_le, e3]
        exact ⟨k, InvK_same hI Same_thrown⟩
    · simp (disch := omega) only [w86_0, w86_1, w86_4, w86_7, w86_9, w86_10, w86_11, w86_12, w86_14, w86_17, w86_20, w86_22, w86_23, w86_24, w86_27, w86_30, w86_31, w86_32, w86_35, w86_38, w86_40, cl86, ht, ↓neg_vM, ↓neg_vB, ↓neg_vS, ↓neg_vF, ↓neg_vO, ↓neg_vA, ↓neg_vN, lit_nI, nI_leI, nI_ltI, nI_eq, jm_in_nI, nI_clamp, nI_add, n_mul, pk_sub, n_le_t, n_le_f, n_lt_t, n_lt_f, n_eq_t, n_eq_f, true_and, and_true, ne_eq, not_false_eq_true, not_true_eq_false, min_n, max_n, dif_n, n_rem, n_div, or_nI, shl_nI, Option.toList_some, Option.toList_none, List.singleton_append, List.nil_append, if_true, if_false, or_true, true_or, or_false, false_or, and_false, false_and, Bool.false_eq_true, Zx_some, c_noCamp hX hV, h, c_withinP, h2]
      simp (disch := omega) only [w174_0, w174_1, w174_2, w174_5, w174_6, w174_9, w174_12, w174_14, w174_15, w174_16, w174_17, w174_18, w174_21, w174_24, w174_27, w174_29, w174_30, w174_31, w174_34, w174_35, w174_36, w174_37, w174_38, w174_41, w174_44, w174_46, cl174, hm, ↓neg_vM, ↓neg_vB, ↓neg_vS, ↓neg_vF, ↓neg_vO, ↓neg_vA, ↓neg_vN, lit_nI, nI_leI, nI_ltI, nI_eq, jm_in_nI, nI_clamp, nI_add, n_mul, pk_sub, n_le_t, n_le_f, n_lt_t, n_lt_f, n_eq_t, n_eq_f, true_and, and_true, ne_eq, not_false_eq_true, not_true_eq_false, min_n, max_n, dif_n, n_rem, n_div, or_nI, shl_nI, Option.toList_some, Option.toList_none, List.singleton_append, List.nil_append, if_true, if_false, or_true, true_or, or_false, false_or, and_false, false_and, Bool.false_eq_true, Zm_some, r_isThere hM4 v0, h, lit_lN, r_in, lx_le, xl_le, h2]
      exact ⟨k, InvK_same hI Same_thrown⟩
end
