section
variable {xs : Nat → Int32} {L d : Nat} {S : jm_I2} {k : kT} {Z : Option Value → jm_I2 → Prop}
/-- the last lines of the reference's keep -/
theorem r_keep2 {n : Nat} {f : Nat → kT} {l1 : Value} (hM : RM 132 S k) (hn : n < 24) (hR : RA S n f) (hZ : ∀ T, S 128 9 = nI n → RA T (n + 1) (fun q => if q < n then f q else k) → (∀ o, o ≠ 128 → o ≠ 135 → T o = S o) → (∀ i, i ≠ 9 → T 128 i = S 128 i) → Z none T) : WQ L d 173 49 [.ref 128, l1] [] S Z := by
  have hm := mod_sh L
  obtain ⟨r1, r2⟩ := hR
  have key : ∀ i, i ≤ 34 → ∀ T, (∀ o, o ≠ 135 → T o = S o) → (∀ q, q < n → ∀ x, x < 34 → T 135 (34 * q + x) = nI (f q x)) → (∀ x, x < i → T 135 (34 * n + x) = nI (k x)) → WQ L d 173 51 [.ref 128, .int (nI i)] [] T Z := by
    apply down_ind
    · intro T t1 t2 t3
      have e9 : T 128 9 = nI n := by rw [t1 128 (by decide)]; exact r1
      rw [w173_51]
      simp (disch := omega) only [w173_52, w173_54, w173_57, w173_58, w173_61, w173_63, w173_64, w173_67, w173_68, w173_69, w173_70, w173_71, w173_74, w173_75, w173_76, w173_77, w173_80, w173_83, w173_84, w173_85, w173_88, w173_89, w173_90, w173_93, hm, ↓neg_vM, ↓neg_vB, ↓neg_vS, ↓neg_vF, ↓neg_vO, ↓neg_vA, ↓neg_vN, lit_nI, nI_leI, nI_ltI, nI_eq, jm_in_nI, nI_clamp, nI_add, n_mul, pk_sub, n_le_t, n_le_f, n_lt_t, n_lt_f, n_eq_t, n_eq_f, true_and, and_true, ne_eq, not_false_eq_true, not_true_eq_false, min_n, max_n, dif_n, n_rem, n_div, or_nI, shl_nI, Option.toList_some, Option.toList_none, List.singleton_append, List.nil_append, if_true, if_false, or_true, true_or, or_false, false_or, and_false, false_and, Bool.false_eq_true, e9]
      refine hZ _ r1 ⟨?_, fun q hq x hx => ?_⟩ (fun o h1 h2 => ?_) (fun i hi => ?_)
      · simp (disch := omega) only [upd_at, row_at, n_eq_f, n_eq_t, and_true, true_and, and_false, false_and, and_self, if_true, if_false,  ]
      · rw [upd_ne (by decide)]
        show T 135 (34 * q + x) = nI ((if q < n then f q else k) x)
        by_cases h : q < n
        · rw [if_pos h]; exact t2 q h x hx
        · rw [if_neg h, show q = n by omega]; exact t3 x hx
      · rw [upd_ne h1, t1 o h2]
      · rw [upd_at, if_neg (fun q => hi q.2), t1 128 (by decide)]
    · intro i hi ih T t1 t2 t3
      have e9 : T 128 9 = nI n := by rw [t1 128 (by decide)]; exact r1
      have e1 : T 132 i = nI (k i) := by rw [t1 132 (by decide)]; exact hM i hi
      rw [w173_51]
      simp (disch := omega) only [w173_52, w173_54, w173_57, w173_58, w173_61, w173_63, w173_64, w173_67, w173_68, w173_69, w173_70, w173_71, w173_74, w173_75, w173_76, w173_77, w173_80, hm, ↓neg_vM, ↓neg_vB, ↓neg_vS, ↓neg_vF, ↓neg_vO, ↓neg_vA, ↓neg_vN, lit_nI, nI_leI, nI_ltI, nI_eq, jm_in_nI, nI_clamp, nI_add, n_mul, pk_sub, n_le_t, n_le_f, n_lt_t, n_lt_f, n_eq_t, n_eq_f, true_and, and_true, ne_eq, not_false_eq_true, not_true_eq_false, min_n, max_n, dif_n, n_rem, n_div, or_nI, shl_nI, Option.toList_some, Option.toList_none, List.singleton_append, List.nil_append, if_true, if_false, or_true, true_or, or_false, false_or, and_false, false_and, Bool.false_eq_true, e9, e1]
      refine ih _ (fun o h1 => ?_) (fun q hq x hx => ?_) (fun x hx => ?_)
      · rw [upd_ne h1, t1 o h1]
      · rw [upd_at, if_neg (by omega)]; exact t2 q hq x hx
      · by_cases h : x = i
        · subst h
          simp (disch := omega) only [upd_at, row_at, n_eq_f, n_eq_t, and_true, true_and, and_false, false_and, and_self, if_true, if_false,  ]
        · rw [upd_at, if_neg (by omega)]; exact t3 x (by omega)
  simp (disch := omega) only [w173_49, w173_50, ↓neg_vM, ↓neg_vB, ↓neg_vS, ↓neg_vF, ↓neg_vO, ↓neg_vA, ↓neg_vN, lit_nI, nI_leI, nI_ltI, nI_eq, jm_in_nI, nI_clamp, nI_add, n_mul, pk_sub, n_le_t, n_le_f, n_lt_t, n_lt_f, n_eq_t, n_eq_f, true_and, and_true, ne_eq, not_false_eq_true, not_true_eq_false, min_n, max_n, dif_n, n_rem, n_div, or_nI, shl_nI, Option.toList_some, Option.toList_none, List.singleton_append, List.nil_append, if_true, if_false, or_true, true_or, or_false, false_or, and_false, false_and, Bool.false_eq_true]
  exact key 0 (Nat.zero_le _) S (fun o _ => rfl) r2 (fun x hx => absurd hx (Nat.not_lt_zero _))
theorem r_keep {n : Nat} {f : Nat → kT} (hM : RM 132 S k) (hn : n ≤ 24) (hR : RA S n f) (hZ : ∀ T, RA T (pN n) (pF n f k) → (∀ o, o ≠ 128 → o ≠ 135 → T o = S o) → (∀ i, i ≠ 9 → T 128 i = S 128 i) → Z none T) : CL L d 173 [.ref 128] S Z := by
  have hm := mod_sh L
  obtain ⟨r1, r2⟩ := hR
  by_cases h24 : n = 24
  · have key : ∀ i, i ≤ 782 → ∀ T, (∀ o, o ≠ 135 → T o = S o) → (∀ x, x < i → T 135 x = S 135 (x + 34)) → (∀ x, i ≤ x → T 135 x = S 135 x) → WQ L d 173 11 [.ref 128, .int (nI i)] [] T Z := by
      apply down_ind
      · intro T t1 t2 t3
        have e9 : T 128 9 = nI n := by rw [t1 128 (by decide)]; exact r1
        rw [w173_11]
        simp (disch := omega) only [w173_12, w173_15, w173_18, w173_19, w173_22, w173_23, w173_24, w173_27, w173_28, w173_30, w173_31, w173_32, w173_33, w173_36, w173_39, w173_40, w173_41, w173_44, w173_45, w173_46, hm, ↓neg_vM, ↓neg_vB, ↓neg_vS, ↓neg_vF, ↓neg_vO, ↓neg_vA, ↓neg_vN, lit_nI, nI_leI, nI_ltI, nI_eq, jm_in_nI, nI_clamp, nI_add, n_mul, pk_sub, n_le_t, n_le_f, n_lt_t, n_lt_f, n_eq_t, n_eq_f, true_and, and_true, ne_eq, not_false_eq_true, not_true_eq_false, min_n, max_n, dif_n, n_rem, n_div, or_nI, shl_nI, Option.toList_some, Option.toList_none, List.singleton_append, List.nil_append, if_true, if_false, or_true, true_or, or_false, false_or, and_false, false_and, Bool.false_eq_true, e9, h24]
        refine r_keep2 (k := k) (n := 23) (f := fun q => f (q + 1)) (RM_of hM (by rw [upd_ne (by decide), t1 132 (by decide)])) (by decide) ⟨?_, fun q hq x hx => ?_⟩ (fun U u0 u1 u2 u3 => ?_)
        · simp (disch := omega) only [upd_at, row_at, n_eq_f, n_eq_t, and_true, true_and, and_false, false_and, and_self, if_true, if_false,  ]
        · rw [upd_ne (by decide), t2 _ (by omega), show 34 * q + x + 34 = 34 * (q + 1) + x by omega]
          exact r2 (q + 1) (by omega) x hx
        · refine hZ U ?_ (fun o h1 h2 => by rw [u2 o h1 h2, upd_ne h1, t1 o h2]) (fun i hi => by rw [u3 i hi, upd_at, if_neg (fun q => hi q.2), t1 128 (by decide)])
          have e1 : pN n = 24 := by unfold pN; omega
          have e2 : pF n f k = fun q => if q < 23 then f (q + 1) else k := by
            funext q
            unfold pF
            rw [if_neg (by omega)]
          rw [e1, e2]
          exact u1
      · intro i hi ih T t1 t2 t3
        have e1 : T 135 (i + 34) = S 135 (i + 34) := t3 _ (by omega)
        rw [w173_11]
        simp (disch := omega) only [w173_12, w173_15, w173_18, w173_19, w173_22, w173_23, w173_24, w173_27, w173_28, w173_30, w173_31, w173_32, w173_33, w173_36, hm, ↓neg_vM, ↓neg_vB, ↓neg_vS, ↓neg_vF, ↓neg_vO, ↓neg_vA, ↓neg_vN, lit_nI, nI_leI, nI_ltI, nI_eq, jm_in_nI, nI_clamp, nI_add, n_mul, pk_sub, n_le_t, n_le_f, n_lt_t, n_lt_f, n_eq_t, n_eq_f, true_and, and_true, ne_eq, not_false_eq_true, not_true_eq_false, min_n, max_n, dif_n, n_rem, n_div, or_nI, shl_nI, Option.toList_some, Option.toList_none, List.singleton_append, List.nil_append, if_true, if_false, or_true, true_or, or_false, false_or, and_false, false_and, Bool.false_eq_true, e1]
        refine ih _ (fun o h1 => ?_) (fun x hx => ?_) (fun x hx => ?_)
        · rw [upd_ne h1, t1 o h1]
        · by_cases h : x = i
          · subst h
            simp (disch := omega) only [upd_at, row_at, n_eq_f, n_eq_t, and_true, true_and, and_false, false_and, and_self, if_true, if_false,  ]
          · rw [upd_at, if_neg (by omega)]; exact t2 x (by omega)
        · rw [upd_at, if_neg (by omega)]; exact t3 x (by omega)
    simp (disch := omega) only [cl173, w173_0, w173_1, w173_4, w173_6, w173_9, w173_10, hm, ↓neg_vM, ↓neg_vB, ↓neg_vS, ↓neg_vF, ↓neg_vO, ↓neg_vA, ↓neg_vN, lit_nI, nI_leI, nI_ltI, nI_eq, jm_in_nI, nI_clamp, nI_add, n_mul, pk_sub, n_le_t, n_le_f, n_lt_t, n_lt_f, n_eq_t, n_eq_f, true_and, and_true, ne_eq, not_false_eq_true, not_true_eq_false, min_n, max_n, dif_n, n_rem, n_div, or_nI, shl_nI, Option.toList_some, Option.toList_none, List.singleton_append, List.nil_append, if_true, if_false, or_true, true_or, or_false, false_or, and_false, false_and, Bool.false_eq_true, r1, h24]
    exact key 0 (Nat.zero_le _) S (fun o _ => rfl) (fun x hx => absurd hx (Nat.not_lt_zero _)) (fun x _ => rfl)
  · simp (disch := omega) only [cl173, w173_0, w173_1, w173_4, w173_6, w173_9, w173_10, hm, ↓neg_vM, ↓neg_vB, ↓neg_vS, ↓neg_vF, ↓neg_vO, ↓neg_vA, ↓neg_vN, lit_nI, nI_leI, nI_ltI, nI_eq, jm_in_nI, nI_clamp, nI_add, n_mul, pk_sub, n_le_t, n_le_f, n_lt_t, n_lt_f, n_eq_t, n_eq_f, true_and, and_true, ne_eq, not_false_eq_true, not_true_eq_false, min_n, max_n, dif_n, n_rem, n_div, or_nI, shl_nI, Option.toList_some, Option.toList_none, List.singleton_append, List.nil_append, if_true, if_false, or_true, true_or, or_false, false_or, and_false, false_and, Bool.false_eq_true, r1, h24]
    refine r_keep2 (k := k) (n := n) (f := f) hM (by omega) ⟨r1, r2⟩ (fun U u0 u1 u2 u3 => hZ U ?_ u2 u3)
    have e1 : pN n = n + 1 := by unfold pN; omega
    have e2 : pF n f k = fun q => if q < n then f q else k := by
      funext q
      unfold pF
      rw [if_pos (by omega)]
    rw [e1, e2]
    exact u1
/-- frames -/
theorem CA_of {S T : jm_I2} {n nx : Nat} {f : Nat → kT} (h : CA S n nx f) (g : ∀ o, o = 56 ∨ (58 ≤ o ∧ o ≤ 81) → T o = S o) : CA T n nx f := by
  obtain ⟨a, b, c⟩ := h
  refine ⟨by rw [g 56 (by omega)]; exact a, by rw [g 56 (by omega)]; exact b, fun q hq => RLn_of (c q hq) (g _ (by omega))⟩
theorem RA_of {S T : jm_I2} {n : Nat} {f : Nat → kT} (h : RA S n f) (g : T 135 = S 135) (g1 : T 128 9 = S 128 9) : RA T n f := ⟨g1.trans h.1, fun q hq i hi => by rw [g]; exact h.2 q hq i hi⟩
theorem p_give {v w : Int32} (hI : InvK xs S k) : CL L (d + 9) 87 [.ref 0, .int v, .int w] S (Zx xs L (d + 9) 175 [.ref 128, .int v, .int w]) := by
  have ht := top_sh L
  have hm := mod_sh L
  obtain ⟨hX, hM, hG⟩ := hI.2.2.2.1
  have hV := hG.1
  have hs := camp_sh isC25
  have hl := camp_ll L isC25
  have hM4 : RM 132 (jm_upd S 128 0 (nI 0)) k := RM_of hM (upd_ne (by decide))
  have v0 := hV.1
  have v1 := hV.2.1
  have v2 := hV.2.2.1
  have x0 := hX.1
  have e2 := hM4 2 (by decide)
  by_cases h : isN v (k 0) = true
  · by_cases h2 : nI 0 ≤ w ∧ w ≤ nI (k 2)
    · obtain ⟨r, hr, rfl⟩ := isN_of (by omega) h
      obtain ⟨b, -, hb, rfl⟩ := btw (by omega) h2 (by decide)
      clear h2
      obtain ⟨n, nx, f, hnx, hC, hR, hH⟩ := IA_get hI.2.2.2.2.1
      obtain ⟨z1, z2, z3, z4⟩ := hX.2.2.2.2.2 r hr
      simp (disch := omega) only [cl87, w87_0, w87_1, w87_2, w87_5, w87_8, w87_9, w87_10, w87_11, w87_14, w87_17, w87_20, w87_23, w87_25, w87_26, w87_27, w87_30, w87_31, w87_34, w87_37, w87_38, w87_41, w87_44, w87_45, w87_46, w87_47, w87_48, w87_51, w87_54, w87_55, w87_56, w87_57, w87_58, ht, hs, hl, ↓neg_vM, ↓neg_vB, ↓neg_vS, ↓neg_vF, ↓neg_vO, ↓neg_vA, ↓neg_vN, lit_nI, nI_leI, nI_ltI, nI_eq, jm_in_nI, nI_clamp, nI_add, n_mul, pk_sub, n_le_t, n_le_f, n_lt_t, n_lt_f, n_eq_t, n_eq_f, true_and, and_true, ne_eq, not_false_eq_true, not_true_eq_false, min_n, max_n, dif_n, n_rem, n_div, or_nI, shl_nI, Option.toList_some, Option.toList_none, List.singleton_append, List.nil_append, if_true, if_false, or_true, true_or, or_false, false_or, and_false, false_and, Bool.false_eq_true, c_noRule hX hV, h, c_withinP, x0]
      refine c_keep hX hV hH.1 hnx hC (fun T hC2 hf => ?_)
      have g4 : T (25 + 4) r = nI (kBt k r) := by rw [hf _ (by decide) (by decide), z2]
      simp (disch := omega) only [cl87, w87_0, w87_1, w87_2, w87_5, w87_8, w87_9, w87_10, w87_11, w87_14, w87_17, w87_20, w87_23, w87_25, w87_26, w87_27, w87_30, w87_31, w87_34, w87_37, w87_38, w87_41, w87_44, w87_45, w87_46, w87_47, w87_48, w87_51, w87_54, w87_55, w87_56, w87_57, w87_58, ht, hs, hl, ↓neg_vM, ↓neg_vB, ↓neg_vS, ↓neg_vF, ↓neg_vO, ↓neg_vA, ↓neg_vN, lit_nI, nI_leI, nI_ltI, nI_eq, jm_in_nI, nI_clamp, nI_add, n_mul, pk_sub, n_le_t, n_le_f, n_lt_t, n_lt_f, n_eq_t, n_eq_f, true_and, and_true, ne_eq, not_false_eq_true, not_true_eq_false, min_n, max_n, dif_n, n_rem, n_div, or_nI, shl_nI, Option.toList_some, Option.toList_none, List.singleton_append, List.nil_append, if_true, if_false, or_true, true_or, or_false, false_or, and_false, false_and, Bool.false_eq_true, g4, Zx_some]
      have hM5 : RM 132 (jm_upd (jm_upd T (25 + 4) r (nI b)) 128 0 (nI 0)) k := RM_of hM (by rw [upd_ne (by decide), upd_ne (by decide), hf _ (by decide) (by decide)])
      have e5 := hM5 2 (by decide)
      simp (disch := omega) only [cl175, w175_0, w175_1, w175_2, w175_5, w175_6, w175_7, w175_10, w175_13, w175_14, w175_15, w175_16, w175_17, w175_20, w175_21, w175_22, w175_23, w175_26, w175_29, w175_31, w175_32, w175_33, w175_36, w175_37, w175_40, w175_41, w175_42, w175_45, w175_46, w175_47, w175_50, w175_51, w175_52, w175_53, w175_56, w175_57, hm, ↓neg_vM, ↓neg_vB, ↓neg_vS, ↓neg_vF, ↓neg_vO, ↓neg_vA, ↓neg_vN, lit_nI, nI_leI, nI_ltI, nI_eq, jm_in_nI, nI_clamp, nI_add, n_mul, pk_sub, n_le_t, n_le_f, n_lt_t, n_lt_f, n_eq_t, n_eq_f, true_and, and_true, ne_eq, not_false_eq_true, not_true_eq_false, min_n, max_n, dif_n, n_rem, n_div, or_nI, shl_nI, Option.toList_some, Option.toList_none, List.singleton_append, List.nil_append, if_true, if_false, or_true, true_or, or_false, false_or, and_false, false_and, Bool.false_eq_true, r_isRule hM5 v0, h, lit_lN, nI_l, r_in, lN_le, e5]
      have hR5 : RA (jm_upd (jm_upd T (25 + 4) r (nI b)) 128 0 (nI 0)) n f := RA_of hR (by rw [upd_ne (by decide), upd_ne (by decide), hf _ (by decide) (by decide)]) (by rw [upd_at, if_neg (by omega), upd_ne (by decide), hf _ (by decide) (by decide)])
      refine r_keep hM5 hH.1 hR5 (fun U hR6 hf2 hf3 => ?_)
      have hM6 : RM 132 U k := RM_of hM5 (hf2 _ (by decide) (by decide))
      simp (disch := omega) only [cl175, w175_0, w175_1, w175_2, w175_5, w175_6, w175_7, w175_10, w175_13, w175_14, w175_15, w175_16, w175_17, w175_20, w175_21, w175_22, w175_23, w175_26, w175_29, w175_31, w175_32, w175_33, w175_36, w175_37, w175_40, w175_41, w175_42, w175_45, w175_46, w175_47, w175_50, w175_51, w175_52, w175_53, w175_56, w175_57, hm, ↓neg_vM, ↓neg_vB, ↓neg_vS, ↓neg_vF, ↓neg_vO, ↓neg_vA, ↓neg_vN, lit_nI, nI_leI, nI_ltI, nI_eq, jm_in_nI, nI_clamp, nI_add, n_mul, pk_sub, n_le_t, n_le_f, n_lt_t, n_lt_f, n_eq_t, n_eq_f, true_and, and_true, ne_eq, not_false_eq_true, not_true_eq_false, min_n, max_n, dif_n, n_rem, n_div, or_nI, shl_nI, Option.toList_some, Option.toList_none, List.singleton_append, List.nil_append, if_true, if_false, or_true, true_or, or_false, false_or, and_false, false_and, Bool.false_eq_true, r_of1 isR132 hM6, r_be isR132, Zm_some]
      refine ⟨kU k (14 + 4 * r + 1) b, InvK_A (n := pN n) (nx := (nx + 1) % 24) (g := pF n f k) hI ?_ (RM_upd hM6) (KG_U hG (by omega) (KV_U hV (by omega) (fun _ _ _ => by omega) (fun _ _ _ => by omega) (fun _ _ _ => by omega) (fun _ _ _ => by omega) (fun _ _ _ => by omega) (fun _ _ _ => by omega))) (by omega) ?_ ?_ (HA_same (HA_push hH hG) (sameK_U (by omega) (by omega))) (fun o ho => ?_) (fun i hi => ?_)⟩
      · refine RX_of (RX_Bt (b := b) (r := r) (RX_of hX (T := T) (fun o h1 h2 => hf o (by omega) (by omega))) v1) (fun o h1 h2 => ?_)
        rw [upd_ne (by omega), hf2 o (by omega) (by omega), upd_ne (by omega)]
      · refine CA_of hC2 (fun o ho => ?_)
        rw [upd_ne (by omega), hf2 o (by omega) (by omega), upd_ne (by omega), upd_ne (by omega)]
      · exact RA_of hR6 (upd_ne (by decide)) (by rw [upd_ne (by decide)])
      · rw [upd_ne (by omega), hf2 o (by omega) (by omega), upd_ne (by omega), upd_ne (by omega), hf o (by omega) (by omega)]
      · rw [upd_ne (by omega), hf3 i (by omega), upd_at, if_neg (by omega), upd_ne (by decide), hf _ (by decide) (by decide)]
    · simp (disch := omega) only [w87_0, w87_1, w87_2, w87_5, w87_8, w87_9, w87_10, w87_11, w87_14, w87_17, w87_20, w87_23, w87_25, cl87, ht, hs, hl, ↓neg_vM, ↓neg_vB, ↓neg_vS, ↓neg_vF, ↓neg_vO, ↓neg_vA, ↓neg_vN, lit_nI, nI_leI, nI_ltI, nI_eq, jm_in_nI, nI_clamp, nI_add, n_mul, pk_sub, n_le_t, n_le_f, n_lt_t, n_lt_f, n_eq_t, n_eq_f, true_and, and_true, ne_eq, not_false_eq_true, not_true_eq_false, min_n, max_n, dif_n, n_rem, n_div, or_nI, shl_nI, Option.toList_some, Option.toList_none, List.singleton_append, List.nil_append, if_true, if_false, or_true, true_or, or_false, false_or, and_false, false_and, Bool.false_eq_true, Zx_some, c_noRule hX hV, h, c_withinP, x0, h2]
      simp (disch := omega) only [w175_0, w175_1, w175_2, w175_5, w175_6, w175_7, w175_10, w175_13, w175_14, w175_15, w175_16, w175_17, w175_20, w175_21, w175_22, w175_23, w175_26, w175_29, w175_31, cl175, hm, ↓neg_vM, ↓neg_vB, ↓neg_vS, ↓neg_vF, ↓neg_vO, ↓neg_vA, ↓neg_vN, lit_nI, nI_leI, nI_ltI, nI_eq, jm_in_nI, nI_clamp, nI_add, n_mul, pk_sub, n_le_t, n_le_f, n_lt_t, n_lt_f, n_eq_t, n_eq_f, true_and, and_true, ne_eq, not_false_eq_true, not_true_eq_false, min_n, max_n, dif_n, n_rem, n_div, or_nI, shl_nI, Option.toList_some, Option.toList_none, List.singleton_append, List.nil_append, if_true, if_false, or_true, true_or, or_false, false_or, and_false, false_and, Bool.false_eq_true, Zm_some, r_isRule hM4 v0, h, lit_lN, nI_l, r_in, lx_le, xl_le, e2, h2]
      exact ⟨k, InvK_same hI Same_thrown⟩
  · simp (disch := omega) only [w87_0, w87_1, w87_2, w87_5, w87_8, w87_9, w87_10, w87_11, w87_14, w87_17, w87_20, w87_23, w87_25, cl87, ht, hs, hl, ↓neg_vM, ↓neg_vB, ↓neg_vS, ↓neg_vF, ↓neg_vO, ↓neg_vA, ↓neg_vN, lit_nI, nI_leI, nI_ltI, nI_eq, jm_in_nI, nI_clamp, nI_add, n_mul, pk_sub, n_le_t, n_le_f, n_lt_t, n_lt_f, n_eq_t, n_eq_f, true_and, and_true, ne_eq, not_false_eq_true, not_true_eq_false, min_n, max_n, dif_n, n_rem, n_div, or_nI, shl_nI, Option.toList_some, Option.toList_none, List.singleton_append, List.nil_append, if_true, if_false, or_true, true_or, or_false, false_or, and_false, false_and, Bool.false_eq_true, Zx_some, c_noRule hX hV, h]
    simp (disch := omega) only [w175_0, w175_1, w175_2, w175_5, w175_6, w175_7, w175_10, w175_13, w175_14, w175_15, w175_16, w175_17, w175_20, w175_21, w175_22, w175_23, w175_26, w175_29, w175_31, cl175, hm, ↓neg_vM, ↓neg_vB, ↓neg_vS, ↓neg_vF, ↓neg_vO, ↓neg_vA, ↓neg_vN, lit_nI, nI_leI, nI_ltI, nI_eq, jm_in_nI, nI_clamp, nI_add, n_mul, pk_sub, n_le_t, n_le_f, n_lt_t, n_lt_f, n_eq_t, n_eq_f, true_and, and_true, ne_eq, not_false_eq_true, not_true_eq_false, min_n, max_n, dif_n, n_rem, n_div, or_nI, shl_nI, Option.toList_some, Option.toList_none, List.singleton_append, List.nil_append, if_true, if_false, or_true, true_or, or_false, false_or, and_false, false_and, Bool.false_eq_true, Zm_some, r_isRule hM4 v0, h]
    exact ⟨k, InvK_same hI Same_thrown⟩
theorem p_bars {v w : Int32} (hI : InvK xs S k) : CL L (d + 9) 90 [.ref 0, .int v, .int w] S (Zx xs L (d + 9) 178 [.ref 128, .int v, .int w]) := by
  have ht := top_sh L
  have hm := mod_sh L
  obtain ⟨hX, hM, hG⟩ := hI.2.2.2.1
  have hV := hG.1
  have hs := camp_sh isC25
  have hl := camp_ll L isC25
  have hM4 : RM 132 (jm_upd S 128 0 (nI 0)) k := RM_of hM (upd_ne (by decide))
  have v0 := hV.1
  have v1 := hV.2.1
  by_cases h : isN v (k 0) = true
  · by_cases h2 : nI 0 ≤ w ∧ w ≤ nI 63
    · obtain ⟨r, hr, rfl⟩ := isN_of (by omega) h
      obtain ⟨b, -, hb, rfl⟩ := btw (by decide) h2 (by decide)
      clear h2
      obtain ⟨n, nx, f, hnx, hC, hR, hH⟩ := IA_get hI.2.2.2.2.1
      obtain ⟨z1, z2, z3, z4⟩ := hX.2.2.2.2.2 r hr
      simp (disch := omega) only [cl90, w90_0, w90_1, w90_2, w90_5, w90_8, w90_9, w90_10, w90_12, w90_15, w90_18, w90_20, w90_21, w90_22, w90_25, w90_26, w90_29, w90_32, w90_33, w90_36, w90_39, w90_40, w90_41, w90_42, w90_43, w90_46, w90_49, w90_50, w90_51, w90_52, w90_53, ht, hs, hl, ↓neg_vM, ↓neg_vB, ↓neg_vS, ↓neg_vF, ↓neg_vO, ↓neg_vA, ↓neg_vN, lit_nI, nI_leI, nI_ltI, nI_eq, jm_in_nI, nI_clamp, nI_add, n_mul, pk_sub, n_le_t, n_le_f, n_lt_t, n_lt_f, n_eq_t, n_eq_f, true_and, and_true, ne_eq, not_false_eq_true, not_true_eq_false, min_n, max_n, dif_n, n_rem, n_div, or_nI, shl_nI, Option.toList_some, Option.toList_none, List.singleton_append, List.nil_append, if_true, if_false, or_true, true_or, or_false, false_or, and_false, false_and, Bool.false_eq_true, c_noRule hX hV, h, c_withinP]
      refine c_keep hX hV hH.1 hnx hC (fun T hC2 hf => ?_)
      have g4 : T (25 + 6) r = nI (kBr k r) := by rw [hf _ (by decide) (by decide), z4]
      simp (disch := omega) only [cl90, w90_0, w90_1, w90_2, w90_5, w90_8, w90_9, w90_10, w90_12, w90_15, w90_18, w90_20, w90_21, w90_22, w90_25, w90_26, w90_29, w90_32, w90_33, w90_36, w90_39, w90_40, w90_41, w90_42, w90_43, w90_46, w90_49, w90_50, w90_51, w90_52, w90_53, ht, hs, hl, ↓neg_vM, ↓neg_vB, ↓neg_vS, ↓neg_vF, ↓neg_vO, ↓neg_vA, ↓neg_vN, lit_nI, nI_leI, nI_ltI, nI_eq, jm_in_nI, nI_clamp, nI_add, n_mul, pk_sub, n_le_t, n_le_f, n_lt_t, n_lt_f, n_eq_t, n_eq_f, true_and, and_true, ne_eq, not_false_eq_true, not_true_eq_false, min_n, max_n, dif_n, n_rem, n_div, or_nI, shl_nI, Option.toList_some, Option.toList_none, List.singleton_append, List.nil_append, if_true, if_false, or_true, true_or, or_false, false_or, and_false, false_and, Bool.false_eq_true, g4, Zx_some]
      have hM5 : RM 132 (jm_upd (jm_upd T (25 + 6) r (nI b)) 128 0 (nI 0)) k := RM_of hM (by rw [upd_ne (by decide), upd_ne (by decide), hf _ (by decide) (by decide)])
      simp (disch := omega) only [cl178, w178_0, w178_1, w178_2, w178_5, w178_6, w178_7, w178_10, w178_13, w178_14, w178_15, w178_16, w178_19, w178_22, w178_25, w178_27, w178_28, w178_29, w178_32, w178_33, w178_36, w178_37, w178_38, w178_41, w178_42, w178_43, w178_46, w178_47, w178_48, w178_49, w178_52, w178_53, hm, ↓neg_vM, ↓neg_vB, ↓neg_vS, ↓neg_vF, ↓neg_vO, ↓neg_vA, ↓neg_vN, lit_nI, nI_leI, nI_ltI, nI_eq, jm_in_nI, nI_clamp, nI_add, n_mul, pk_sub, n_le_t, n_le_f, n_lt_t, n_lt_f, n_eq_t, n_eq_f, true_and, and_true, ne_eq, not_false_eq_true, not_true_eq_false, min_n, max_n, dif_n, n_rem, n_div, or_nI, shl_nI, Option.toList_some, Option.toList_none, List.singleton_append, List.nil_append, if_true, if_false, or_true, true_or, or_false, false_or, and_false, false_and, Bool.false_eq_true, r_isRule hM5 v0, h, lit_lN, nI_l, r_in, lN_le]
      have hR5 : RA (jm_upd (jm_upd T (25 + 6) r (nI b)) 128 0 (nI 0)) n f := RA_of hR (by rw [upd_ne (by decide), upd_ne (by decide), hf _ (by decide) (by decide)]) (by rw [upd_at, if_neg (by omega), upd_ne (by decide), hf _ (by decide) (by decide)])
      refine r_keep hM5 hH.1 hR5 (fun U hR6 hf2 hf3 => ?_)
      have hM6 : RM 132 U k := RM_of hM5 (hf2 _ (by decide) (by decide))
      simp (disch := omega) only [cl178, w178_0, w178_1, w178_2, w178_5, w178_6, w178_7, w178_10, w178_13, w178_14, w178_15, w178_16, w178_19, w178_22, w178_25, w178_27, w178_28, w178_29, w178_32, w178_33, w178_36, w178_37, w178_38, w178_41, w178_42, w178_43, w178_46, w178_47, w178_48, w178_49, w178_52, w178_53, hm, ↓neg_vM, ↓neg_vB, ↓neg_vS, ↓neg_vF, ↓neg_vO, ↓neg_vA, ↓neg_vN, lit_nI, nI_leI, nI_ltI, nI_eq, jm_in_nI, nI_clamp, nI_add, n_mul, pk_sub, n_le_t, n_le_f, n_lt_t, n_lt_f, n_eq_t, n_eq_f, true_and, and_true, ne_eq, not_false_eq_true, not_true_eq_false, min_n, max_n, dif_n, n_rem, n_div, or_nI, shl_nI, Option.toList_some, Option.toList_none, List.singleton_append, List.nil_append, if_true, if_false, or_true, true_or, or_false, false_or, and_false, false_and, Bool.false_eq_true, r_of3 isR132 hM6, r_be isR132, Zm_some]
      refine ⟨kU k (14 + 4 * r + 3) b, InvK_A (n := pN n) (nx := (nx + 1) % 24) (g := pF n f k) hI ?_ (RM_upd hM6) (KG_U hG (by omega) (KV_U hV (by omega) (fun _ _ _ => by omega) (fun _ _ _ => by omega) (fun _ _ _ => by omega) (fun _ _ _ => by omega) (fun _ _ _ => by omega) (fun _ _ _ => by omega))) (by omega) ?_ ?_ (HA_same (HA_push hH hG) (sameK_U (by omega) (by omega))) (fun o ho => ?_) (fun i hi => ?_)⟩
      · refine RX_of (RX_Br (b := b) (r := r) (RX_of hX (T := T) (fun o h1 h2 => hf o (by omega) (by omega))) v1) (fun o h1 h2 => ?_)
        rw [upd_ne (by omega), hf2 o (by omega) (by omega), upd_ne (by omega)]
      · refine CA_of hC2 (fun o ho => ?_)
        rw [upd_ne (by omega), hf2 o (by omega) (by omega), upd_ne (by omega), upd_ne (by omega)]
      · exact RA_of hR6 (upd_ne (by decide)) (by rw [upd_ne (by decide)])
      · rw [upd_ne (by omega), hf2 o (by omega) (by omega), upd_ne (by omega), upd_ne (by omega), hf o (by omega) (by omega)]
      · rw [upd_ne (by omega), hf3 i (by omega), upd_at, if_neg (by omega), upd_ne (by decide), hf _ (by decide) (by decide)]
    · simp (disch := omega) only [w90_0, w90_1, w90_2, w90_5, w90_8, w90_9, w90_10, w90_12, w90_15, w90_18, w90_20, cl90, ht, hs, hl, ↓neg_vM, ↓neg_vB, ↓neg_vS, ↓neg_vF, ↓neg_vO, ↓neg_vA, ↓neg_vN, lit_nI, nI_leI, nI_ltI, nI_eq, jm_in_nI, nI_clamp, nI_add, n_mul, pk_sub, n_le_t, n_le_f, n_lt_t, n_lt_f, n_eq_t, n_eq_f, true_and, and_true, ne_eq, not_false_eq_true, not_true_eq_false, min_n, max_n, dif_n, n_rem, n_div, or_nI, shl_nI, Option.toList_some, Option.toList_none, List.singleton_append, List.nil_append, if_true, if_false, or_true, true_or, or_false, false_or, and_false, false_and, Bool.false_eq_true, Zx_some, c_noRule hX hV, h, c_withinP, h2]
      simp (disch := omega) only [w178_0, w178_1, w178_2, w178_5, w178_6, w178_7, w178_10, w178_13, w178_14, w178_15, w178_16, w178_19, w178_22, w178_25, w178_27, cl178, hm, ↓neg_vM, ↓neg_vB, ↓neg_vS, ↓neg_vF, ↓neg_vO, ↓neg_vA, ↓neg_vN, lit_nI, nI_leI, nI_ltI, nI_eq, jm_in_nI, nI_clamp, nI_add, n_mul, pk_sub, n_le_t, n_le_f, n_lt_t, n_lt_f, n_eq_t, n_eq_f, true_and, and_true, ne_eq, not_false_eq_true, not_true_eq_false, min_n, max_n, dif_n, n_rem, n_div, or_nI, shl_nI, Option.toList_some, Option.toList_none, List.singleton_append, List.nil_append, if_true, if_false, or_true, true_or, or_false, false_or, and_false, false_and, Bool.false_eq_true, Zm_some, r_isRule hM4 v0, h, lit_lN, r_in, lx_le, xl_le, h2]
      exact ⟨k, InvK_same hI Same_thrown⟩
  · simp (disch := omega) only [w90_0, w90_1, w90_2, w90_5, w90_8, w90_9, w90_10, w90_12, w90_15, w90_18, w90_20, cl90, ht, hs, hl, ↓neg_vM, ↓neg_vB, ↓neg_vS, ↓neg_vF, ↓neg_vO, ↓neg_vA, ↓neg_vN, lit_nI, nI_leI, nI_ltI, nI_eq, jm_in_nI, nI_clamp, nI_add, n_mul, pk_sub, n_le_t, n_le_f, n_lt_t, n_lt_f, n_eq_t, n_eq_f, true_and, and_true, ne_eq, not_false_eq_true, not_true_eq_false, min_n, max_n, dif_n, n_rem, n_div, or_nI, shl_nI, Option.toList_some, Option.toList_none, List.singleton_append, List.nil_append, if_true, if_false, or_true, true_or, or_false, false_or, and_false, false_and, Bool.false_eq_true, Zx_some, c_noRule hX hV, h]
    simp (disch := omega) only [w178_0, w178_1, w178_2, w178_5, w178_6, w178_7, w178_10, w178_13, w178_14, w178_15, w178_16, w178_19, w178_22, w178_25, w178_27, cl178, hm, ↓neg_vM, ↓neg_vB, ↓neg_vS, ↓neg_vF, ↓neg_vO, ↓neg_vA, ↓neg_vN, lit_nI, nI_leI, nI_ltI, nI_eq, jm_in_nI, nI_clamp, nI_add, n_mul, pk_sub, n_le_t, n_le_f, n_lt_t, n_lt_f, n_eq_t, n_eq_f, true_and, and_true, ne_eq, not_false_eq_true, not_true_eq_false, min_n, max_n, dif_n, n_rem, n_div, or_nI, shl_nI, Option.toList_some, Option.toList_none, List.singleton_append, List.nil_append, if_true, if_false, or_true, true_or, or_false, false_or, and_false, false_and, Bool.false_eq_true, Zm_some, r_isRule hM4 v0, h]
    exact ⟨k, InvK_same hI Same_thrown⟩
end
