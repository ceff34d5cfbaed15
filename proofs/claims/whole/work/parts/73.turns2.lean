/-! ===== turns of two: the reference ===== -/
def apN (k : kT) (r : Nat) (g : Nat → Nat) : Nat → kT
  | 0 => k
  | t + 1 => apT (apN k r g t) t r (g t)
def TS (S : jm_I2) (k : kT) (r q : Nat) (K : kT) : Prop := ∃ g : Nat → Nat, (∀ t, t < q → S 140 t = nI (g t) ∧ g t ≤ 7) ∧ K = apN k r g q
theorem apN_cong {k : kT} {r : Nat} {g g' : Nat → Nat} : ∀ {n : Nat}, (∀ t, t < n → g t = g' t) → apN k r g n = apN k r g' n
  | 0, _ => rfl
  | n + 1, h => by
    show apT (apN k r g n) n r (g n) = apT (apN k r g' n) n r (g' n)
    rw [apN_cong (fun t ht => h t (by omega)), h n (by omega)]
theorem apN_low {k : kT} {r : Nat} {g : Nat → Nat} {i : Nat} (hi : i < 4) : ∀ n, apN k r g n i = k i
  | 0 => rfl
  | n + 1 => by
    show apT (apN k r g n) n r (g n) i = k i
    rw [apT_low hi, apN_low hi n]
theorem apN_ok {k : kT} {r m : Nat} {g : Nat → Nat} (h : okT r m k) : ∀ n, okT r m (apN k r g n)
  | 0 => h
  | n + 1 => okT_ap (apN_ok h n) n (g n)
theorem TS_0 {S : jm_I2} {k : kT} {r : Nat} : TS S k r 0 k := ⟨fun _ => 0, fun t ht => absurd ht (by omega), rfl⟩
theorem TS_of {S T : jm_I2} {k K : kT} {r q : Nat} (h : TS S k r q K) (f : ∀ t, t < q → T 140 t = S 140 t) : TS T k r q K := by
  obtain ⟨g, h1, h2⟩ := h
  exact ⟨g, fun t ht => by rw [f t ht]; exact h1 t ht, h2⟩
theorem TS_S {S : jm_I2} {k K : kT} {r q h : Nat} (hT : TS S k r q K) (hh : h ≤ 7) : TS (jm_upd S 140 q (nI h)) k r (q + 1) (apT K q r h) := by
  obtain ⟨g, h1, rfl⟩ := hT
  refine ⟨fun t => if t = q then h else g t, fun t ht => ?_, ?_⟩
  · rw [upd_at]
    dsimp only
    by_cases e : t = q
    · rw [if_pos ⟨rfl, e⟩, if_pos e]; exact ⟨rfl, hh⟩
    · rw [if_neg (fun q => e q.2), if_neg e]; exact h1 t (by omega)
  · show apT (apN k r g q) q r h = apT (apN k r (fun t => if t = q then h else g t) q) q r (if q = q then h else g q)
    rw [if_pos rfl, apN_cong (g' := g) (fun t ht => if_neg (by omega))]
theorem TS_ok {S : jm_I2} {k K : kT} {r q m : Nat} (hT : TS S k r q K) (ho : okT r m k) : okT r m K := by
  obtain ⟨g, -, rfl⟩ := hT
  exact apN_ok ho q
def offR (S T : jm_I2) : Prop := ∀ o, o ≠ 134 → o ≠ 137 → o ≠ 138 → o ≠ 140 → T o = S o
def lpM (b : Nat → Nat) : Nat → Nat → Nat → Nat
  | 0, _, f => f
  | g + 1, h, f => lpM b g (h + 2) (min (b h) f)
def lpX (b : Nat → Nat) : Nat → Nat → Nat → Nat
  | 0, _, f => f
  | g + 1, h, f => lpX b g (h + 2) (max (b h) f)
section
variable {xs : Nat → Int32} {L d : Nat} {S : jm_I2} {k : kT} {Z : Option Value → jm_I2 → Prop}
theorem r_after {r m n : Nat} {K : kT} (hM : RM 132 S k) (ho : okT r m k) (hm : m ≤ 1000) (hn : n ≤ 4) (hT : TS S k r n K) (hZ : ∀ T, (∀ o, o ≠ 134 → o ≠ 137 → o ≠ 138 → T o = S o) → Z (some (.int (nI (kBt (hoursA K m) r)))) T) : CL L (d + 6) 192 [.ref 128, .int (nI r), .int (nI n), .int (nI m)] S Z := by
  have hm' := mod_sh L
  obtain ⟨g, hg, rfl⟩ := hT
  have hV := ho.1
  have v0 := hV.1
  have v1 := hV.2.1
  have hr := ho.2.1
  have key : ∀ t, t ≤ n → ∀ T, RM 134 T (apN k r g t) → (∀ o, o ≠ 134 → T o = S o) → WQ L (d + 6) 192 7 [.ref 128, .int (nI r), .int (nI n), .int (nI m), .int (nI t)] [] T Z := by
    apply down_ind
    · intro T tM tf
      rw [w192_7]
      simp (disch := omega) only [w192_9, w192_10, w192_62, w192_63, w192_64, w192_67, w192_68, hm', ↓neg_vM, ↓neg_vB, ↓neg_vS, ↓neg_vF, ↓neg_vO, ↓neg_vA, ↓neg_vN, lit_nI, nI_leI, nI_ltI, nI_eq, jm_in_nI, nI_clamp, nI_add, n_mul, pk_sub, n_le_t, n_le_f, n_lt_t, n_lt_f, n_eq_t, n_eq_f, true_and, and_true, ne_eq, not_false_eq_true, not_true_eq_false, min_n, max_n, dif_n, n_rem, n_div, or_nI, shl_nI, Option.toList_some, Option.toList_none, List.singleton_append, List.nil_append, if_true, if_false, or_true, true_or, or_false, false_or, and_false, false_and, Bool.false_eq_true]
      refine r_hoursOf isR134 tM (apN_ok ho n).1 (apN_ok ho n).2.2.2 (fun U uM uf => ?_)
      simp (disch := omega) only [w192_71, w192_72, w192_75, w192_76, w192_77, w192_80, hm', ↓neg_vM, ↓neg_vB, ↓neg_vS, ↓neg_vF, ↓neg_vO, ↓neg_vA, ↓neg_vN, lit_nI, nI_leI, nI_ltI, nI_eq, jm_in_nI, nI_clamp, nI_add, n_mul, pk_sub, n_le_t, n_le_f, n_lt_t, n_lt_f, n_eq_t, n_eq_f, true_and, and_true, ne_eq, not_false_eq_true, not_true_eq_false, min_n, max_n, dif_n, n_rem, n_div, or_nI, shl_nI, Option.toList_some, Option.toList_none, List.singleton_append, List.nil_append, if_true, if_false, or_true, true_or, or_false, false_or, and_false, false_and, Bool.false_eq_true, r_of1 isR134 uM]
      exact hZ U (fun o a b c => by rw [uf o a b c, tf o a])
    · intro t ht ih T tM tf
      have e1 : T 132 1 = nI (k 1) := by rw [tf 132 (by decide)]; exact hM 1 (by decide)
      have e2 : T 140 t = nI (g t) := by rw [tf 140 (by decide)]; exact (hg t ht).1
      have g7 := (hg t ht).2
      have et : t - t / 2 * 2 = t % 2 := by omega
      have ea : apN k r g (t + 1) = apT (apN k r g t) t r (g t) := rfl
      unfold apT at ea
      rw [apN_low (by decide)] at ea
      rw [w192_7]
      by_cases c : g t < k 1
      · rw [if_pos c] at ea
        by_cases c2 : t % 2 = 0
        · rw [if_pos c2] at ea
          simp (disch := omega) only [w192_9, w192_10, w192_13, w192_14, w192_17, w192_19, w192_20, w192_21, w192_24, w192_25, w192_26, w192_29, w192_30, w192_33, w192_34, w192_37, w192_39, w192_40, w192_42, w192_43, w192_44, w192_47, w192_48, w192_51, w192_53, w192_56, w192_59, hm', ↓neg_vM, ↓neg_vB, ↓neg_vS, ↓neg_vF, ↓neg_vO, ↓neg_vA, ↓neg_vN, lit_nI, nI_leI, nI_ltI, nI_eq, jm_in_nI, nI_clamp, nI_add, n_mul, pk_sub, n_le_t, n_le_f, n_lt_t, n_lt_f, n_eq_t, n_eq_f, true_and, and_true, ne_eq, not_false_eq_true, not_true_eq_false, min_n, max_n, dif_n, n_rem, n_div, or_nI, shl_nI, Option.toList_some, Option.toList_none, List.singleton_append, List.nil_append, if_true, if_false, or_true, true_or, or_false, false_or, and_false, false_and, Bool.false_eq_true, e1, e2, et, c2, r_plays isR134]
          refine ih _ ?_ (fun o ho => by rw [upd_ne ho, tf o ho])
          rw [ea]
          exact RM_upd tM
        · rw [if_neg c2] at ea
          simp (disch := omega) only [w192_9, w192_10, w192_13, w192_14, w192_17, w192_19, w192_20, w192_21, w192_24, w192_25, w192_26, w192_29, w192_30, w192_33, w192_34, w192_37, w192_39, w192_40, w192_42, w192_43, w192_44, w192_47, w192_48, w192_51, w192_53, w192_56, w192_59, hm', ↓neg_vM, ↓neg_vB, ↓neg_vS, ↓neg_vF, ↓neg_vO, ↓neg_vA, ↓neg_vN, lit_nI, nI_leI, nI_ltI, nI_eq, jm_in_nI, nI_clamp, nI_add, n_mul, pk_sub, n_le_t, n_le_f, n_lt_t, n_lt_f, n_eq_t, n_eq_f, true_and, and_true, ne_eq, not_false_eq_true, not_true_eq_false, min_n, max_n, dif_n, n_rem, n_div, or_nI, shl_nI, Option.toList_some, Option.toList_none, List.singleton_append, List.nil_append, if_true, if_false, or_true, true_or, or_false, false_or, and_false, false_and, Bool.false_eq_true, e1, e2, et, c2, r_playsN isR134]
          refine ih _ ?_ (fun o ho => by rw [upd_ne ho, tf o ho])
          rw [ea]
          exact RM_upd tM
      · rw [if_neg c] at ea
        simp (disch := omega) only [w192_9, w192_10, w192_13, w192_14, w192_17, w192_19, w192_20, w192_21, w192_24, w192_25, w192_26, w192_29, w192_30, w192_33, w192_34, w192_37, w192_39, w192_40, w192_42, w192_43, w192_44, w192_47, w192_48, w192_51, w192_53, w192_56, w192_59, hm', ↓neg_vM, ↓neg_vB, ↓neg_vS, ↓neg_vF, ↓neg_vO, ↓neg_vA, ↓neg_vN, lit_nI, nI_leI, nI_ltI, nI_eq, jm_in_nI, nI_clamp, nI_add, n_mul, pk_sub, n_le_t, n_le_f, n_lt_t, n_lt_f, n_eq_t, n_eq_f, true_and, and_true, ne_eq, not_false_eq_true, not_true_eq_false, min_n, max_n, dif_n, n_rem, n_div, or_nI, shl_nI, Option.toList_some, Option.toList_none, List.singleton_append, List.nil_append, if_true, if_false, or_true, true_or, or_false, false_or, and_false, false_and, Bool.false_eq_true, e1, e2]
        exact ih _ (by rw [ea]; exact tM) tf
  simp (disch := omega) only [cl192, w192_0, w192_1, w192_4, w192_5, hm', ↓neg_vM, ↓neg_vB, ↓neg_vS, ↓neg_vF, ↓neg_vO, ↓neg_vA, ↓neg_vN, lit_nI, nI_leI, nI_ltI, nI_eq, jm_in_nI, nI_clamp, nI_add, n_mul, pk_sub, n_le_t, n_le_f, n_lt_t, n_lt_f, n_eq_t, n_eq_f, true_and, and_true, ne_eq, not_false_eq_true, not_true_eq_false, min_n, max_n, dif_n, n_rem, n_div, or_nI, shl_nI, Option.toList_some, Option.toList_none, List.singleton_append, List.nil_append, if_true, if_false, or_true, true_or, or_false, false_or, and_false, false_and, Bool.false_eq_true, r_layThen hM]
  exact key 0 (Nat.zero_le _) _ RM_fill (fun o ho => fillS_ne ho)
theorem r_lv4 {r m n q j : Nat} {K : kT} (hM : RM 132 S k) (ho : okT r m k) (hm : m ≤ 1000) (hn : n ≤ 4) (hq : q = min n 4) (hj : j = n - q) (hT : TS S k r q K) (hZ : ∀ T, offR S T → (∀ t, t < 4 → T 140 t = S 140 t) → Z (some (.int (nI (tvN r m j q K)))) T) : CL L (d + 6) 192 [.ref 128, .int (nI r), .int (nI n), .int (nI m)] S Z := by
  have e1 : q = n := by omega
  have e2 : j = 0 := by omega
  subst e1 e2
  exact r_after hM ho hm hn hT (fun T tf => hZ T (fun o a b c _ => tf o a b c) (fun t _ => by rw [tf 140 (by decide) (by decide) (by decide)]))
set_option maxHeartbeats 8000000 in
theorem r_lv3 {r m n q j : Nat} {K : kT} (hM : RM 132 S k) (ho : okT r m k) (hm : m ≤ 1000) (hn : n ≤ 4) (hq : q = min n 3) (hj : j = n - q) (hT : TS S k r q K) (hZ : ∀ T, offR S T → (∀ t, t < 3 → T 140 t = S 140 t) → Z (some (.int (nI (tvN r m j q K)))) T) : CL L (d + 7) 193 [.ref 128, .int (nI r), .int (nI n), .int (nI m)] S Z := by
  have hm' := mod_sh L
  have v0 := ho.1.1
  have hr := ho.2.1
  by_cases c : n ≤ 3
  · have e1 : q = n := by omega
    subst e1
    simp (disch := omega) only [cl193, w193_0, w193_1, w193_2, w193_5, w193_6, w193_7, w193_8, w193_9, w193_12, hm', ↓neg_vM, ↓neg_vB, ↓neg_vS, ↓neg_vF, ↓neg_vO, ↓neg_vA, ↓neg_vN, lit_nI, nI_leI, nI_ltI, nI_eq, jm_in_nI, nI_clamp, nI_add, n_mul, pk_sub, n_le_t, n_le_f, n_lt_t, n_lt_f, n_eq_t, n_eq_f, true_and, and_true, ne_eq, not_false_eq_true, not_true_eq_false, min_n, max_n, dif_n, n_rem, n_div, or_nI, shl_nI, Option.toList_some, Option.toList_none, List.singleton_append, List.nil_append, if_true, if_false, or_true, true_or, or_false, false_or, and_false, false_and, Bool.false_eq_true]
    refine r_lv4 (q := q) (j := j) hM ho hm hn (by omega) (by omega) hT (fun T a b => ?_)
    simp (disch := omega) only [w193_0, w193_1, w193_2, w193_5, w193_6, w193_7, w193_8, w193_9, w193_12, hm', ↓neg_vM, ↓neg_vB, ↓neg_vS, ↓neg_vF, ↓neg_vO, ↓neg_vA, ↓neg_vN, lit_nI, nI_leI, nI_ltI, nI_eq, jm_in_nI, nI_clamp, nI_add, n_mul, pk_sub, n_le_t, n_le_f, n_lt_t, n_lt_f, n_eq_t, n_eq_f, true_and, and_true, ne_eq, not_false_eq_true, not_true_eq_false, min_n, max_n, dif_n, n_rem, n_div, or_nI, shl_nI, Option.toList_some, Option.toList_none, List.singleton_append, List.nil_append, if_true, if_false, or_true, true_or, or_false, false_or, and_false, false_and, Bool.false_eq_true]
    exact hZ T a (fun t ht => b t (by omega))
  · have e1 : q = 3 := by omega
    subst e1
    obtain ⟨i, hi⟩ : ∃ i, j = i + 1 := ⟨j - 1, by omega⟩
    subst hi
    obtain ⟨b, hb⟩ : ∃ b : Nat → Nat, ∀ h, b h = tvN r m i 4 (apT K 3 r h) := ⟨_, fun _ => rfl⟩
    have hb60 : ∀ h, b h ≤ 60 := fun h => by rw [hb]; exact tvN_le (okT_ap (TS_ok hT ho) 3 h)
    have loop : ∀ g h f S1 u, h + 2 * g = 7 → f ≤ 99 → offR S S1 → (∀ t, t < 3 → S1 140 t = S 140 t) → (∀ T, offR S T → (∀ t, t < 3 → T 140 t = S 140 t) → Z (some (.int (nI (lpM b g h f)))) T) → WQ L (d + 7) 193 20 [.ref 128, .int (nI r), .int (nI n), .int (nI m), .int (nI f), .int (nI h), u] [] S1 Z := by
      intro g
      induction g with
      | zero =>
        intro h f S1 u hg hf tf tk hZ2
        rw [w193_20]
        simp (disch := omega) only [w193_22, w193_24, w193_66, w193_68, hm', ↓neg_vM, ↓neg_vB, ↓neg_vS, ↓neg_vF, ↓neg_vO, ↓neg_vA, ↓neg_vN, lit_nI, nI_leI, nI_ltI, nI_eq, jm_in_nI, nI_clamp, nI_add, n_mul, pk_sub, n_le_t, n_le_f, n_lt_t, n_lt_f, n_eq_t, n_eq_f, true_and, and_true, ne_eq, not_false_eq_true, not_true_eq_false, min_n, max_n, dif_n, n_rem, n_div, or_nI, shl_nI, Option.toList_some, Option.toList_none, List.singleton_append, List.nil_append, if_true, if_false, or_true, true_or, or_false, false_or, and_false, false_and, Bool.false_eq_true]
        exact hZ2 S1 tf tk
      | succ g ihg =>
        intro h f S1 u hg hf tf tk hZ2
        have hM1 : RM 132 (jm_upd S1 140 3 (nI h)) k := RM_of hM (by rw [upd_ne (by decide), tf 132 (by decide) (by decide) (by decide) (by decide)])
        have hbh := hb60 h
        rw [w193_20]
        simp (disch := omega) only [w193_22, w193_24, w193_27, w193_28, w193_31, w193_32, w193_34, w193_35, w193_36, w193_37, w193_38, w193_39, hm', ↓neg_vM, ↓neg_vB, ↓neg_vS, ↓neg_vF, ↓neg_vO, ↓neg_vA, ↓neg_vN, lit_nI, nI_leI, nI_ltI, nI_eq, jm_in_nI, nI_clamp, nI_add, n_mul, pk_sub, n_le_t, n_le_f, n_lt_t, n_lt_f, n_eq_t, n_eq_f, true_and, and_true, ne_eq, not_false_eq_true, not_true_eq_false, min_n, max_n, dif_n, n_rem, n_div, or_nI, shl_nI, Option.toList_some, Option.toList_none, List.singleton_append, List.nil_append, if_true, if_false, or_true, true_or, or_false, false_or, and_false, false_and, Bool.false_eq_true]
        refine r_lv4 (q := 4) (j := i) (K := apT K 3 r h) hM1 ho hm hn (by omega) (by omega) (TS_S (TS_of hT tk) (by omega)) (fun T a a2 => ?_)
        rw [← hb]
        have tf2 : offR S T := fun o x y z w => by rw [a o x y z w, upd_ne w, tf o x y z w]
        have tk2 : ∀ t, t < 3 → T 140 t = S 140 t := fun t ht => by rw [a2 t (by omega), upd_at, if_neg (by omega), tk t ht]
        by_cases cc : f ≤ b h
        · simp (disch := omega) only [w193_42, w193_44, w193_46, w193_48, w193_51, w193_53, w193_56, w193_58, w193_60, w193_63, hm', ↓neg_vM, ↓neg_vB, ↓neg_vS, ↓neg_vF, ↓neg_vO, ↓neg_vA, ↓neg_vN, lit_nI, nI_leI, nI_ltI, nI_eq, jm_in_nI, nI_clamp, nI_add, n_mul, pk_sub, n_le_t, n_le_f, n_lt_t, n_lt_f, n_eq_t, n_eq_f, true_and, and_true, ne_eq, not_false_eq_true, not_true_eq_false, min_n, max_n, dif_n, n_rem, n_div, or_nI, shl_nI, Option.toList_some, Option.toList_none, List.singleton_append, List.nil_append, if_true, if_false, or_true, true_or, or_false, false_or, and_false, false_and, Bool.false_eq_true]
          exact ihg (h + 2) f T _ (by omega) hf tf2 tk2 (fun T x y => by
            have z := hZ2 T x y
            rw [lpM, show min (b h) f = f by omega] at z
            exact z)
        · simp (disch := omega) only [w193_42, w193_44, w193_46, w193_48, w193_51, w193_53, w193_56, w193_58, w193_60, w193_63, hm', ↓neg_vM, ↓neg_vB, ↓neg_vS, ↓neg_vF, ↓neg_vO, ↓neg_vA, ↓neg_vN, lit_nI, nI_leI, nI_ltI, nI_eq, jm_in_nI, nI_clamp, nI_add, n_mul, pk_sub, n_le_t, n_le_f, n_lt_t, n_lt_f, n_eq_t, n_eq_f, true_and, and_true, ne_eq, not_false_eq_true, not_true_eq_false, min_n, max_n, dif_n, n_rem, n_div, or_nI, shl_nI, Option.toList_some, Option.toList_none, List.singleton_append, List.nil_append, if_true, if_false, or_true, true_or, or_false, false_or, and_false, false_and, Bool.false_eq_true]
          exact ihg (h + 2) (b h) T _ (by omega) (by omega) tf2 tk2 (fun T x y => by
            have z := hZ2 T x y
            rw [lpM, show min (b h) f = b h by omega] at z
            exact z)
    have fin : lpM b 3 1 99 = tvN r m (i + 1) 3 K := by
      have h1 := hb60 1
      rw [tvN, if_neg (by decide), ← hb, ← hb, ← hb]
      simp only [lpM, Nat.reduceAdd]
      omega
    simp (disch := omega) only [cl193, w193_0, w193_1, w193_2, w193_13, w193_15, w193_17, w193_18, hm', ↓neg_vM, ↓neg_vB, ↓neg_vS, ↓neg_vF, ↓neg_vO, ↓neg_vA, ↓neg_vN, lit_nI, nI_leI, nI_ltI, nI_eq, jm_in_nI, nI_clamp, nI_add, n_mul, pk_sub, n_le_t, n_le_f, n_lt_t, n_lt_f, n_eq_t, n_eq_f, true_and, and_true, ne_eq, not_false_eq_true, not_true_eq_false, min_n, max_n, dif_n, n_rem, n_div, or_nI, shl_nI, Option.toList_some, Option.toList_none, List.singleton_append, List.nil_append, if_true, if_false, or_true, true_or, or_false, false_or, and_false, false_and, Bool.false_eq_true]
    refine loop 3 1 99 S _ (by omega) (by omega) (fun o _ _ _ _ => rfl) (fun t _ => rfl) (fun T x y => ?_)
    rw [fin]
    exact hZ T x y
set_option maxHeartbeats 8000000 in
theorem r_lv2 {r m n q j : Nat} {K : kT} (hM : RM 132 S k) (ho : okT r m k) (hm : m ≤ 1000) (hn : n ≤ 4) (hq : q = min n 2) (hj : j = n - q) (hT : TS S k r q K) (hZ : ∀ T, offR S T → (∀ t, t < 2 → T 140 t = S 140 t) → Z (some (.int (nI (tvN r m j q K)))) T) : CL L (d + 8) 194 [.ref 128, .int (nI r), .int (nI n), .int (nI m)] S Z := by
  have hm' := mod_sh L
  have v0 := ho.1.1
  have hr := ho.2.1
  by_cases c : n ≤ 2
  · have e1 : q = n := by omega
    subst e1
    simp (disch := omega) only [cl194, w194_0, w194_1, w194_2, w194_5, w194_6, w194_7, w194_8, w194_9, w194_12, hm', ↓neg_vM, ↓neg_vB, ↓neg_vS, ↓neg_vF, ↓neg_vO, ↓neg_vA, ↓neg_vN, lit_nI, nI_leI, nI_ltI, nI_eq, jm_in_nI, nI_clamp, nI_add, n_mul, pk_sub, n_le_t, n_le_f, n_lt_t, n_lt_f, n_eq_t, n_eq_f, true_and, and_true, ne_eq, not_false_eq_true, not_true_eq_false, min_n, max_n, dif_n, n_rem, n_div, or_nI, shl_nI, Option.toList_some, Option.toList_none, List.singleton_append, List.nil_append, if_true, if_false, or_true, true_or, or_false, false_or, and_false, false_and, Bool.false_eq_true]
    refine r_lv3 (q := q) (j := j) hM ho hm hn (by omega) (by omega) hT (fun T a b => ?_)
    simp (disch := omega) only [w194_0, w194_1, w194_2, w194_5, w194_6, w194_7, w194_8, w194_9, w194_12, hm', ↓neg_vM, ↓neg_vB, ↓neg_vS, ↓neg_vF, ↓neg_vO, ↓neg_vA, ↓neg_vN, lit_nI, nI_leI, nI_ltI, nI_eq, jm_in_nI, nI_clamp, nI_add, n_mul, pk_sub, n_le_t, n_le_f, n_lt_t, n_lt_f, n_eq_t, n_eq_f, true_and, and_true, ne_eq, not_false_eq_true, not_true_eq_false, min_n, max_n, dif_n, n_rem, n_div, or_nI, shl_nI, Option.toList_some, Option.toList_none, List.singleton_append, List.nil_append, if_true, if_false, or_true, true_or, or_false, false_or, and_false, false_and, Bool.false_eq_true]
    exact hZ T a (fun t ht => b t (by omega))
  · have e1 : q = 2 := by omega
    subst e1
    obtain ⟨i, hi⟩ : ∃ i, j = i + 1 := ⟨j - 1, by omega⟩
    subst hi
    obtain ⟨b, hb⟩ : ∃ b : Nat → Nat, ∀ h, b h = tvN r m i 3 (apT K 2 r h) := ⟨_, fun _ => rfl⟩
    have hb60 : ∀ h, b h ≤ 60 := fun h => by rw [hb]; exact tvN_le (okT_ap (TS_ok hT ho) 2 h)
    have loop : ∀ g h f (x : Int32) S1 u, h + 2 * g = 8 → f ≤ 60 → (x = nI f ∨ (x = vM ∧ f = 0 ∧ 0 < g)) → offR S S1 → (∀ t, t < 2 → S1 140 t = S 140 t) → (∀ T, offR S T → (∀ t, t < 2 → T 140 t = S 140 t) → Z (some (.int (nI (lpX b g h f)))) T) → WQ L (d + 8) 194 19 [.ref 128, .int (nI r), .int (nI n), .int (nI m), .int x, .int (nI h), u] [] S1 Z := by
      intro g
      induction g with
      | zero =>
        intro h f x S1 u hg hf hx tf tk hZ2
        have ex : x = nI f := by
          rcases hx with hx | hx
          · exact hx
          · omega
        subst ex
        rw [w194_19]
        simp (disch := omega) only [w194_21, w194_23, w194_65, w194_67, hm', ↓neg_vM, ↓neg_vB, ↓neg_vS, ↓neg_vF, ↓neg_vO, ↓neg_vA, ↓neg_vN, lit_nI, nI_leI, nI_ltI, nI_eq, jm_in_nI, nI_clamp, nI_add, n_mul, pk_sub, n_le_t, n_le_f, n_lt_t, n_lt_f, n_eq_t, n_eq_f, true_and, and_true, ne_eq, not_false_eq_true, not_true_eq_false, min_n, max_n, dif_n, n_rem, n_div, or_nI, shl_nI, Option.toList_some, Option.toList_none, List.singleton_append, List.nil_append, if_true, if_false, or_true, true_or, or_false, false_or, and_false, false_and, Bool.false_eq_true]
        exact hZ2 S1 tf tk
      | succ g ihg =>
        intro h f x S1 u hg hf hx tf tk hZ2
        have hM1 : RM 132 (jm_upd S1 140 2 (nI h)) k := RM_of hM (by rw [upd_ne (by decide), tf 132 (by decide) (by decide) (by decide) (by decide)])
        have hbh := hb60 h
        rw [w194_19]
        simp (disch := omega) only [w194_21, w194_23, w194_26, w194_27, w194_30, w194_31, w194_33, w194_34, w194_35, w194_36, w194_37, w194_38, hm', ↓neg_vM, ↓neg_vB, ↓neg_vS, ↓neg_vF, ↓neg_vO, ↓neg_vA, ↓neg_vN, lit_nI, nI_leI, nI_ltI, nI_eq, jm_in_nI, nI_clamp, nI_add, n_mul, pk_sub, n_le_t, n_le_f, n_lt_t, n_lt_f, n_eq_t, n_eq_f, true_and, and_true, ne_eq, not_false_eq_true, not_true_eq_false, min_n, max_n, dif_n, n_rem, n_div, or_nI, shl_nI, Option.toList_some, Option.toList_none, List.singleton_append, List.nil_append, if_true, if_false, or_true, true_or, or_false, false_or, and_false, false_and, Bool.false_eq_true]
        refine r_lv3 (q := 3) (j := i) (K := apT K 2 r h) hM1 ho hm hn (by omega) (by omega) (TS_S (TS_of hT tk) (by omega)) (fun T a a2 => ?_)
        rw [← hb]
        have tf2 : offR S T := fun o x y z w => by rw [a o x y z w, upd_ne w, tf o x y z w]
        have tk2 : ∀ t, t < 2 → T 140 t = S 140 t := fun t ht => by rw [a2 t (by omega), upd_at, if_neg (by omega), tk t ht]
        have up : max (b h) f = b h → WQ L (d + 8) 194 19 [.ref 128, .int (nI r), .int (nI n), .int (nI m), .int (nI (b h)), .int (nI (h + 2)), .int (nI (b h))] [] T Z := fun em => ihg (h + 2) (b h) (nI (b h)) T _ (by omega) (by omega) (Or.inl rfl) tf2 tk2 (fun T x y => by
            have z := hZ2 T x y
            rw [lpX, em] at z
            exact z)
        rcases hx with rfl | ⟨rfl, rfl, -⟩
        · by_cases cc : b h ≤ f
          · simp (disch := omega) only [w194_41, w194_43, w194_45, w194_47, w194_50, w194_52, w194_55, w194_57, w194_59, w194_62, hm', ↓neg_vM, ↓neg_vB, ↓neg_vS, ↓neg_vF, ↓neg_vO, ↓neg_vA, ↓neg_vN, lit_nI, nI_leI, nI_ltI, nI_eq, jm_in_nI, nI_clamp, nI_add, n_mul, pk_sub, n_le_t, n_le_f, n_lt_t, n_lt_f, n_eq_t, n_eq_f, true_and, and_true, ne_eq, not_false_eq_true, not_true_eq_false, min_n, max_n, dif_n, n_rem, n_div, or_nI, shl_nI, Option.toList_some, Option.toList_none, List.singleton_append, List.nil_append, if_true, if_false, or_true, true_or, or_false, false_or, and_false, false_and, Bool.false_eq_true]
            exact ihg (h + 2) f (nI f) T _ (by omega) hf (Or.inl rfl) tf2 tk2 (fun T x y => by
              have z := hZ2 T x y
              rw [lpX, show max (b h) f = f by omega] at z
              exact z)
          · simp (disch := omega) only [w194_41, w194_43, w194_45, w194_47, w194_50, w194_52, w194_55, w194_57, w194_59, w194_62, hm', ↓neg_vM, ↓neg_vB, ↓neg_vS, ↓neg_vF, ↓neg_vO, ↓neg_vA, ↓neg_vN, lit_nI, nI_leI, nI_ltI, nI_eq, jm_in_nI, nI_clamp, nI_add, n_mul, pk_sub, n_le_t, n_le_f, n_lt_t, n_lt_f, n_eq_t, n_eq_f, true_and, and_true, ne_eq, not_false_eq_true, not_true_eq_false, min_n, max_n, dif_n, n_rem, n_div, or_nI, shl_nI, Option.toList_some, Option.toList_none, List.singleton_append, List.nil_append, if_true, if_false, or_true, true_or, or_false, false_or, and_false, false_and, Bool.false_eq_true]
            exact up (by omega)
        · simp (disch := omega) only [w194_41, w194_43, w194_45, w194_47, w194_50, w194_52, w194_55, w194_57, w194_59, w194_62, hm', ↓neg_vM, ↓neg_vB, ↓neg_vS, ↓neg_vF, ↓neg_vO, ↓neg_vA, ↓neg_vN, lit_nI, nI_leI, nI_ltI, nI_eq, jm_in_nI, nI_clamp, nI_add, n_mul, pk_sub, n_le_t, n_le_f, n_lt_t, n_lt_f, n_eq_t, n_eq_f, true_and, and_true, ne_eq, not_false_eq_true, not_true_eq_false, min_n, max_n, dif_n, n_rem, n_div, or_nI, shl_nI, Option.toList_some, Option.toList_none, List.singleton_append, List.nil_append, if_true, if_false, or_true, true_or, or_false, false_or, and_false, false_and, Bool.false_eq_true, le_vM]
          exact up (by omega)
    have fin : lpX b 4 0 0 = tvN r m (i + 1) 2 K := by
      rw [tvN, if_pos (by decide), ← hb, ← hb, ← hb, ← hb]
      simp only [lpX, Nat.reduceAdd]
      omega
    simp (disch := omega) only [cl194, w194_0, w194_1, w194_2, w194_13, w194_14, w194_16, w194_17, hm', ↓neg_vM, ↓neg_vB, ↓neg_vS, ↓neg_vF, ↓neg_vO, ↓neg_vA, ↓neg_vN, lit_nI, nI_leI, nI_ltI, nI_eq, jm_in_nI, nI_clamp, nI_add, n_mul, pk_sub, n_le_t, n_le_f, n_lt_t, n_lt_f, n_eq_t, n_eq_f, true_and, and_true, ne_eq, not_false_eq_true, not_true_eq_false, min_n, max_n, dif_n, n_rem, n_div, or_nI, shl_nI, Option.toList_some, Option.toList_none, List.singleton_append, List.nil_append, if_true, if_false, or_true, true_or, or_false, false_or, and_false, false_and, Bool.false_eq_true]
    refine loop 4 0 0 vM S _ (by omega) (by omega) (Or.inr ⟨rfl, rfl, by omega⟩) (fun o _ _ _ _ => rfl) (fun t _ => rfl) (fun T x y => ?_)
    rw [fin]
    exact hZ T x y
set_option maxHeartbeats 8000000 in
theorem r_lv1 {r m n q j : Nat} {K : kT} (hM : RM 132 S k) (ho : okT r m k) (hm : m ≤ 1000) (hn : n ≤ 4) (hq : q = min n 1) (hj : j = n - q) (hT : TS S k r q K) (hZ : ∀ T, offR S T → (∀ t, t < 1 → T 140 t = S 140 t) → Z (some (.int (nI (tvN r m j q K)))) T) : CL L (d + 9) 195 [.ref 128, .int (nI r), .int (nI n), .int (nI m)] S Z := by
  have hm' := mod_sh L
  have v0 := ho.1.1
  have hr := ho.2.1
  by_cases c : n ≤ 1
  · have e1 : q = n := by omega
    subst e1
    simp (disch := omega) only [cl195, w195_0, w195_1, w195_2, w195_5, w195_6, w195_7, w195_8, w195_9, w195_12, hm', ↓neg_vM, ↓neg_vB, ↓neg_vS, ↓neg_vF, ↓neg_vO, ↓neg_vA, ↓neg_vN, lit_nI, nI_leI, nI_ltI, nI_eq, jm_in_nI, nI_clamp, nI_add, n_mul, pk_sub, n_le_t, n_le_f, n_lt_t, n_lt_f, n_eq_t, n_eq_f, true_and, and_true, ne_eq, not_false_eq_true, not_true_eq_false, min_n, max_n, dif_n, n_rem, n_div, or_nI, shl_nI, Option.toList_some, Option.toList_none, List.singleton_append, List.nil_append, if_true, if_false, or_true, true_or, or_false, false_or, and_false, false_and, Bool.false_eq_true]
    refine r_lv2 (q := q) (j := j) hM ho hm hn (by omega) (by omega) hT (fun T a b => ?_)
    simp (disch := omega) only [w195_0, w195_1, w195_2, w195_5, w195_6, w195_7, w195_8, w195_9, w195_12, hm', ↓neg_vM, ↓neg_vB, ↓neg_vS, ↓neg_vF, ↓neg_vO, ↓neg_vA, ↓neg_vN, lit_nI, nI_leI, nI_ltI, nI_eq, jm_in_nI, nI_clamp, nI_add, n_mul, pk_sub, n_le_t, n_le_f, n_lt_t, n_lt_f, n_eq_t, n_eq_f, true_and, and_true, ne_eq, not_false_eq_true, not_true_eq_false, min_n, max_n, dif_n, n_rem, n_div, or_nI, shl_nI, Option.toList_some, Option.toList_none, List.singleton_append, List.nil_append, if_true, if_false, or_true, true_or, or_false, false_or, and_false, false_and, Bool.false_eq_true]
    exact hZ T a (fun t ht => b t (by omega))
  · have e1 : q = 1 := by omega
    subst e1
    obtain ⟨i, hi⟩ : ∃ i, j = i + 1 := ⟨j - 1, by omega⟩
    subst hi
    obtain ⟨b, hb⟩ : ∃ b : Nat → Nat, ∀ h, b h = tvN r m i 2 (apT K 1 r h) := ⟨_, fun _ => rfl⟩
    have hb60 : ∀ h, b h ≤ 60 := fun h => by rw [hb]; exact tvN_le (okT_ap (TS_ok hT ho) 1 h)
    have loop : ∀ g h f S1 u, h + 2 * g = 7 → f ≤ 99 → offR S S1 → (∀ t, t < 1 → S1 140 t = S 140 t) → (∀ T, offR S T → (∀ t, t < 1 → T 140 t = S 140 t) → Z (some (.int (nI (lpM b g h f)))) T) → WQ L (d + 9) 195 20 [.ref 128, .int (nI r), .int (nI n), .int (nI m), .int (nI f), .int (nI h), u] [] S1 Z := by
      intro g
      induction g with
      | zero =>
        intro h f S1 u hg hf tf tk hZ2
        rw [w195_20]
        simp (disch := omega) only [w195_22, w195_24, w195_66, w195_68, hm', ↓neg_vM, ↓neg_vB, ↓neg_vS, ↓neg_vF, ↓neg_vO, ↓neg_vA, ↓neg_vN, lit_nI, nI_leI, nI_ltI, nI_eq, jm_in_nI, nI_clamp, nI_add, n_mul, pk_sub, n_le_t, n_le_f, n_lt_t, n_lt_f, n_eq_t, n_eq_f, true_and, and_true, ne_eq, not_false_eq_true, not_true_eq_false, min_n, max_n, dif_n, n_rem, n_div, or_nI, shl_nI, Option.toList_some, Option.toList_none, List.singleton_append, List.nil_append, if_true, if_false, or_true, true_or, or_false, false_or, and_false, false_and, Bool.false_eq_true]
        exact hZ2 S1 tf tk
      | succ g ihg =>
        intro h f S1 u hg hf tf tk hZ2
        have hM1 : RM 132 (jm_upd S1 140 1 (nI h)) k := RM_of hM (by rw [upd_ne (by decide), tf 132 (by decide) (by decide) (by decide) (by decide)])
        have hbh := hb60 h
        rw [w195_20]
        simp (disch := omega) only [w195_22, w195_24, w195_27, w195_28, w195_31, w195_32, w195_34, w195_35, w195_36, w195_37, w195_38, w195_39, hm', ↓neg_vM, ↓neg_vB, ↓neg_vS, ↓neg_vF, ↓neg_vO, ↓neg_vA, ↓neg_vN, lit_nI, nI_leI, nI_ltI, nI_eq, jm_in_nI, nI_clamp, nI_add, n_mul, pk_sub, n_le_t, n_le_f, n_lt_t, n_lt_f, n_eq_t, n_eq_f, true_and, and_true, ne_eq, not_false_eq_true, not_true_eq_false, min_n, max_n, dif_n, n_rem, n_div, or_nI, shl_nI, Option.toList_some, Option.toList_none, List.singleton_append, List.nil_append, if_true, if_false, or_true, true_or, or_false, false_or, and_false, false_and, Bool.false_eq_true]
        refine r_lv2 (q := 2) (j := i) (K := apT K 1 r h) hM1 ho hm hn (by omega) (by omega) (TS_S (TS_of hT tk) (by omega)) (fun T a a2 => ?_)
        rw [← hb]
        have tf2 : offR S T := fun o x y z w => by rw [a o x y z w, upd_ne w, tf o x y z w]
        have tk2 : ∀ t, t < 1 → T 140 t = S 140 t := fun t ht => by rw [a2 t (by omega), upd_at, if_neg (by omega), tk t ht]
        by_cases cc : f ≤ b h
        · simp (disch := omega) only [w195_42, w195_44, w195_46, w195_48, w195_51, w195_53, w195_56, w195_58, w195_60, w195_63, hm', ↓neg_vM, ↓neg_vB, ↓neg_vS, ↓neg_vF, ↓neg_vO, ↓neg_vA, ↓neg_vN, lit_nI, nI_leI, nI_ltI, nI_eq, jm_in_nI, nI_clamp, nI_add, n_mul, pk_sub, n_le_t, n_le_f, n_lt_t, n_lt_f, n_eq_t, n_eq_f, true_and, and_true, ne_eq, not_false_eq_true, not_true_eq_false, min_n, max_n, dif_n, n_rem, n_div, or_nI, shl_nI, Option.toList_some, Option.toList_none, List.singleton_append, List.nil_append, if_true, if_false, or_true, true_or, or_false, false_or, and_false, false_and, Bool.false_eq_true]
          exact ihg (h + 2) f T _ (by omega) hf tf2 tk2 (fun T x y => by
            have z := hZ2 T x y
            rw [lpM, show min (b h) f = f by omega] at z
            exact z)
        · simp (disch := omega) only [w195_42, w195_44, w195_46, w195_48, w195_51, w195_53, w195_56, w195_58, w195_60, w195_63, hm', ↓neg_vM, ↓neg_vB, ↓neg_vS, ↓neg_vF, ↓neg_vO, ↓neg_vA, ↓neg_vN, lit_nI, nI_leI, nI_ltI, nI_eq, jm_in_nI, nI_clamp, nI_add, n_mul, pk_sub, n_le_t, n_le_f, n_lt_t, n_lt_f, n_eq_t, n_eq_f, true_and, and_true, ne_eq, not_false_eq_true, not_true_eq_false, min_n, max_n, dif_n, n_rem, n_div, or_nI, shl_nI, Option.toList_some, Option.toList_none, List.singleton_append, List.nil_append, if_true, if_false, or_true, true_or, or_false, false_or, and_false, false_and, Bool.false_eq_true]
          exact ihg (h + 2) (b h) T _ (by omega) (by omega) tf2 tk2 (fun T x y => by
            have z := hZ2 T x y
            rw [lpM, show min (b h) f = b h by omega] at z
            exact z)
    have fin : lpM b 3 1 99 = tvN r m (i + 1) 1 K := by
      have h1 := hb60 1
      rw [tvN, if_neg (by decide), ← hb, ← hb, ← hb]
      simp only [lpM, Nat.reduceAdd]
      omega
    simp (disch := omega) only [cl195, w195_0, w195_1, w195_2, w195_13, w195_15, w195_17, w195_18, hm', ↓neg_vM, ↓neg_vB, ↓neg_vS, ↓neg_vF, ↓neg_vO, ↓neg_vA, ↓neg_vN, lit_nI, nI_leI, nI_ltI, nI_eq, jm_in_nI, nI_clamp, nI_add, n_mul, pk_sub, n_le_t, n_le_f, n_lt_t, n_lt_f, n_eq_t, n_eq_f, true_and, and_true, ne_eq, not_false_eq_true, not_true_eq_false, min_n, max_n, dif_n, n_rem, n_div, or_nI, shl_nI, Option.toList_some, Option.toList_none, List.singleton_append, List.nil_append, if_true, if_false, or_true, true_or, or_false, false_or, and_false, false_and, Bool.false_eq_true]
    refine loop 3 1 99 S _ (by omega) (by omega) (fun o _ _ _ _ => rfl) (fun t _ => rfl) (fun T x y => ?_)
    rw [fin]
    exact hZ T x y
set_option maxHeartbeats 8000000 in
theorem r_lv0 {r m n : Nat} (hM : RM 132 S k) (ho : okT r m k) (hm : m ≤ 1000) (hn : n ≤ 4) (hZ : ∀ T, offR S T → Z (some (.int (nI (tvN r m n 0 k)))) T) : WQ L (d + 10) 196 40 [.ref 128, .int (nI r), .int (nI n), .int (nI m), .null, .null, .null] [] S Z := by
  have hm' := mod_sh L
  have v0 := ho.1.1
  have hr := ho.2.1
  by_cases c : n = 0
  · subst c
    simp (disch := omega) only [w196_40, w196_41, w196_44, w196_45, w196_46, w196_47, w196_48, w196_51, hm', ↓neg_vM, ↓neg_vB, ↓neg_vS, ↓neg_vF, ↓neg_vO, ↓neg_vA, ↓neg_vN, lit_nI, nI_leI, nI_ltI, nI_eq, jm_in_nI, nI_clamp, nI_add, n_mul, pk_sub, n_le_t, n_le_f, n_lt_t, n_lt_f, n_eq_t, n_eq_f, true_and, and_true, ne_eq, not_false_eq_true, not_true_eq_false, min_n, max_n, dif_n, n_rem, n_div, or_nI, shl_nI, Option.toList_some, Option.toList_none, List.singleton_append, List.nil_append, if_true, if_false, or_true, true_or, or_false, false_or, and_false, false_and, Bool.false_eq_true]
    refine r_lv1 (q := 0) (j := 0) hM ho hm hn (by omega) (by omega) TS_0 (fun T a b => ?_)
    simp (disch := omega) only [w196_40, w196_41, w196_44, w196_45, w196_46, w196_47, w196_48, w196_51, hm', ↓neg_vM, ↓neg_vB, ↓neg_vS, ↓neg_vF, ↓neg_vO, ↓neg_vA, ↓neg_vN, lit_nI, nI_leI, nI_ltI, nI_eq, jm_in_nI, nI_clamp, nI_add, n_mul, pk_sub, n_le_t, n_le_f, n_lt_t, n_lt_f, n_eq_t, n_eq_f, true_and, and_true, ne_eq, not_false_eq_true, not_true_eq_false, min_n, max_n, dif_n, n_rem, n_div, or_nI, shl_nI, Option.toList_some, Option.toList_none, List.singleton_append, List.nil_append, if_true, if_false, or_true, true_or, or_false, false_or, and_false, false_and, Bool.false_eq_true]
    exact hZ T a
  · obtain ⟨i, hi⟩ : ∃ i, n = i + 1 := ⟨n - 1, by omega⟩
    have hT : TS S k r 0 k := TS_0
    obtain ⟨b, hb⟩ : ∃ b : Nat → Nat, ∀ h, b h = tvN r m i 1 (apT k 0 r h) := ⟨_, fun _ => rfl⟩
    have hb60 : ∀ h, b h ≤ 60 := fun h => by rw [hb]; exact tvN_le (okT_ap (TS_ok hT ho) 0 h)
    have loop : ∀ g h f (x : Int32) S1 u, h + 2 * g = 8 → f ≤ 60 → (x = nI f ∨ (x = vM ∧ f = 0 ∧ 0 < g)) → offR S S1 → (∀ T, offR S T → Z (some (.int (nI (lpX b g h f)))) T) → WQ L (d + 10) 196 58 [.ref 128, .int (nI r), .int (nI n), .int (nI m), .int x, .int (nI h), u] [] S1 Z := by
      intro g
      induction g with
      | zero =>
        intro h f x S1 u hg hf hx tf hZ2
        have ex : x = nI f := by
          rcases hx with hx | hx
          · exact hx
          · omega
        subst ex
        rw [w196_58]
        simp (disch := omega) only [w196_60, w196_62, w196_104, w196_106, hm', ↓neg_vM, ↓neg_vB, ↓neg_vS, ↓neg_vF, ↓neg_vO, ↓neg_vA, ↓neg_vN, lit_nI, nI_leI, nI_ltI, nI_eq, jm_in_nI, nI_clamp, nI_add, n_mul, pk_sub, n_le_t, n_le_f, n_lt_t, n_lt_f, n_eq_t, n_eq_f, true_and, and_true, ne_eq, not_false_eq_true, not_true_eq_false, min_n, max_n, dif_n, n_rem, n_div, or_nI, shl_nI, Option.toList_some, Option.toList_none, List.singleton_append, List.nil_append, if_true, if_false, or_true, true_or, or_false, false_or, and_false, false_and, Bool.false_eq_true]
        exact hZ2 S1 tf
      | succ g ihg =>
        intro h f x S1 u hg hf hx tf hZ2
        have hM1 : RM 132 (jm_upd S1 140 0 (nI h)) k := RM_of hM (by rw [upd_ne (by decide), tf 132 (by decide) (by decide) (by decide) (by decide)])
        have hbh := hb60 h
        rw [w196_58]
        simp (disch := omega) only [w196_60, w196_62, w196_65, w196_66, w196_69, w196_70, w196_72, w196_73, w196_74, w196_75, w196_76, w196_77, hm', ↓neg_vM, ↓neg_vB, ↓neg_vS, ↓neg_vF, ↓neg_vO, ↓neg_vA, ↓neg_vN, lit_nI, nI_leI, nI_ltI, nI_eq, jm_in_nI, nI_clamp, nI_add, n_mul, pk_sub, n_le_t, n_le_f, n_lt_t, n_lt_f, n_eq_t, n_eq_f, true_and, and_true, ne_eq, not_false_eq_true, not_true_eq_false, min_n, max_n, dif_n, n_rem, n_div, or_nI, shl_nI, Option.toList_some, Option.toList_none, List.singleton_append, List.nil_append, if_true, if_false, or_true, true_or, or_false, false_or, and_false, false_and, Bool.false_eq_true]
        refine r_lv1 (q := 1) (j := i) (K := apT k 0 r h) hM1 ho hm hn (by omega) (by omega) (TS_S (TS_of hT (fun t ht => absurd ht (by omega))) (by omega)) (fun T a a2 => ?_)
        rw [← hb]
        have tf2 : offR S T := fun o x y z w => by rw [a o x y z w, upd_ne w, tf o x y z w]
        have tk2 : True := trivial
        have up : max (b h) f = b h → WQ L (d + 10) 196 58 [.ref 128, .int (nI r), .int (nI n), .int (nI m), .int (nI (b h)), .int (nI (h + 2)), .int (nI (b h))] [] T Z := fun em => ihg (h + 2) (b h) (nI (b h)) T _ (by omega) (by omega) (Or.inl rfl) tf2 (fun T x => by
            have z := hZ2 T x
            rw [lpX, em] at z
            exact z)
        rcases hx with rfl | ⟨rfl, rfl, -⟩
        · by_cases cc : b h ≤ f
          · simp (disch := omega) only [w196_80, w196_82, w196_84, w196_86, w196_89, w196_91, w196_94, w196_96, w196_98, w196_101, hm', ↓neg_vM, ↓neg_vB, ↓neg_vS, ↓neg_vF, ↓neg_vO, ↓neg_vA, ↓neg_vN, lit_nI, nI_leI, nI_ltI, nI_eq, jm_in_nI, nI_clamp, nI_add, n_mul, pk_sub, n_le_t, n_le_f, n_lt_t, n_lt_f, n_eq_t, n_eq_f, true_and, and_true, ne_eq, not_false_eq_true, not_true_eq_false, min_n, max_n, dif_n, n_rem, n_div, or_nI, shl_nI, Option.toList_some, Option.toList_none, List.singleton_append, List.nil_append, if_true, if_false, or_true, true_or, or_false, false_or, and_false, false_and, Bool.false_eq_true]
            exact ihg (h + 2) f (nI f) T _ (by omega) hf (Or.inl rfl) tf2 (fun T x => by
              have z := hZ2 T x
              rw [lpX, show max (b h) f = f by omega] at z
              exact z)
          · simp (disch := omega) only [w196_80, w196_82, w196_84, w196_86, w196_89, w196_91, w196_94, w196_96, w196_98, w196_101, hm', ↓neg_vM, ↓neg_vB, ↓neg_vS, ↓neg_vF, ↓neg_vO, ↓neg_vA, ↓neg_vN, lit_nI, nI_leI, nI_ltI, nI_eq, jm_in_nI, nI_clamp, nI_add, n_mul, pk_sub, n_le_t, n_le_f, n_lt_t, n_lt_f, n_eq_t, n_eq_f, true_and, and_true, ne_eq, not_false_eq_true, not_true_eq_false, min_n, max_n, dif_n, n_rem, n_div, or_nI, shl_nI, Option.toList_some, Option.toList_none, List.singleton_append, List.nil_append, if_true, if_false, or_true, true_or, or_false, false_or, and_false, false_and, Bool.false_eq_true]
            exact up (by omega)
        · simp (disch := omega) only [w196_80, w196_82, w196_84, w196_86, w196_89, w196_91, w196_94, w196_96, w196_98, w196_101, hm', ↓neg_vM, ↓neg_vB, ↓neg_vS, ↓neg_vF, ↓neg_vO, ↓neg_vA, ↓neg_vN, lit_nI, nI_leI, nI_ltI, nI_eq, jm_in_nI, nI_clamp, nI_add, n_mul, pk_sub, n_le_t, n_le_f, n_lt_t, n_lt_f, n_eq_t, n_eq_f, true_and, and_true, ne_eq, not_false_eq_true, not_true_eq_false, min_n, max_n, dif_n, n_rem, n_div, or_nI, shl_nI, Option.toList_some, Option.toList_none, List.singleton_append, List.nil_append, if_true, if_false, or_true, true_or, or_false, false_or, and_false, false_and, Bool.false_eq_true, le_vM]
          exact up (by omega)
    have fin : lpX b 4 0 0 = tvN r m (i + 1) 0 k := by
      rw [tvN, if_pos (by decide), ← hb, ← hb, ← hb, ← hb]
      simp only [lpX, Nat.reduceAdd]
      omega
    simp (disch := omega) only [w196_40, w196_41, w196_52, w196_53, w196_55, w196_56, hm', ↓neg_vM, ↓neg_vB, ↓neg_vS, ↓neg_vF, ↓neg_vO, ↓neg_vA, ↓neg_vN, lit_nI, nI_leI, nI_ltI, nI_eq, jm_in_nI, nI_clamp, nI_add, n_mul, pk_sub, n_le_t, n_le_f, n_lt_t, n_lt_f, n_eq_t, n_eq_f, true_and, and_true, ne_eq, not_false_eq_true, not_true_eq_false, min_n, max_n, dif_n, n_rem, n_div, or_nI, shl_nI, Option.toList_some, Option.toList_none, List.singleton_append, List.nil_append, if_true, if_false, or_true, true_or, or_false, false_or, and_false, false_and, Bool.false_eq_true]
    refine loop 4 0 0 vM S _ (by omega) (by omega) (Or.inr ⟨rfl, rfl, by omega⟩) (fun o _ _ _ _ => rfl) (fun T x => ?_)
    rw [fin]
    rw [← hi]
    exact hZ T x
theorem c_comes {r n m : Nat} (hX : RX 25 S k) (ho : okT r m k) (hm : m ≤ 1000) (hn : n ≤ 4) (hZ : ∀ T, offP S T → Z (some (.int (nI (tvN r m n 0 k)))) T) : CL L (d + 9) 38 [.ref 82, .ref 25, .int (nI r), .int (nI n), .int (nI m)] S Z := by
  have ht := top_sh L
  have hs := camp_sh isC93
  simp (disch := omega) only [cl38, w38_0, w38_1, w38_4, w38_5, ht, hs, ↓neg_vM, ↓neg_vB, ↓neg_vS, ↓neg_vF, ↓neg_vO, ↓neg_vA, ↓neg_vN, lit_nI, nI_leI, nI_ltI, nI_eq, jm_in_nI, nI_clamp, nI_add, n_mul, pk_sub, n_le_t, n_le_f, n_lt_t, n_lt_f, n_eq_t, n_eq_f, true_and, and_true, ne_eq, not_false_eq_true, not_true_eq_false, min_n, max_n, dif_n, n_rem, n_div, or_nI, shl_nI, Option.toList_some, Option.toList_none, List.singleton_append, List.nil_append, if_true, if_false, or_true, true_or, or_false, false_or, and_false, false_and, Bool.false_eq_true]
  refine c_become isC93 isC25 (by decide) hX ho.1 (fun T1 tX1 tf1 => ?_)
  simp (disch := omega) only [w38_8, w38_9, w38_10, w38_11, w38_12, w38_14, ht, hs, ↓neg_vM, ↓neg_vB, ↓neg_vS, ↓neg_vF, ↓neg_vO, ↓neg_vA, ↓neg_vN, lit_nI, nI_leI, nI_ltI, nI_eq, jm_in_nI, nI_clamp, nI_add, n_mul, pk_sub, n_le_t, n_le_f, n_lt_t, n_lt_f, n_eq_t, n_eq_f, true_and, and_true, ne_eq, not_false_eq_true, not_true_eq_false, min_n, max_n, dif_n, n_rem, n_div, or_nI, shl_nI, Option.toList_some, Option.toList_none, List.singleton_append, List.nil_append, if_true, if_false, or_true, true_or, or_false, false_or, and_false, false_and, Bool.false_eq_true]
  have e : ∀ {Z : Option Value → jm_I2 → Prop}, (∀ T, RX 93 T k → offP T1 T → Z (some (.int (nI (tvN r m n 0 k)))) T) → CL L (d + 8) 39 [.ref 82, .int (nI r), .int (nI 0), .int (nI n), .int (nI m)] T1 Z := fun {Z} q => by
    have z := c_outcome (L := L) (r := r) (m := m) (n := n) hm hn n 0 (d := d + (4 - n)) (k := k) (S := T1) (Z := Z) (by omega) tX1 ho q
    rw [show d + (4 - n) + 4 + n = d + 8 by omega] at z
    exact z
  refine e (fun T _ tf => ?_)
  simp (disch := omega) only [w38_17, ht, hs, ↓neg_vM, ↓neg_vB, ↓neg_vS, ↓neg_vF, ↓neg_vO, ↓neg_vA, ↓neg_vN, lit_nI, nI_leI, nI_ltI, nI_eq, jm_in_nI, nI_clamp, nI_add, n_mul, pk_sub, n_le_t, n_le_f, n_lt_t, n_lt_f, n_eq_t, n_eq_f, true_and, and_true, ne_eq, not_false_eq_true, not_true_eq_false, min_n, max_n, dif_n, n_rem, n_div, or_nI, shl_nI, Option.toList_some, Option.toList_none, List.singleton_append, List.nil_append, if_true, if_false, or_true, true_or, or_false, false_or, and_false, false_and, Bool.false_eq_true]
  exact hZ T (fun o ho => by rw [tf o ho, tf1 o (by omega)])
set_option maxHeartbeats 8000000 in
theorem p_byTurns {v w b : Int32} (hI : InvK xs S k) : CL L (d + 10) 103 [.ref 0, .int v, .int w, .int b] S (Zx xs L (d + 10) 196 [.ref 128, .int v, .int w, .int b]) := by
  have ht := top_sh L
  have hm := mod_sh L
  obtain ⟨hX, hM, hV, h999, h01⟩ := hI.2.2.2.1
  have hM4 : RM 132 (jm_upd S 128 0 (nI 0)) k := RM_of hM (upd_ne (by decide))
  have v0 := hV.1
  by_cases h : isN v (k 0) = true
  · by_cases h2 : nI 0 ≤ w ∧ w ≤ nI 4
    · by_cases h3 : nI 1 ≤ b ∧ b ≤ nI 20
      · obtain ⟨r, hr, rfl⟩ := isN_of (by omega) h
        obtain ⟨n, -, hn, rfl⟩ := btw (by decide) h2 (by decide)
        obtain ⟨m, hm1, hm2, rfl⟩ := btw (by decide) h3 (by decide)
        clear h2 h3
        have ho : okT r m k := ⟨hV, hr, h01 (by omega), by omega⟩
        simp (disch := omega) only [cl103, w103_0, w103_1, w103_2, w103_5, w103_8, w103_9, w103_10, w103_11, w103_14, w103_17, w103_18, w103_19, w103_21, w103_24, w103_27, w103_29, w103_30, w103_31, w103_34, w103_35, w103_38, w103_39, w103_40, w103_41, w103_44, ht, ↓neg_vM, ↓neg_vB, ↓neg_vS, ↓neg_vF, ↓neg_vO, ↓neg_vA, ↓neg_vN, lit_nI, nI_leI, nI_ltI, nI_eq, jm_in_nI, nI_clamp, nI_add, n_mul, pk_sub, n_le_t, n_le_f, n_lt_t, n_lt_f, n_eq_t, n_eq_f, true_and, and_true, ne_eq, not_false_eq_true, not_true_eq_false, min_n, max_n, dif_n, n_rem, n_div, or_nI, shl_nI, Option.toList_some, Option.toList_none, List.singleton_append, List.nil_append, if_true, if_false, or_true, true_or, or_false, false_or, and_false, false_and, Bool.false_eq_true, c_noRule hX hV, h, c_withinP]
        refine c_comes hX ho (by omega) hn (fun T tf => ?_)
        simp (disch := omega) only [w103_41, w103_44, ht, ↓neg_vM, ↓neg_vB, ↓neg_vS, ↓neg_vF, ↓neg_vO, ↓neg_vA, ↓neg_vN, lit_nI, nI_leI, nI_ltI, nI_eq, jm_in_nI, nI_clamp, nI_add, n_mul, pk_sub, n_le_t, n_le_f, n_lt_t, n_lt_f, n_eq_t, n_eq_f, true_and, and_true, ne_eq, not_false_eq_true, not_true_eq_false, min_n, max_n, dif_n, n_rem, n_div, or_nI, shl_nI, Option.toList_some, Option.toList_none, List.singleton_append, List.nil_append, if_true, if_false, or_true, true_or, or_false, false_or, and_false, false_and, Bool.false_eq_true, Zx_some]
        have hM5 : RM 132 (jm_upd T 128 0 (nI 0)) k := RM_of hM (by rw [upd_ne (by decide), tf _ (by decide)])
        simp (disch := omega) only [w196_0, w196_1, w196_2, w196_5, w196_6, w196_7, w196_10, w196_13, w196_14, w196_15, w196_16, w196_19, w196_22, w196_25, w196_26, w196_27, w196_28, w196_31, w196_34, w196_37, w196_39, cl196, hm, ↓neg_vM, ↓neg_vB, ↓neg_vS, ↓neg_vF, ↓neg_vO, ↓neg_vA, ↓neg_vN, lit_nI, nI_leI, nI_ltI, nI_eq, jm_in_nI, nI_clamp, nI_add, n_mul, pk_sub, n_le_t, n_le_f, n_lt_t, n_lt_f, n_eq_t, n_eq_f, true_and, and_true, ne_eq, not_false_eq_true, not_true_eq_false, min_n, max_n, dif_n, n_rem, n_div, or_nI, shl_nI, Option.toList_some, Option.toList_none, List.singleton_append, List.nil_append, if_true, if_false, or_true, true_or, or_false, false_or, and_false, false_and, Bool.false_eq_true, r_isRule hM5 v0, h, lit_lN, nI_l, r_in, lN_le]
        refine r_lv0 hM5 ho (by omega) hn (fun U uf => ?_)
        rw [Zm_some]
        refine ⟨rfl, k, InvK_same hI (Same_q (fun o ho h1 => ?_) (fun i hi => ?_))⟩
        · unfold scr at ho
          rw [uf o (by omega) (by omega) (by omega) (by omega), upd_ne h1, tf o (by omega)]
        · rw [uf 128 (by omega) (by omega) (by omega) (by omega), upd_at, if_neg (fun q => hi q.2), tf 128 (by omega)]
      · simp (disch := omega) only [w103_0, w103_1, w103_2, w103_5, w103_8, w103_9, w103_10, w103_11, w103_14, w103_17, w103_18, w103_19, w103_21, w103_24, w103_27, w103_29, cl103, ht, ↓neg_vM, ↓neg_vB, ↓neg_vS, ↓neg_vF, ↓neg_vO, ↓neg_vA, ↓neg_vN, lit_nI, nI_leI, nI_ltI, nI_eq, jm_in_nI, nI_clamp, nI_add, n_mul, pk_sub, n_le_t, n_le_f, n_lt_t, n_lt_f, n_eq_t, n_eq_f, true_and, and_true, ne_eq, not_false_eq_true, not_true_eq_false, min_n, max_n, dif_n, n_rem, n_div, or_nI, shl_nI, Option.toList_some, Option.toList_none, List.singleton_append, List.nil_append, if_true, if_false, or_true, true_or, or_false, false_or, and_false, false_and, Bool.false_eq_true, Zx_some, c_noRule hX hV, h, c_withinP, h2, h3]
        simp (disch := omega) only [w196_0, w196_1, w196_2, w196_5, w196_6, w196_7, w196_10, w196_13, w196_14, w196_15, w196_16, w196_19, w196_22, w196_25, w196_26, w196_27, w196_28, w196_31, w196_34, w196_37, w196_39, cl196, hm, ↓neg_vM, ↓neg_vB, ↓neg_vS, ↓neg_vF, ↓neg_vO, ↓neg_vA, ↓neg_vN, lit_nI, nI_leI, nI_ltI, nI_eq, jm_in_nI, nI_clamp, nI_add, n_mul, pk_sub, n_le_t, n_le_f, n_lt_t, n_lt_f, n_eq_t, n_eq_f, true_and, and_true, ne_eq, not_false_eq_true, not_true_eq_false, min_n, max_n, dif_n, n_rem, n_div, or_nI, shl_nI, Option.toList_some, Option.toList_none, List.singleton_append, List.nil_append, if_true, if_false, or_true, true_or, or_false, false_or, and_false, false_and, Bool.false_eq_true, Zm_some, r_isRule hM4 v0, h, lit_lN, r_in, lx_le, xl_le, h2, h3]
        exact ⟨k, InvK_same hI Same_thrown⟩
    · simp (disch := omega) only [w103_0, w103_1, w103_2, w103_5, w103_8, w103_9, w103_10, w103_11, w103_14, w103_17, w103_18, w103_19, w103_21, w103_24, w103_27, w103_29, cl103, ht, ↓neg_vM, ↓neg_vB, ↓neg_vS, ↓neg_vF, ↓neg_vO, ↓neg_vA, ↓neg_vN, lit_nI, nI_leI, nI_ltI, nI_eq, jm_in_nI, nI_clamp, nI_add, n_mul, pk_sub, n_le_t, n_le_f, n_lt_t, n_lt_f, n_eq_t, n_eq_f, true_and, and_true, ne_eq, not_false_eq_true, not_true_eq_false, min_n, max_n, dif_n, n_rem, n_div, or_nI, shl_nI, Option.toList_some, Option.toList_none, List.singleton_append, List.nil_append, if_true, if_false, or_true, true_or, or_false, false_or, and_false, false_and, Bool.false_eq_true, Zx_some, c_noRule hX hV, h, c_withinP, h2]
      simp (disch := omega) only [w196_0, w196_1, w196_2, w196_5, w196_6, w196_7, w196_10, w196_13, w196_14, w196_15, w196_16, w196_19, w196_22, w196_25, w196_26, w196_27, w196_28, w196_31, w196_34, w196_37, w196_39, cl196, hm, ↓neg_vM, ↓neg_vB, ↓neg_vS, ↓neg_vF, ↓neg_vO, ↓neg_vA, ↓neg_vN, lit_nI, nI_leI, nI_ltI, nI_eq, jm_in_nI, nI_clamp, nI_add, n_mul, pk_sub, n_le_t, n_le_f, n_lt_t, n_lt_f, n_eq_t, n_eq_f, true_and, and_true, ne_eq, not_false_eq_true, not_true_eq_false, min_n, max_n, dif_n, n_rem, n_div, or_nI, shl_nI, Option.toList_some, Option.toList_none, List.singleton_append, List.nil_append, if_true, if_false, or_true, true_or, or_false, false_or, and_false, false_and, Bool.false_eq_true, Zm_some, r_isRule hM4 v0, h, lit_lN, r_in, lx_le, xl_le, h2]
      exact ⟨k, InvK_same hI Same_thrown⟩
  · simp (disch := omega) only [w103_0, w103_1, w103_2, w103_5, w103_8, w103_9, w103_10, w103_11, w103_14, w103_17, w103_18, w103_19, w103_21, w103_24, w103_27, w103_29, cl103, ht, ↓neg_vM, ↓neg_vB, ↓neg_vS, ↓neg_vF, ↓neg_vO, ↓neg_vA, ↓neg_vN, lit_nI, nI_leI, nI_ltI, nI_eq, jm_in_nI, nI_clamp, nI_add, n_mul, pk_sub, n_le_t, n_le_f, n_lt_t, n_lt_f, n_eq_t, n_eq_f, true_and, and_true, ne_eq, not_false_eq_true, not_true_eq_false, min_n, max_n, dif_n, n_rem, n_div, or_nI, shl_nI, Option.toList_some, Option.toList_none, List.singleton_append, List.nil_append, if_true, if_false, or_true, true_or, or_false, false_or, and_false, false_and, Bool.false_eq_true, Zx_some, c_noRule hX hV, h]
    simp (disch := omega) only [w196_0, w196_1, w196_2, w196_5, w196_6, w196_7, w196_10, w196_13, w196_14, w196_15, w196_16, w196_19, w196_22, w196_25, w196_26, w196_27, w196_28, w196_31, w196_34, w196_37, w196_39, cl196, hm, ↓neg_vM, ↓neg_vB, ↓neg_vS, ↓neg_vF, ↓neg_vO, ↓neg_vA, ↓neg_vN, lit_nI, nI_leI, nI_ltI, nI_eq, jm_in_nI, nI_clamp, nI_add, n_mul, pk_sub, n_le_t, n_le_f, n_lt_t, n_lt_f, n_eq_t, n_eq_f, true_and, and_true, ne_eq, not_false_eq_true, not_true_eq_false, min_n, max_n, dif_n, n_rem, n_div, or_nI, shl_nI, Option.toList_some, Option.toList_none, List.singleton_append, List.nil_append, if_true, if_false, or_true, true_or, or_false, false_or, and_false, false_and, Bool.false_eq_true, Zm_some, r_isRule hM4 v0, h]
    exact ⟨k, InvK_same hI Same_thrown⟩
end
