theorem rk_max {c : Nat} {d : Nat → Nat} : ∀ H, (∀ h, h < H → d h = c) → rk (c + 1) d H + 1 = (c + 1) ^ H
  | 0, _ => rfl
  | H + 1, h => by
    have ih := rk_max H (fun x hx => h x (by omega))
    rw [rk, Nat.pow_succ, ← ih, h H (by omega), Nat.succ_mul]
    omega
theorem pow7776 {c H : Nat} (hc : c ≤ 5) (hH : H ≤ 5) : (c + 1) ^ H ≤ 7776 := Nat.le_trans (Nat.pow_le_pow_left (show c + 1 ≤ 6 by omega) H) (show 6 ^ H ≤ 6 ^ 5 from Nat.pow_le_pow_right (by decide) hH)
theorem vR_le {k : kT} {n : Nat} {q : Nat → Nat} (hV : KV k) (h3 : k 3 ≤ 999) (hn : n ≤ 60) (hq : ∀ h, h < k 1 → q h ≤ k 0) : vR k n q ≤ 5300 := by
  have hVn := KV_hours (KV_pl (n := k 1) hV hq) n (by rw [plK_low _ _ _ (by omega)]; omega)
  have e0 : hoursA (plK k q (k 1)) n 0 = k 0 := by rw [(hoursA_low _ n).1, plK_low _ _ _ (by omega)]
  have v0 := hV.1
  have h1 := sumP_le (F := wo (hoursA (plK k q (k 1)) n)) (p := fun _ => true) (m := 1060) (n := k 0) (fun i hi => wo_le (hVn.2.2.2.2.2 i (by omega)).2.2.1)
  unfold vR
  omega
theorem vC_le {k : kT} {n : Nat} {d : Nat → Nat} (hV : KV k) (h3 : k 3 ≤ 999) (hn : n ≤ 60) (hd : ∀ h, h < k 1 → d h < sC k + 1) : vC k n d ≤ 5300 := by
  rw [vC_vR hV.1 hV.2.1 hd]
  exact vR_le hV h3 hn (fun h hh => by have := encF_le (hd h hh); omega)
theorem WO_of {k : kT} {n : Nat} {S T : jm_I2} (h : WO k n S) (hc : sC k ≤ 5) (f : ∀ o, 117 ≤ o → o ≤ 122 → T o = S o) : WO k n T := ⟨fun s hs x hx => by rw [f (117 + s) (by omega) (by omega)]; exact h.1 s hs x hx, fun x hx q => by rw [f 122 (by omega) (by omega)]; exact h.2 x hx q⟩
/-- what the first j ways gave the class -/
def CB (k : kT) (n j : Nat) (T : jm_I2) : Prop := (j = 0 ∧ T 104 7 = vM) ∨ ∃ m w, isBest j (fun j => vC k n (dV (sC k + 1) (k 1) j)) m w ∧ T 104 7 = nI m ∧ ∀ h, h < k 1 → T 125 h = plv (encF k (dV (sC k + 1) (k 1) w h))
section
variable {xs : Nat → Int32} {L d : Nat} {S : jm_I2} {k : kT} {Z : Option Value → jm_I2 → Prop}
set_option maxHeartbeats 8000000 in
theorem c_find {n : Nat} (hX : RX 25 S k) (hV : KV k) (hk1 : 0 < k 1) (h3 : k 3 ≤ 999) (hn : n ≤ 60) (hZ : ∀ T m w, isBest ((sC k + 1) ^ k 1) (fun j => vC k n (dV (sC k + 1) (k 1) j)) m w → T 104 7 = nI m → (∀ h, h < k 1 → T 125 h = plv (encF k (dV (sC k + 1) (k 1) w h))) → offT S T → Z none T) : CL L (d + 5) 61 [.ref 104, .ref 25, .int (nI n)] S Z := by
  have ht := rot_sh L
  have hf := fl_sh L
  have hs := camp_sh isC25
  have v0 := hV.1
  have v1 := hV.2.1
  have c5 := sC_le v0
  have hN := pow7776 c5 v1
  have hNp : 0 < (sC k + 1) ^ k 1 := Nat.pow_pos (by omega)
  have hdv : ∀ j h, h < k 1 → dV (sC k + 1) (k 1) j h < sC k + 1 := fun j h _ => dV_lt (by omega) _ _ _
  have main : ∀ j, j ≤ (sC k + 1) ^ k 1 → ∀ T, T 104 2 = nI (sC k) → (∀ s, s < sC k → T 115 s = nI (sl k s)) → WO k n T → (j < (sC k + 1) ^ k 1 → WY k (dV (sC k + 1) (k 1) j) T) → CB k n j T → offT S T → WQ L (d + 5) 61 56 [.ref 104, .ref 25, .int (nI n), .int (nI ((sC k + 1) ^ k 1)), .int (nI j)] [] T Z := by
    apply down_ind
    · intro T t1 t2 t3 t4 t5 tf
      rw [w61_56]
      simp (disch := omega) only [w61_58, w61_59, w61_84, ht, ↓neg_vM, ↓neg_vB, ↓neg_vS, ↓neg_vF, ↓neg_vO, ↓neg_vA, ↓neg_vN, lit_nI, nI_leI, nI_ltI, nI_eq, jm_in_nI, nI_clamp, nI_add, n_mul, pk_sub, n_le_t, n_le_f, n_lt_t, n_lt_f, n_eq_t, n_eq_f, true_and, and_true, ne_eq, not_false_eq_true, not_true_eq_false, min_n, max_n, dif_n, n_rem, n_div, or_nI, shl_nI, Option.toList_some, Option.toList_none, List.singleton_append, List.nil_append, if_true, if_false, or_true, true_or, or_false, false_or, and_false, false_and, Bool.false_eq_true]
      rcases t5 with ⟨q, -⟩ | ⟨m, w, b1, b2, b3⟩
      · omega
      · exact hZ T m w b1 b2 b3 tf
    · intro j hj ih T t1 t2 t3 t4 t5 tf
      have x2 : T 25 2 = nI (k 1) := by rw [tf 25 (by omega)]; exact hX.2.2.1
      have t4 := t4 hj
      have hvl := vC_le (d := dV (sC k + 1) (k 1) j) hV h3 hn (hdv j)
      have after : ∀ T2, T2 104 2 = nI (sC k) → (∀ o, o ≠ 104 → o ≠ 124 → o ≠ 125 → T2 o = T o) → CB k n (j + 1) T2 → WQ L (d + 5) 61 70 [.ref 104, .ref 25, .int (nI n), .int (nI ((sC k + 1) ^ k 1)), .int (nI j)] [] T2 Z := by
        intro T2 a1 a2 a3
        have y2 : T2 25 2 = nI (k 1) := by rw [a2 25 (by decide) (by decide) (by decide)]; exact x2
        have w2 : WY k (dV (sC k + 1) (k 1) j) T2 := fun h hh => by rw [a2 123 (by decide) (by decide) (by decide)]; exact t4 h hh
        have fin : ∀ T3, (∀ o, o ≠ 123 → T3 o = T2 o) → (j + 1 < (sC k + 1) ^ k 1 → WY k (dV (sC k + 1) (k 1) (j + 1)) T3) → WQ L (d + 5) 61 78 [.ref 104, .ref 25, .int (nI n), .int (nI ((sC k + 1) ^ k 1)), .int (nI j)] [] T3 Z := by
          intro T3 f3 hw3
          simp (disch := omega) only [w61_78, w61_81, ht, ↓neg_vM, ↓neg_vB, ↓neg_vS, ↓neg_vF, ↓neg_vO, ↓neg_vA, ↓neg_vN, lit_nI, nI_leI, nI_ltI, nI_eq, jm_in_nI, nI_clamp, nI_add, n_mul, pk_sub, n_le_t, n_le_f, n_lt_t, n_lt_f, n_eq_t, n_eq_f, true_and, and_true, ne_eq, not_false_eq_true, not_true_eq_false, min_n, max_n, dif_n, n_rem, n_div, or_nI, shl_nI, Option.toList_some, Option.toList_none, List.singleton_append, List.nil_append, if_true, if_false, or_true, true_or, or_false, false_or, and_false, false_and, Bool.false_eq_true, kl_int]
          refine ih T3 (by rw [f3 104 (by decide)]; exact a1) (fun s hs' => by rw [f3 115 (by decide), a2 115 (by decide) (by decide) (by decide)]; exact t2 s hs') (WO_of t3 c5 (fun o p1 p2 => by rw [f3 o (by omega), a2 o (by omega) (by omega) (by omega)])) hw3 ?_ (fun o ho => by rw [f3 o (by omega), a2 o (by omega) (by omega) (by omega), tf o ho])
          unfold CB at a3 ⊢
          rw [f3 104 (by decide), f3 125 (by decide)]
          exact a3
        simp (disch := omega) only [w61_70, w61_71, w61_72, w61_75, ht, hs, ↓neg_vM, ↓neg_vB, ↓neg_vS, ↓neg_vF, ↓neg_vO, ↓neg_vA, ↓neg_vN, lit_nI, nI_leI, nI_ltI, nI_eq, jm_in_nI, nI_clamp, nI_add, n_mul, pk_sub, n_le_t, n_le_f, n_lt_t, n_lt_f, n_eq_t, n_eq_f, true_and, and_true, ne_eq, not_false_eq_true, not_true_eq_false, min_n, max_n, dif_n, n_rem, n_div, or_nI, shl_nI, Option.toList_some, Option.toList_none, List.singleton_append, List.nil_append, if_true, if_false, or_true, true_or, or_false, false_or, and_false, false_and, Bool.false_eq_true, y2]
        refine c_nextWay hV hk1 (hdv j) w2 a1 (fun T3 g g1 g2 g3 g4 => ?_) (fun hall T3 g4 => ?_)
        · simp only [Option.toList_none, List.nil_append]
          refine fin T3 g4 (fun _ => ?_)
          rw [rk_dV hj] at g2
          intro h hh
          rw [g3 h hh, ← dV_rk g1 h hh, g2]
        · simp only [Option.toList_none, List.nil_append]
          refine fin T3 g4 (fun q => ?_)
          have := rk_max (k 1) hall
          rw [rk_dV hj] at this
          omega
      rw [w61_56]
      simp (disch := omega) only [w61_58, w61_59, w61_62, w61_63, w61_64, w61_67, ht, hs, ↓neg_vM, ↓neg_vB, ↓neg_vS, ↓neg_vF, ↓neg_vO, ↓neg_vA, ↓neg_vN, lit_nI, nI_leI, nI_ltI, nI_eq, jm_in_nI, nI_clamp, nI_add, n_mul, pk_sub, n_le_t, n_le_f, n_lt_t, n_lt_f, n_eq_t, n_eq_f, true_and, and_true, ne_eq, not_false_eq_true, not_true_eq_false, min_n, max_n, dif_n, n_rem, n_div, or_nI, shl_nI, Option.toList_some, Option.toList_none, List.singleton_append, List.nil_append, if_true, if_false, or_true, true_or, or_false, false_or, and_false, false_and, Bool.false_eq_true, x2]
      refine c_weigh (n := n) (e := dV (sC k + 1) (k 1) j) hV (hdv j) t4 t1 t2 t3 rfl (fun hlt T2 q1 q2 q3 q4 => ?_) (fun hlt T2 q3 => ?_)
      · simp only [Option.toList_none, List.nil_append]
        refine after T2 (by rw [q4]; exact t1) q3 ?_
        rcases t5 with ⟨rfl, -⟩ | ⟨m, w, b1, b2, b3⟩
        · exact Or.inr ⟨_, 0, best_1 _, q1, q2⟩
        · have hml : m ≤ 5300 := by
            rw [← b1.2.1]
            exact vC_le hV h3 hn (hdv w)
          rw [b2, nI_ltI (by omega) (by omega)] at hlt
          exact Or.inr ⟨_, j, best_up b1 hlt, q1, q2⟩
      · simp only [Option.toList_none, List.nil_append]
        refine after T2 (by rw [q3 104 (by decide)]; exact t1) (fun o p1 p2 p3 => q3 o p2) ?_
        rcases t5 with ⟨rfl, b2⟩ | ⟨m, w, b1, b2, b3⟩
        · rw [b2] at hlt
          exact absurd (of_eq_true (vM_lt (by omega))) hlt
        · have hml : m ≤ 5300 := by
            rw [← b1.2.1]
            exact vC_le hV h3 hn (hdv w)
          rw [b2, nI_ltI (by omega) (by omega)] at hlt
          refine Or.inr ⟨m, w, best_st b1 (by show vC k n (dV (sC k + 1) (k 1) j) ≤ m; omega), by rw [q3 104 (by decide)]; exact b2, fun h hh => by rw [q3 125 (by decide)]; exact b3 h hh⟩
  simp (disch := omega) only [cl61, w61_0, w61_1, w61_2, ht, ↓neg_vM, ↓neg_vB, ↓neg_vS, ↓neg_vF, ↓neg_vO, ↓neg_vA, ↓neg_vN, lit_nI, nI_leI, nI_ltI, nI_eq, jm_in_nI, nI_clamp, nI_add, n_mul, pk_sub, n_le_t, n_le_f, n_lt_t, n_lt_f, n_eq_t, n_eq_f, true_and, and_true, ne_eq, not_false_eq_true, not_true_eq_false, min_n, max_n, dif_n, n_rem, n_div, or_nI, shl_nI, Option.toList_some, Option.toList_none, List.singleton_append, List.nil_append, if_true, if_false, or_true, true_or, or_false, false_or, and_false, false_and, Bool.false_eq_true]
  refine c_listSongs hX hV (fun T1 a1 a2 a3 => ?_)
  simp (disch := omega) only [w61_5, w61_6, w61_7, w61_8, ht, ↓neg_vM, ↓neg_vB, ↓neg_vS, ↓neg_vF, ↓neg_vO, ↓neg_vA, ↓neg_vN, lit_nI, nI_leI, nI_ltI, nI_eq, jm_in_nI, nI_clamp, nI_add, n_mul, pk_sub, n_le_t, n_le_f, n_lt_t, n_lt_f, n_eq_t, n_eq_f, true_and, and_true, ne_eq, not_false_eq_true, not_true_eq_false, min_n, max_n, dif_n, n_rem, n_div, or_nI, shl_nI, Option.toList_some, Option.toList_none, List.singleton_append, List.nil_append, if_true, if_false, or_true, true_or, or_false, false_or, and_false, false_and, Bool.false_eq_true]
  refine c_workOut (RX_of hX (fun o p1 p2 => a3 o (by omega) (by omega))) hV hk1 h3 hn a1 a2 (fun T2 b1 b2 => ?_)
  simp (disch := omega) only [w61_11, w61_12, w61_15, w61_16, ht, ↓neg_vM, ↓neg_vB, ↓neg_vS, ↓neg_vF, ↓neg_vO, ↓neg_vA, ↓neg_vN, lit_nI, nI_leI, nI_ltI, nI_eq, jm_in_nI, nI_clamp, nI_add, n_mul, pk_sub, n_le_t, n_le_f, n_lt_t, n_lt_f, n_eq_t, n_eq_f, true_and, and_true, ne_eq, not_false_eq_true, not_true_eq_false, min_n, max_n, dif_n, n_rem, n_div, or_nI, shl_nI, Option.toList_some, Option.toList_none, List.singleton_append, List.nil_append, if_true, if_false, or_true, true_or, or_false, false_or, and_false, false_and, Bool.false_eq_true, c_fill (n := 5) (a := 123) (by decide) ht.2.2.2.2.2.2.2.2.2.2.2.2.2.2.2.2.2.2.2.2.2.2.1 hf.1 hf.2.1]
  simp (disch := omega) only [w61_19, w61_20, w61_21, w61_24, w61_25, w61_26, w61_27, ht, ↓neg_vM, ↓neg_vB, ↓neg_vS, ↓neg_vF, ↓neg_vO, ↓neg_vA, ↓neg_vN, lit_nI, nI_leI, nI_ltI, nI_eq, jm_in_nI, nI_clamp, nI_add, n_mul, pk_sub, n_le_t, n_le_f, n_lt_t, n_lt_f, n_eq_t, n_eq_f, true_and, and_true, ne_eq, not_false_eq_true, not_true_eq_false, min_n, max_n, dif_n, n_rem, n_div, or_nI, shl_nI, Option.toList_some, Option.toList_none, List.singleton_append, List.nil_append, if_true, if_false, or_true, true_or, or_false, false_or, and_false, false_and, Bool.false_eq_true, kl_int]
  generalize hT3 : jm_upd (jm_row T2 123 (fun x => if x < 5 then vM else T2 123 x)) 104 7 vM = T3
  have f3 : ∀ o, o ≠ 104 → o ≠ 123 → T3 o = T2 o := fun o p1 p2 => by rw [← hT3, upd_ne p1, row_ne p2]
  have e2 : T3 104 2 = nI (sC k) := by
    rw [← hT3, upd_at, if_neg (by omega), row_ne (by decide), b2 104 (by omega) (by omega)]
    exact a1
  have e7 : T3 104 7 = vM := by rw [← hT3, upd_at, if_pos ⟨rfl, rfl⟩]
  have ew : ∀ h, h < 5 → T3 123 h = vM := fun h hh => by rw [← hT3, upd_ne (by decide), row_at, if_pos rfl, if_pos hh]
  have x2 : T3 25 2 = nI (k 1) := by
    rw [f3 25 (by decide) (by decide), b2 25 (by omega) (by omega), a3 25 (by decide) (by decide)]
    exact hX.2.2.1
  have wl : ∀ i, i ≤ k 1 → WQ L (d + 5) 61 29 [.ref 104, .ref 25, .int (nI n), .int (nI ((sC k + 1) ^ i)), .int (nI i)] [] T3 Z := by
    apply down_ind
    · rw [w61_29]
      simp (disch := omega) only [w61_31, w61_32, w61_35, w61_53, w61_54, ht, hs, ↓neg_vM, ↓neg_vB, ↓neg_vS, ↓neg_vF, ↓neg_vO, ↓neg_vA, ↓neg_vN, lit_nI, nI_leI, nI_ltI, nI_eq, jm_in_nI, nI_clamp, nI_add, n_mul, pk_sub, n_le_t, n_le_f, n_lt_t, n_lt_f, n_eq_t, n_eq_f, true_and, and_true, ne_eq, not_false_eq_true, not_true_eq_false, min_n, max_n, dif_n, n_rem, n_div, or_nI, shl_nI, Option.toList_some, Option.toList_none, List.singleton_append, List.nil_append, if_true, if_false, or_true, true_or, or_false, false_or, and_false, false_and, Bool.false_eq_true, x2, kl_int]
      refine main 0 (Nat.zero_le _) T3 e2 (fun s hs' => ?_) (WO_of b1 c5 (fun o p1 p2 => f3 o (by omega) (by omega))) (fun _ h hh => ?_) (Or.inl ⟨rfl, e7⟩) (fun o ho => by rw [f3 o (by omega) (by omega), b2 o (by omega) (by omega), a3 o (by omega) (by omega)])
      · rw [f3 115 (by decide) (by decide), b2 115 (by omega) (by omega)]
        exact a2 s hs'
      · have ez : dV (sC k + 1) (k 1) 0 h = 0 := by
          have := rk_inj (C := sC k + 1) (d := dV (sC k + 1) (k 1) 0) (e := fun _ => 0) (k 1) (hdv 0) (fun _ _ => by omega) (by
            rw [rk_dV hNp]
            have z : ∀ H, rk (sC k + 1) (fun _ => 0) H = 0 := fun H => by
              induction H with
              | zero => rfl
              | succ H ih => rw [rk, ih, Nat.zero_mul]
            rw [z]) h hh
          exact this
        rw [ez, ew h (by omega)]
        rfl
    · intro i hi ih
      rw [Nat.pow_succ] at ih
      rw [w61_29]
      simp (disch := omega) only [w61_31, w61_32, w61_35, w61_38, w61_39, w61_40, w61_43, w61_44, w61_45, w61_46, w61_47, w61_50, ht, hs, ↓neg_vM, ↓neg_vB, ↓neg_vS, ↓neg_vF, ↓neg_vO, ↓neg_vA, ↓neg_vN, lit_nI, nI_leI, nI_ltI, nI_eq, jm_in_nI, nI_clamp, nI_add, n_mul, pk_sub, n_le_t, n_le_f, n_lt_t, n_lt_f, n_eq_t, n_eq_f, true_and, and_true, ne_eq, not_false_eq_true, not_true_eq_false, min_n, max_n, dif_n, n_rem, n_div, or_nI, shl_nI, Option.toList_some, Option.toList_none, List.singleton_append, List.nil_append, if_true, if_false, or_true, true_or, or_false, false_or, and_false, false_and, Bool.false_eq_true, x2, e2, kl_int]
      exact ih
  exact wl 0 (Nat.zero_le _)
/-! the reference's ways -/
def plJ (k : kT) (q : Nat → Nat) (lo hi : Nat) : kT := fun i => if 5 ≤ i ∧ i < 14 ∧ i % 2 = 1 ∧ lo ≤ (i - 5) / 2 ∧ (i - 5) / 2 < hi then q ((i - 5) / 2) else k i
theorem plJ_H (k : kT) (q : Nat → Nat) (H : Nat) : plJ k q H H = k := by
  funext i
  unfold plJ
  rw [if_neg (by omega)]
theorem plJ_0 (k : kT) (q : Nat → Nat) (H : Nat) : plJ k q 0 H = plK k q H := by
  funext i
  unfold plJ plK
  by_cases c : 5 ≤ i ∧ i < 14 ∧ i % 2 = 1 ∧ (i - 5) / 2 < H
  · rw [if_pos c, if_pos (by omega)]
  · rw [if_neg c, if_neg (by omega)]
theorem plJ_S (k : kT) (q : Nat → Nat) {i H : Nat} (h : i < H) (hH : H ≤ 5) : plJ k q i H = kU (plJ k q (i + 1) H) (4 + 2 * i + 1) (q i) := by
  funext x
  unfold plJ kU
  by_cases e : x = 4 + 2 * i + 1
  · rw [if_pos e, if_pos (by omega), show (x - 5) / 2 = i by omega]
  · rw [if_neg e]
    dsimp only
    by_cases e2 : 5 ≤ x ∧ x < 14 ∧ x % 2 = 1 ∧ i + 1 ≤ (x - 5) / 2 ∧ (x - 5) / 2 < H
    · rw [if_pos e2, if_pos (by omega)]
    · rw [if_neg e2, if_neg (by omega)]
theorem itC_le {C j : Nat} : ∀ i, itC C j i ≤ j
  | 0 => Nat.le_refl _
  | i + 1 => Nat.le_trans (Nat.div_le_self _ _) (itC_le i)
theorem dV_at {C H j i : Nat} (h : i < H) : dV C H j i = itC C j (H - (i + 1)) % C ∧ itC C j (H - i) = itC C j (H - (i + 1)) / C := by
  constructor
  · unfold dV
    rw [show H - 1 - i = H - (i + 1) by omega]
  · rw [show H - i = H - (i + 1) + 1 by omega]
    rfl
/-- what the first j ways gave the reference -/
def RB (k : kT) (n j : Nat) (x : Int32) (T : jm_I2) : Prop := (j = 0 ∧ x = vM) ∨ ∃ m w, isBest j (fun j => vR k n (dV (k 0 + 1) (k 1) j)) m w ∧ x = nI m ∧ ∀ h, h < k 1 → T 139 h = nI (dV (k 0 + 1) (k 1) w h)
set_option maxHeartbeats 8000000 in
theorem r_rota {n : Nat} {g : Int32} {T : jm_I2} (hM : RM 132 T k) (hV : KV k) (hk1 : 0 < k 1) (h3 : k 3 ≤ 999) (hn : n ≤ 60) (hZ : ∀ U m w u5 u6 u7 u8, isBest ((k 0 + 1) ^ k 1) (fun j => vR k n (dV (k 0 + 1) (k 1) j)) m w → (∀ h, h < k 1 → U 139 h = nI (dV (k 0 + 1) (k 1) w h)) → (∀ o, o ≠ 134 → o ≠ 137 → o ≠ 138 → o ≠ 139 → U o = T o) → WQ L (d + 9) 189 260 [.ref 128, .int (nI n), .int g, .int (nI ((k 0 + 1) ^ k 1)), .int (nI m), u5, u6, u7, u8] [] U Z) : WQ L (d + 9) 189 43 [.ref 128, .int (nI n), .int g, .null, .null, .null, .null, .null, .null] [] T Z := by
  have hm := mod_sh L
  have v0 := hV.1
  have v1 := hV.2.1
  have hN := pow7776 v0 v1
  have hNp : 0 < (k 0 + 1) ^ k 1 := Nat.pow_pos (by omega)
  have hdv : ∀ j h, dV (k 0 + 1) (k 1) j h < k 0 + 1 := fun j h => dV_lt (by omega) _ _ _
  have main : ∀ j, j ≤ (k 0 + 1) ^ k 1 → ∀ (T1 : jm_I2) (x : Int32) (u6 u7 u8 : Value), RB k n j x T1 → (∀ o, o ≠ 134 → o ≠ 137 → o ≠ 138 → o ≠ 139 → T1 o = T o) → WQ L (d + 9) 189 82 [.ref 128, .int (nI n), .int g, .int (nI ((k 0 + 1) ^ k 1)), .int x, .int (nI j), u6, u7, u8] [] T1 Z := by
    apply down_ind
    · intro T1 x u6 u7 u8 t5 tf
      rcases t5 with ⟨q, -⟩ | ⟨m, w, b1, rfl, b3⟩
      · omega
      · rw [w189_82]
        simp (disch := omega) only [w189_84, w189_85, hm, ↓neg_vM, ↓neg_vB, ↓neg_vS, ↓neg_vF, ↓neg_vO, ↓neg_vA, ↓neg_vN, lit_nI, nI_leI, nI_ltI, nI_eq, jm_in_nI, nI_clamp, nI_add, n_mul, pk_sub, n_le_t, n_le_f, n_lt_t, n_lt_f, n_eq_t, n_eq_f, true_and, and_true, ne_eq, not_false_eq_true, not_true_eq_false, min_n, max_n, dif_n, n_rem, n_div, or_nI, shl_nI, Option.toList_some, Option.toList_none, List.singleton_append, List.nil_append, if_true, if_false, or_true, true_or, or_false, false_or, and_false, false_and, Bool.false_eq_true]
        exact hZ T1 m w _ _ _ _ b1 b3 tf
    · intro j hj ih T1 x u6 u7 u8 t5 tf
      have tM : RM 132 T1 k := RM_of hM (tf 132 (by decide) (by decide) (by decide) (by decide))
      have g1 := tM 1 (by decide)
      have hq : ∀ h, h < k 1 → dV (k 0 + 1) (k 1) j h ≤ k 0 := fun h _ => by have := hdv j h; omega
      have hvl := vR_le (q := dV (k 0 + 1) (k 1) j) hV h3 hn hq
      -- the second writing
      have dig2 : ∀ (u7 : Int32) (U : jm_I2), (∀ o, o ≠ 134 → o ≠ 137 → o ≠ 138 → o ≠ 139 → U o = T o) → isBest (j + 1) (fun j => vR k n (dV (k 0 + 1) (k 1) j)) (vR k n (dV (k 0 + 1) (k 1) j)) j → ∀ i, i ≤ k 1 → ∀ U1 : jm_I2, (∀ h, i ≤ h → h < k 1 → U1 139 h = nI (dV (k 0 + 1) (k 1) j h)) → (∀ o, o ≠ 139 → U1 o = U o) → WQ L (d + 9) 189 212 [.ref 128, .int (nI n), .int g, .int (nI ((k 0 + 1) ^ k 1)), .int (nI (vR k n (dV (k 0 + 1) (k 1) j))), .int (nI j), .int (nI (itC (k 0 + 1) j (k 1 - i))), .int u7, .int (ixI i)] [] U1 Z := by
        intro u7 U uf hb i
        induction i with
        | zero =>
          intro _ U1 q1 q2
          have e0 : ixI 0 = vM := rfl
          rw [w189_212, e0]
          simp (disch := omega) only [w189_214, w189_254, w189_257, hm, ↓neg_vM, ↓neg_vB, ↓neg_vS, ↓neg_vF, ↓neg_vO, ↓neg_vA, ↓neg_vN, lit_nI, nI_leI, nI_ltI, nI_eq, jm_in_nI, nI_clamp, nI_add, n_mul, pk_sub, n_le_t, n_le_f, n_lt_t, n_lt_f, n_eq_t, n_eq_f, true_and, and_true, ne_eq, not_false_eq_true, not_true_eq_false, min_n, max_n, dif_n, n_rem, n_div, or_nI, shl_nI, Option.toList_some, Option.toList_none, List.singleton_append, List.nil_append, if_true, if_false, or_true, true_or, or_false, false_or, and_false, false_and, Bool.false_eq_true, vM_lt0, kl_int]
          exact ih U1 _ _ _ _ (Or.inr ⟨_, j, hb, rfl, fun h hh => q1 h (Nat.zero_le _) hh⟩) (fun o p1 p2 p3 p4 => by rw [q2 o p4, uf o p1 p2 p3 p4])
        | succ i ihi =>
          intro hi U1 q1 q2
          have e0 : ixI (i + 1) = nI i := rfl
          have z0 : U1 132 0 = nI (k 0) := by rw [q2 132 (by decide), uf 132 (by decide) (by decide) (by decide) (by decide)]; exact hM 0 (by decide)
          obtain ⟨d1, d2⟩ := dV_at (C := k 0 + 1) (H := k 1) (j := j) (i := i) (by omega)
          have hil := itC_le (C := k 0 + 1) (j := j) (k 1 - (i + 1))
          have ihi := ihi (by omega) (jm_upd U1 139 i (nI (dV (k 0 + 1) (k 1) j i))) (fun h a b => by
            rw [upd_at]
            by_cases e : h = i
            · rw [if_pos ⟨rfl, e⟩, e]
            · rw [if_neg (fun z => e z.2)]
              exact q1 h (by omega) b) (fun o ho => by rw [upd_ne ho, q2 o ho])
          rw [d1, d2] at ihi
          generalize itC (k 0 + 1) j (k 1 - (i + 1)) = lf at hil ihi ⊢
          have et : lf - lf / (k 0 + 1) * (k 0 + 1) = lf % (k 0 + 1) := by
            have := Nat.div_add_mod lf (k 0 + 1)
            rw [Nat.mul_comm] at this
            omega
          rw [w189_212, e0]
          simp (disch := omega) only [w189_214, w189_217, w189_218, w189_221, w189_223, w189_225, w189_226, w189_229, w189_230, w189_231, w189_232, w189_233, w189_234, w189_235, w189_237, w189_238, w189_241, w189_242, w189_243, w189_244, w189_245, w189_246, w189_248, w189_251, hm, ↓neg_vM, ↓neg_vB, ↓neg_vS, ↓neg_vF, ↓neg_vO, ↓neg_vA, ↓neg_vN, lit_nI, nI_leI, nI_ltI, nI_eq, jm_in_nI, nI_clamp, nI_add, n_mul, pk_sub, n_le_t, n_le_f, n_lt_t, n_lt_f, n_eq_t, n_eq_f, true_and, and_true, ne_eq, not_false_eq_true, not_true_eq_false, min_n, max_n, dif_n, n_rem, n_div, or_nI, shl_nI, Option.toList_some, Option.toList_none, List.singleton_append, List.nil_append, if_true, if_false, or_true, true_or, or_false, false_or, and_false, false_and, Bool.false_eq_true, z0, et, add_vM, upd_at, kl_int]
          exact ihi
      have dig1 : ∀ u8 : Value, ∀ i, i ≤ k 1 → ∀ T2 : jm_I2, RM 134 T2 (plJ k (dV (k 0 + 1) (k 1) j) i (k 1)) → (∀ o, o ≠ 134 → T2 o = T1 o) → WQ L (d + 9) 189 106 [.ref 128, .int (nI n), .int g, .int (nI ((k 0 + 1) ^ k 1)), .int x, .int (nI j), .int (nI (itC (k 0 + 1) j (k 1 - i))), .int (ixI i), u8] [] T2 Z := by
        intro u8 i
        induction i with
        | zero =>
          intro _ T2 q1 q2
          rw [plJ_0] at q1
          have e0 : ixI 0 = vM := rfl
          have hVp := KV_pl (n := k 1) hV hq
          have p3 : plK k (dV (k 0 + 1) (k 1) j) (k 1) 3 = k 3 := plK_low _ _ _ (by omega)
          rw [w189_106, e0]
          simp (disch := omega) only [w189_108, w189_154, w189_155, w189_156, w189_159, w189_160, hm, ↓neg_vM, ↓neg_vB, ↓neg_vS, ↓neg_vF, ↓neg_vO, ↓neg_vA, ↓neg_vN, lit_nI, nI_leI, nI_ltI, nI_eq, jm_in_nI, nI_clamp, nI_add, n_mul, pk_sub, n_le_t, n_le_f, n_lt_t, n_lt_f, n_eq_t, n_eq_f, true_and, and_true, ne_eq, not_false_eq_true, not_true_eq_false, min_n, max_n, dif_n, n_rem, n_div, or_nI, shl_nI, Option.toList_some, Option.toList_none, List.singleton_append, List.nil_append, if_true, if_false, or_true, true_or, or_false, false_or, and_false, false_and, Bool.false_eq_true, vM_lt0]
          refine r_hoursOf isR134 q1 hVp (by rw [p3]; omega) (fun U uM uf => ?_)
          have hVn := KV_hours hVp n (by rw [p3]; omega)
          have k0e : hoursA (plK k (dV (k 0 + 1) (k 1) j) (k 1)) n 0 = k 0 := by rw [(hoursA_low _ n).1, plK_low _ _ _ (by omega)]
          have hb6 := bset64 (kHd (hoursA (plK k (dV (k 0 + 1) (k 1) j) (k 1)) n)) (show hoursA (plK k (dV (k 0 + 1) (k 1) j) (k 1)) n 0 ≤ 5 by omega)
          have ev : 1000 * pop6 (bset (kHd (hoursA (plK k (dV (k 0 + 1) (k 1) j) (k 1)) n)) (hoursA (plK k (dV (k 0 + 1) (k 1) j) (k 1)) n 0)) + sumB (hoursA (plK k (dV (k 0 + 1) (k 1) j) (k 1)) n) (hoursA (plK k (dV (k 0 + 1) (k 1) j) (k 1)) n 0) = vR k n (dV (k 0 + 1) (k 1) j) := by
            rw [pop6_bset _ (by omega), by_wo, k0e]
            rfl
          have uff : ∀ o, o ≠ 134 → o ≠ 137 → o ≠ 138 → o ≠ 139 → U o = T o := fun o a1 a2 a3 a4 => by rw [uf o a1 a2 a3, q2 o a1, tf o a1 a2 a3 a4]
          have u139 : U 139 = T1 139 := by rw [uf 139 (by decide) (by decide) (by decide), q2 139 (by decide)]
          have z1 : U 132 1 = nI (k 1) := by rw [uff 132 (by decide) (by decide) (by decide) (by decide)]; exact hM 1 (by decide)
          simp (disch := omega) only [w189_163, w189_166, w189_167, w189_170, w189_173, w189_176, w189_177, w189_178, w189_181, w189_184, hm, ↓neg_vM, ↓neg_vB, ↓neg_vS, ↓neg_vF, ↓neg_vO, ↓neg_vA, ↓neg_vN, lit_nI, nI_leI, nI_ltI, nI_eq, jm_in_nI, nI_clamp, nI_add, n_mul, pk_sub, n_le_t, n_le_f, n_lt_t, n_lt_f, n_eq_t, n_eq_f, true_and, and_true, ne_eq, not_false_eq_true, not_true_eq_false, min_n, max_n, dif_n, n_rem, n_div, or_nI, shl_nI, Option.toList_some, Option.toList_none, List.singleton_append, List.nil_append, if_true, if_false, or_true, true_or, or_false, false_or, and_false, false_and, Bool.false_eq_true, r_holding isR134 uM hVn, r_bits, r_allBeat isR134 uM hVn, ev]
          have up : isBest (j + 1) (fun j => vR k n (dV (k 0 + 1) (k 1) j)) (vR k n (dV (k 0 + 1) (k 1) j)) j → WQ L (d + 9) 189 194 [.ref 128, .int (nI n), .int g, .int (nI ((k 0 + 1) ^ k 1)), .int x, .int (nI j), .int (nI (itC (k 0 + 1) j (k 1 - 0))), .int (nI (vR k n (dV (k 0 + 1) (k 1) j))), u8] [] U Z := fun hb => by
            have q := dig2 (nI (vR k n (dV (k 0 + 1) (k 1) j))) U uff hb (k 1) (Nat.le_refl _) U (fun h a b => absurd b (by omega)) (fun o _ => rfl)
            rw [Nat.sub_self] at q
            have e9 : nI (k 1 - 1) = ixI (k 1) := by unfold ixI; rw [if_neg (by omega)]
            simp (disch := omega) only [w189_194, w189_196, w189_198, w189_200, w189_202, w189_203, w189_206, w189_207, w189_208, w189_209, w189_210, hm, ↓neg_vM, ↓neg_vB, ↓neg_vS, ↓neg_vF, ↓neg_vO, ↓neg_vA, ↓neg_vN, lit_nI, nI_leI, nI_ltI, nI_eq, jm_in_nI, nI_clamp, nI_add, n_mul, pk_sub, n_le_t, n_le_f, n_lt_t, n_lt_f, n_eq_t, n_eq_f, true_and, and_true, ne_eq, not_false_eq_true, not_true_eq_false, min_n, max_n, dif_n, n_rem, n_div, or_nI, shl_nI, Option.toList_some, Option.toList_none, List.singleton_append, List.nil_append, if_true, if_false, or_true, true_or, or_false, false_or, and_false, false_and, Bool.false_eq_true, z1, e9, kl_int]
            exact q
          rcases t5 with ⟨hj0, rfl⟩ | ⟨m, w, b1, rfl, b3⟩
          · subst hj0
            simp (disch := omega) only [w189_185, w189_187, w189_189, w189_191, hm, ↓neg_vM, ↓neg_vB, ↓neg_vS, ↓neg_vF, ↓neg_vO, ↓neg_vA, ↓neg_vN, lit_nI, nI_leI, nI_ltI, nI_eq, jm_in_nI, nI_clamp, nI_add, n_mul, pk_sub, n_le_t, n_le_f, n_lt_t, n_lt_f, n_eq_t, n_eq_f, true_and, and_true, ne_eq, not_false_eq_true, not_true_eq_false, min_n, max_n, dif_n, n_rem, n_div, or_nI, shl_nI, Option.toList_some, Option.toList_none, List.singleton_append, List.nil_append, if_true, if_false, or_true, true_or, or_false, false_or, and_false, false_and, Bool.false_eq_true, le_vM, kl_int]
            exact up (best_1 _)
          · have hml : m ≤ 5300 := by
              rw [← b1.2.1]
              exact vR_le hV h3 hn (fun h _ => by have := hdv w h; omega)
            by_cases c : m < vR k n (dV (k 0 + 1) (k 1) j)
            · simp (disch := omega) only [w189_185, w189_187, w189_189, w189_191, hm, ↓neg_vM, ↓neg_vB, ↓neg_vS, ↓neg_vF, ↓neg_vO, ↓neg_vA, ↓neg_vN, lit_nI, nI_leI, nI_ltI, nI_eq, jm_in_nI, nI_clamp, nI_add, n_mul, pk_sub, n_le_t, n_le_f, n_lt_t, n_lt_f, n_eq_t, n_eq_f, true_and, and_true, ne_eq, not_false_eq_true, not_true_eq_false, min_n, max_n, dif_n, n_rem, n_div, or_nI, shl_nI, Option.toList_some, Option.toList_none, List.singleton_append, List.nil_append, if_true, if_false, or_true, true_or, or_false, false_or, and_false, false_and, Bool.false_eq_true, kl_int]
              exact up (best_up b1 c)
            · simp (disch := omega) only [w189_185, w189_187, w189_189, w189_191, w189_254, w189_257, hm, ↓neg_vM, ↓neg_vB, ↓neg_vS, ↓neg_vF, ↓neg_vO, ↓neg_vA, ↓neg_vN, lit_nI, nI_leI, nI_ltI, nI_eq, jm_in_nI, nI_clamp, nI_add, n_mul, pk_sub, n_le_t, n_le_f, n_lt_t, n_lt_f, n_eq_t, n_eq_f, true_and, and_true, ne_eq, not_false_eq_true, not_true_eq_false, min_n, max_n, dif_n, n_rem, n_div, or_nI, shl_nI, Option.toList_some, Option.toList_none, List.singleton_append, List.nil_append, if_true, if_false, or_true, true_or, or_false, false_or, and_false, false_and, Bool.false_eq_true, kl_int]
              exact ih U _ _ _ _ (Or.inr ⟨m, w, best_st b1 (by show vR k n (dV (k 0 + 1) (k 1) j) ≤ m; omega), rfl, fun h hh => by rw [u139]; exact b3 h hh⟩) uff
        | succ i ihi =>
          intro hi T2 q1 q2
          have e0 : ixI (i + 1) = nI i := rfl
          have z0 : T2 132 0 = nI (k 0) := by rw [q2 132 (by decide)]; exact tM 0 (by decide)
          obtain ⟨d1, d2⟩ := dV_at (C := k 0 + 1) (H := k 1) (j := j) (i := i) (by omega)
          have hil := itC_le (C := k 0 + 1) (j := j) (k 1 - (i + 1))
          have ihi := ihi (by omega) (jm_upd T2 134 (4 + 2 * i + 1) (nI (dV (k 0 + 1) (k 1) j i))) (by
            rw [plJ_S k _ (show i < k 1 by omega) v1]
            exact RM_upd q1) (fun o ho => by rw [upd_ne ho, q2 o ho])
          rw [d1, d2] at ihi
          generalize itC (k 0 + 1) j (k 1 - (i + 1)) = lf at hil ihi ⊢
          have et : lf - lf / (k 0 + 1) * (k 0 + 1) = lf % (k 0 + 1) := by
            have := Nat.div_add_mod lf (k 0 + 1)
            rw [Nat.mul_comm] at this
            omega
          rw [w189_106, e0]
          simp (disch := omega) only [w189_108, w189_111, w189_112, w189_115, w189_116, w189_117, w189_119, w189_120, w189_121, w189_122, w189_123, w189_125, w189_126, w189_129, w189_130, w189_131, w189_132, w189_133, w189_134, w189_135, w189_137, w189_138, w189_141, w189_142, w189_143, w189_144, w189_145, w189_146, w189_148, w189_151, hm, ↓neg_vM, ↓neg_vB, ↓neg_vS, ↓neg_vF, ↓neg_vO, ↓neg_vA, ↓neg_vN, lit_nI, nI_leI, nI_ltI, nI_eq, jm_in_nI, nI_clamp, nI_add, n_mul, pk_sub, n_le_t, n_le_f, n_lt_t, n_lt_f, n_eq_t, n_eq_f, true_and, and_true, ne_eq, not_false_eq_true, not_true_eq_false, min_n, max_n, dif_n, n_rem, n_div, or_nI, shl_nI, Option.toList_some, Option.toList_none, List.singleton_append, List.nil_append, if_true, if_false, or_true, true_or, or_false, false_or, and_false, false_and, Bool.false_eq_true, z0, et, add_vM, upd_at, kl_int]
          exact ihi
      have e9 : nI (k 1 - 1) = ixI (k 1) := by unfold ixI; rw [if_neg (by omega)]
      have g1' : fillS T1 134 (fun i => nI (k i)) 34 132 1 = nI (k 1) := by rw [fillS_ne (by decide)]; exact g1
      have q := dig1 u8 (k 1) (Nat.le_refl _) (fillS T1 134 (fun i => nI (k i)) 34) (by rw [plJ_H]; exact RM_fill) (fun o ho => fillS_ne ho)
      rw [Nat.sub_self] at q
      rw [w189_82]
      simp (disch := omega) only [w189_84, w189_85, w189_88, w189_89, w189_92, w189_94, w189_96, w189_97, w189_100, w189_101, w189_102, w189_103, w189_104, hm, ↓neg_vM, ↓neg_vB, ↓neg_vS, ↓neg_vF, ↓neg_vO, ↓neg_vA, ↓neg_vN, lit_nI, nI_leI, nI_ltI, nI_eq, jm_in_nI, nI_clamp, nI_add, n_mul, pk_sub, n_le_t, n_le_f, n_lt_t, n_lt_f, n_eq_t, n_eq_f, true_and, and_true, ne_eq, not_false_eq_true, not_true_eq_false, min_n, max_n, dif_n, n_rem, n_div, or_nI, shl_nI, Option.toList_some, Option.toList_none, List.singleton_append, List.nil_append, if_true, if_false, or_true, true_or, or_false, false_or, and_false, false_and, Bool.false_eq_true, r_layThen tM, g1', e9, kl_int]
      exact q
  have g1 := hM 1 (by decide)
  have g0 := hM 0 (by decide)
  have wl : ∀ i, i ≤ k 1 → WQ L (d + 9) 189 48 [.ref 128, .int (nI n), .int g, .int (nI ((k 0 + 1) ^ i)), .int (nI i), .null, .null, .null, .null] [] T Z := by
    apply down_ind
    · rw [w189_48]
      simp (disch := omega) only [w189_50, w189_51, w189_54, w189_55, w189_56, w189_76, w189_77, w189_79, w189_80, hm, ↓neg_vM, ↓neg_vB, ↓neg_vS, ↓neg_vF, ↓neg_vO, ↓neg_vA, ↓neg_vN, lit_nI, nI_leI, nI_ltI, nI_eq, jm_in_nI, nI_clamp, nI_add, n_mul, pk_sub, n_le_t, n_le_f, n_lt_t, n_lt_f, n_eq_t, n_eq_f, true_and, and_true, ne_eq, not_false_eq_true, not_true_eq_false, min_n, max_n, dif_n, n_rem, n_div, or_nI, shl_nI, Option.toList_some, Option.toList_none, List.singleton_append, List.nil_append, if_true, if_false, or_true, true_or, or_false, false_or, and_false, false_and, Bool.false_eq_true, g1, kl_int]
      exact main 0 (Nat.zero_le _) T vM _ _ _ (Or.inl ⟨rfl, rfl⟩) (fun o _ _ _ _ => rfl)
    · intro i hi ih
      rw [Nat.pow_succ] at ih
      rw [w189_48]
      simp (disch := omega) only [w189_50, w189_51, w189_54, w189_55, w189_56, w189_59, w189_60, w189_61, w189_64, w189_65, w189_66, w189_67, w189_68, w189_69, w189_70, w189_73, hm, ↓neg_vM, ↓neg_vB, ↓neg_vS, ↓neg_vF, ↓neg_vO, ↓neg_vA, ↓neg_vN, lit_nI, nI_leI, nI_ltI, nI_eq, jm_in_nI, nI_clamp, nI_add, n_mul, pk_sub, n_le_t, n_le_f, n_lt_t, n_lt_f, n_eq_t, n_eq_f, true_and, and_true, ne_eq, not_false_eq_true, not_true_eq_false, min_n, max_n, dif_n, n_rem, n_div, or_nI, shl_nI, Option.toList_some, Option.toList_none, List.singleton_append, List.nil_append, if_true, if_false, or_true, true_or, or_false, false_or, and_false, false_and, Bool.false_eq_true, g1, g0, kl_int]
      exact ih
  simp (disch := omega) only [w189_43, w189_44, w189_45, w189_46, hm, ↓neg_vM, ↓neg_vB, ↓neg_vS, ↓neg_vF, ↓neg_vO, ↓neg_vA, ↓neg_vN, lit_nI, nI_leI, nI_ltI, nI_eq, jm_in_nI, nI_clamp, nI_add, n_mul, pk_sub, n_le_t, n_le_f, n_lt_t, n_lt_f, n_eq_t, n_eq_f, true_and, and_true, ne_eq, not_false_eq_true, not_true_eq_false, min_n, max_n, dif_n, n_rem, n_div, or_nI, shl_nI, Option.toList_some, Option.toList_none, List.singleton_append, List.nil_append, if_true, if_false, or_true, true_or, or_false, false_or, and_false, false_and, Bool.false_eq_true, kl_int]
  exact wl 0 (Nat.zero_le _)
set_option maxHeartbeats 8000000 in
theorem p_rota {v w : Int32} (hI : InvK xs S k) : CL L (d + 9) 100 [.ref 0, .int v, .int w] S (Zx xs L (d + 9) 189 [.ref 128, .int v, .int w]) := by
  have ht := top_sh L
  have hr := rot_sh L
  have hm := mod_sh L
  obtain ⟨hX, hM, hV, h999, h01⟩ := hI.2.2.2.1
  have hM4 : RM 132 (jm_upd S 128 0 (nI 0)) k := RM_of hM (upd_ne (by decide))
  have v0 := hV.1
  have v1 := hV.2.1
  by_cases h : k 0 = 0
  · simp (disch := omega) only [w100_0, w100_1, w100_4, w100_7, w100_9, w100_10, w100_11, w100_12, w100_14, w100_17, w100_20, w100_21, w100_22, w100_25, w100_26, w100_27, w100_30, w100_33, w100_35, cl100, ht, ↓neg_vM, ↓neg_vB, ↓neg_vS, ↓neg_vF, ↓neg_vO, ↓neg_vA, ↓neg_vN, lit_nI, nI_leI, nI_ltI, nI_eq, jm_in_nI, nI_clamp, nI_add, n_mul, pk_sub, n_le_t, n_le_f, n_lt_t, n_lt_f, n_eq_t, n_eq_f, true_and, and_true, ne_eq, not_false_eq_true, not_true_eq_false, min_n, max_n, dif_n, n_rem, n_div, or_nI, shl_nI, Option.toList_some, Option.toList_none, List.singleton_append, List.nil_append, if_true, if_false, or_true, true_or, or_false, false_or, and_false, false_and, Bool.false_eq_true, Zx_some, c_noCamp hX hV, h]
    simp (disch := omega) only [w189_0, w189_1, w189_2, w189_5, w189_6, w189_9, w189_12, w189_14, w189_15, w189_16, w189_17, w189_18, w189_21, w189_24, w189_27, w189_28, w189_29, w189_32, w189_33, w189_34, w189_37, w189_40, w189_42, cl189, hm, ↓neg_vM, ↓neg_vB, ↓neg_vS, ↓neg_vF, ↓neg_vO, ↓neg_vA, ↓neg_vN, lit_nI, nI_leI, nI_ltI, nI_eq, jm_in_nI, nI_clamp, nI_add, n_mul, pk_sub, n_le_t, n_le_f, n_lt_t, n_lt_f, n_eq_t, n_eq_f, true_and, and_true, ne_eq, not_false_eq_true, not_true_eq_false, min_n, max_n, dif_n, n_rem, n_div, or_nI, shl_nI, Option.toList_some, Option.toList_none, List.singleton_append, List.nil_append, if_true, if_false, or_true, true_or, or_false, false_or, and_false, false_and, Bool.false_eq_true, Zm_some, r_isThere hM4 v0, h]
    exact ⟨k, InvK_same hI Same_thrown⟩
  · by_cases h1 : nI 1 ≤ v ∧ v ≤ nI 12
    · by_cases h2 : w = vM ∨ isN w (k 1) = true
      · obtain ⟨n, hn1, hn, rfl⟩ := btw (by decide) h1 (by decide)
        clear h1
        have hk1 := h01 (by omega)
        have hdv : ∀ j x, x < k 1 → dV (sC k + 1) (k 1) j x < sC k + 1 := fun j x _ => dV_lt (by omega) _ _ _
        have fin : ∀ {T U : jm_I2} {z : Int32}, offT S T → (∀ o, o ≠ 134 → o ≠ 137 → o ≠ 138 → o ≠ 139 → U o = jm_upd T 128 0 (nI 0) o) → Zm xs z (some (.int z)) U := fun {T U z} tf uf => by
          rw [Zm_some]
          refine ⟨rfl, k, InvK_same hI (Same_q (fun o ho h1 => ?_) (fun i hi => ?_))⟩
          · unfold scr at ho
            rw [uf o (by omega) (by omega) (by omega) (by omega), upd_ne h1, tf o (by omega)]
          · rw [uf 128 (by decide) (by decide) (by decide) (by decide), upd_at, if_neg (fun q => hi q.2), tf 128 (by omega)]
        -- both sides, by what the way is
        have both : ∀ (T : jm_I2) (m b : Nat), isBest ((sC k + 1) ^ k 1) (fun j => vC k n (dV (sC k + 1) (k 1) j)) m b → m ≤ 5300 ∧ ∀ m' b', isBest ((k 0 + 1) ^ k 1) (fun j => vR k n (dV (k 0 + 1) (k 1) j)) m' b' → m' = m ∧ ∀ x, x < k 1 → dV (k 0 + 1) (k 1) b' x = encF k (dV (sC k + 1) (k 1) b x) := fun T m b hb => by
          refine ⟨?_, fun m' b' hb' => ?_⟩
          · rw [← hb.2.1]
            exact vC_le hV h999 (by omega) (hdv b)
          · obtain ⟨e1, e2⟩ := best_uq hb' (best_both v0 v1 hb)
            refine ⟨e1, fun x hx => ?_⟩
            rw [e2]
            exact dV_rk (fun y hy => encF_le (hdv b y hy)) x hx
        rcases h2 with h2 | h2
        · subst h2
          simp (disch := omega) only [w100_0, w100_1, w100_4, w100_7, w100_9, w100_10, w100_11, w100_12, w100_14, w100_17, w100_20, w100_21, w100_22, w100_25, w100_26, w100_27, w100_30, w100_33, w100_35, w100_36, w100_37, w100_40, w100_41, w100_44, w100_45, cl100, ht, ↓neg_vM, ↓neg_vB, ↓neg_vS, ↓neg_vF, ↓neg_vO, ↓neg_vA, ↓neg_vN, lit_nI, nI_leI, nI_ltI, nI_eq, jm_in_nI, nI_clamp, nI_add, n_mul, pk_sub, n_le_t, n_le_f, n_lt_t, n_lt_f, n_eq_t, n_eq_f, true_and, and_true, ne_eq, not_false_eq_true, not_true_eq_false, min_n, max_n, dif_n, n_rem, n_div, or_nI, shl_nI, Option.toList_some, Option.toList_none, List.singleton_append, List.nil_append, if_true, if_false, or_true, true_or, or_false, false_or, and_false, false_and, Bool.false_eq_true, c_noCamp hX hV, h, c_withinP]
          refine c_find (n := n) hX hV hk1 h999 (by omega) (fun T m b hb t7 t125 tf => ?_)
          obtain ⟨hml, hbb⟩ := both T m b hb
          have hM5 : RM 132 (jm_upd T 128 0 (nI 0)) k := RM_of hM (by rw [upd_ne (by decide), tf _ (by decide)])
          simp (disch := omega) only [w100_48, w100_49, w100_50, w100_53, w100_54, w100_57, w100_60, w100_63, w100_64, w100_67, w100_70, w100_71, w100_72, cl60, w60_0, w60_1, w60_4, w60_7, w60_8, ht, hr, ↓neg_vM, ↓neg_vB, ↓neg_vS, ↓neg_vF, ↓neg_vO, ↓neg_vA, ↓neg_vN, lit_nI, nI_leI, nI_ltI, nI_eq, jm_in_nI, nI_clamp, nI_add, n_mul, pk_sub, n_le_t, n_le_f, n_lt_t, n_lt_f, n_eq_t, n_eq_f, true_and, and_true, ne_eq, not_false_eq_true, not_true_eq_false, min_n, max_n, dif_n, n_rem, n_div, or_nI, shl_nI, Option.toList_some, Option.toList_none, List.singleton_append, List.nil_append, if_true, if_false, or_true, true_or, or_false, false_or, and_false, false_and, Bool.false_eq_true, t7, Zx_some]
          simp (disch := omega) only [cl189, w189_0, w189_1, w189_2, w189_5, w189_6, w189_9, w189_12, w189_14, w189_15, w189_16, w189_17, w189_18, w189_21, w189_24, w189_27, w189_28, w189_29, w189_32, w189_33, w189_34, w189_37, w189_40, w189_42, hm, ↓neg_vM, ↓neg_vB, ↓neg_vS, ↓neg_vF, ↓neg_vO, ↓neg_vA, ↓neg_vN, lit_nI, nI_leI, nI_ltI, nI_eq, jm_in_nI, nI_clamp, nI_add, n_mul, pk_sub, n_le_t, n_le_f, n_lt_t, n_lt_f, n_eq_t, n_eq_f, true_and, and_true, ne_eq, not_false_eq_true, not_true_eq_false, min_n, max_n, dif_n, n_rem, n_div, or_nI, shl_nI, Option.toList_some, Option.toList_none, List.singleton_append, List.nil_append, if_true, if_false, or_true, true_or, or_false, false_or, and_false, false_and, Bool.false_eq_true, r_isThere hM5 v0, h, lit_lN, nI_l, r_in, lN_le]
          refine r_rota (n := n) hM5 hV hk1 h999 (by omega) (fun U m' b' u5 u6 u7 u8 hb' u139 uf => ?_)
          obtain ⟨rfl, -⟩ := hbb m' b' hb'
          simp (disch := omega) only [w189_260, w189_261, w189_262, w189_265, w189_267, w189_270, w189_271, w189_296, hm, ↓neg_vM, ↓neg_vB, ↓neg_vS, ↓neg_vF, ↓neg_vO, ↓neg_vA, ↓neg_vN, lit_nI, nI_leI, nI_ltI, nI_eq, jm_in_nI, nI_clamp, nI_add, n_mul, pk_sub, n_le_t, n_le_f, n_lt_t, n_lt_f, n_eq_t, n_eq_f, true_and, and_true, ne_eq, not_false_eq_true, not_true_eq_false, min_n, max_n, dif_n, n_rem, n_div, or_nI, shl_nI, Option.toList_some, Option.toList_none, List.singleton_append, List.nil_append, if_true, if_false, or_true, true_or, or_false, false_or, and_false, false_and, Bool.false_eq_true]
          exact fin tf uf
        · obtain ⟨y, hy, rfl⟩ := isN_of (by omega) h2
          have hM1 : (nI y = vM) = False := eq_vM (by omega)
          simp (disch := omega) only [w100_0, w100_1, w100_4, w100_7, w100_9, w100_10, w100_11, w100_12, w100_14, w100_17, w100_20, w100_21, w100_22, w100_25, w100_26, w100_27, w100_30, w100_33, w100_35, w100_36, w100_37, w100_40, w100_41, w100_44, w100_45, cl100, ht, ↓neg_vM, ↓neg_vB, ↓neg_vS, ↓neg_vF, ↓neg_vO, ↓neg_vA, ↓neg_vN, lit_nI, nI_leI, nI_ltI, nI_eq, jm_in_nI, nI_clamp, nI_add, n_mul, pk_sub, n_le_t, n_le_f, n_lt_t, n_lt_f, n_eq_t, n_eq_f, true_and, and_true, ne_eq, not_false_eq_true, not_true_eq_false, min_n, max_n, dif_n, n_rem, n_div, or_nI, shl_nI, Option.toList_some, Option.toList_none, List.singleton_append, List.nil_append, if_true, if_false, or_true, true_or, or_false, false_or, and_false, false_and, Bool.false_eq_true, c_noCamp hX hV, h, c_withinP, hM1, c_noHand hX hV, h2]
          refine c_find (n := n) hX hV hk1 h999 (by omega) (fun T m b hb t7 t125 tf => ?_)
          obtain ⟨hml, hbb⟩ := both T m b hb
          have ty := t125 y hy
          have hM5 : RM 132 (jm_upd T 128 0 (nI 0)) k := RM_of hM (by rw [upd_ne (by decide), tf _ (by decide)])
          simp (disch := omega) only [w100_48, w100_49, w100_50, w100_53, w100_54, w100_57, w100_60, w100_63, w100_64, w100_67, w100_70, w100_71, w100_72, ht, hr, ↓neg_vM, ↓neg_vB, ↓neg_vS, ↓neg_vF, ↓neg_vO, ↓neg_vA, ↓neg_vN, lit_nI, nI_leI, nI_ltI, nI_eq, jm_in_nI, nI_clamp, nI_add, n_mul, pk_sub, n_le_t, n_le_f, n_lt_t, n_lt_f, n_eq_t, n_eq_f, true_and, and_true, ne_eq, not_false_eq_true, not_true_eq_false, min_n, max_n, dif_n, n_rem, n_div, or_nI, shl_nI, Option.toList_some, Option.toList_none, List.singleton_append, List.nil_append, if_true, if_false, or_true, true_or, or_false, false_or, and_false, false_and, Bool.false_eq_true, hM1, ty, Zx_some]
          simp (disch := omega) only [cl189, w189_0, w189_1, w189_2, w189_5, w189_6, w189_9, w189_12, w189_14, w189_15, w189_16, w189_17, w189_18, w189_21, w189_24, w189_27, w189_28, w189_29, w189_32, w189_33, w189_34, w189_37, w189_40, w189_42, hm, ↓neg_vM, ↓neg_vB, ↓neg_vS, ↓neg_vF, ↓neg_vO, ↓neg_vA, ↓neg_vN, lit_nI, nI_leI, nI_ltI, nI_eq, jm_in_nI, nI_clamp, nI_add, n_mul, pk_sub, n_le_t, n_le_f, n_lt_t, n_lt_f, n_eq_t, n_eq_f, true_and, and_true, ne_eq, not_false_eq_true, not_true_eq_false, min_n, max_n, dif_n, n_rem, n_div, or_nI, shl_nI, Option.toList_some, Option.toList_none, List.singleton_append, List.nil_append, if_true, if_false, or_true, true_or, or_false, false_or, and_false, false_and, Bool.false_eq_true, r_isThere hM5 v0, h, lit_lN, nI_l, r_in, lN_le, hM1, r_isHand hM5 v1, h2]
          refine r_rota (n := n) hM5 hV hk1 h999 (by omega) (fun U m' b' u5 u6 u7 u8 hb' u139 uf => ?_)
          obtain ⟨-, e2⟩ := hbb m' b' hb'
          have uy : U 139 y = nI (encF k (dV (sC k + 1) (k 1) b y)) := by rw [u139 y hy, e2 y hy]
          have el := encF_le (hdv b y hy)
          by_cases c : encF k (dV (sC k + 1) (k 1) b y) = 0
          · rw [c, plv_0]
            rw [c] at uy
            simp (disch := omega) only [w189_260, w189_261, w189_262, w189_265, w189_267, w189_270, w189_271, w189_274, w189_275, w189_278, w189_279, w189_280, w189_283, w189_285, w189_288, w189_289, w189_292, w189_293, w189_294, w189_295, w189_296, hm, ↓neg_vM, ↓neg_vB, ↓neg_vS, ↓neg_vF, ↓neg_vO, ↓neg_vA, ↓neg_vN, lit_nI, nI_leI, nI_ltI, nI_eq, jm_in_nI, nI_clamp, nI_add, n_mul, pk_sub, n_le_t, n_le_f, n_lt_t, n_lt_f, n_eq_t, n_eq_f, true_and, and_true, ne_eq, not_false_eq_true, not_true_eq_false, min_n, max_n, dif_n, n_rem, n_div, or_nI, shl_nI, Option.toList_some, Option.toList_none, List.singleton_append, List.nil_append, if_true, if_false, or_true, true_or, or_false, false_or, and_false, false_and, Bool.false_eq_true, hM1, uy]
            exact fin tf uf
          · obtain ⟨z, hz⟩ : ∃ z, encF k (dV (sC k + 1) (k 1) b y) = z + 1 := ⟨encF k (dV (sC k + 1) (k 1) b y) - 1, by omega⟩
            rw [hz, plv_S]
            rw [hz] at uy
            simp (disch := omega) only [w189_260, w189_261, w189_262, w189_265, w189_267, w189_270, w189_271, w189_274, w189_275, w189_278, w189_279, w189_280, w189_283, w189_285, w189_288, w189_289, w189_292, w189_293, w189_294, w189_295, w189_296, hm, ↓neg_vM, ↓neg_vB, ↓neg_vS, ↓neg_vF, ↓neg_vO, ↓neg_vA, ↓neg_vN, lit_nI, nI_leI, nI_ltI, nI_eq, jm_in_nI, nI_clamp, nI_add, n_mul, pk_sub, n_le_t, n_le_f, n_lt_t, n_lt_f, n_eq_t, n_eq_f, true_and, and_true, ne_eq, not_false_eq_true, not_true_eq_false, min_n, max_n, dif_n, n_rem, n_div, or_nI, shl_nI, Option.toList_some, Option.toList_none, List.singleton_append, List.nil_append, if_true, if_false, or_true, true_or, or_false, false_or, and_false, false_and, Bool.false_eq_true, hM1, uy, Nat.add_sub_cancel]
            exact fin tf uf
      · have n1 : ¬ w = vM := fun q => h2 (Or.inl q)
        have n2 : ¬ isN w (k 1) = true := fun q => h2 (Or.inr q)
        simp (disch := omega) only [w100_0, w100_1, w100_4, w100_7, w100_9, w100_10, w100_11, w100_12, w100_14, w100_17, w100_20, w100_21, w100_22, w100_25, w100_26, w100_27, w100_30, w100_33, w100_35, cl100, ht, ↓neg_vM, ↓neg_vB, ↓neg_vS, ↓neg_vF, ↓neg_vO, ↓neg_vA, ↓neg_vN, lit_nI, nI_leI, nI_ltI, nI_eq, jm_in_nI, nI_clamp, nI_add, n_mul, pk_sub, n_le_t, n_le_f, n_lt_t, n_lt_f, n_eq_t, n_eq_f, true_and, and_true, ne_eq, not_false_eq_true, not_true_eq_false, min_n, max_n, dif_n, n_rem, n_div, or_nI, shl_nI, Option.toList_some, Option.toList_none, List.singleton_append, List.nil_append, if_true, if_false, or_true, true_or, or_false, false_or, and_false, false_and, Bool.false_eq_true, Zx_some, c_noCamp hX hV, h, c_withinP, h1, n1, c_noHand hX hV, n2]
        simp (disch := omega) only [w189_0, w189_1, w189_2, w189_5, w189_6, w189_9, w189_12, w189_14, w189_15, w189_16, w189_17, w189_18, w189_21, w189_24, w189_27, w189_28, w189_29, w189_32, w189_33, w189_34, w189_37, w189_40, w189_42, cl189, hm, ↓neg_vM, ↓neg_vB, ↓neg_vS, ↓neg_vF, ↓neg_vO, ↓neg_vA, ↓neg_vN, lit_nI, nI_leI, nI_ltI, nI_eq, jm_in_nI, nI_clamp, nI_add, n_mul, pk_sub, n_le_t, n_le_f, n_lt_t, n_lt_f, n_eq_t, n_eq_f, true_and, and_true, ne_eq, not_false_eq_true, not_true_eq_false, min_n, max_n, dif_n, n_rem, n_div, or_nI, shl_nI, Option.toList_some, Option.toList_none, List.singleton_append, List.nil_append, if_true, if_false, or_true, true_or, or_false, false_or, and_false, false_and, Bool.false_eq_true, Zm_some, r_isThere hM4 v0, h, lit_lN, r_in, lx_le, xl_le, h1, n1, r_isHand hM4 v1, n2]
        exact ⟨k, InvK_same hI Same_thrown⟩
    · simp (disch := omega) only [w100_0, w100_1, w100_4, w100_7, w100_9, w100_10, w100_11, w100_12, w100_14, w100_17, w100_20, w100_21, w100_22, w100_25, w100_26, w100_27, w100_30, w100_33, w100_35, cl100, ht, ↓neg_vM, ↓neg_vB, ↓neg_vS, ↓neg_vF, ↓neg_vO, ↓neg_vA, ↓neg_vN, lit_nI, nI_leI, nI_ltI, nI_eq, jm_in_nI, nI_clamp, nI_add, n_mul, pk_sub, n_le_t, n_le_f, n_lt_t, n_lt_f, n_eq_t, n_eq_f, true_and, and_true, ne_eq, not_false_eq_true, not_true_eq_false, min_n, max_n, dif_n, n_rem, n_div, or_nI, shl_nI, Option.toList_some, Option.toList_none, List.singleton_append, List.nil_append, if_true, if_false, or_true, true_or, or_false, false_or, and_false, false_and, Bool.false_eq_true, Zx_some, c_noCamp hX hV, h, c_withinP, h1]
      simp (disch := omega) only [w189_0, w189_1, w189_2, w189_5, w189_6, w189_9, w189_12, w189_14, w189_15, w189_16, w189_17, w189_18, w189_21, w189_24, w189_27, w189_28, w189_29, w189_32, w189_33, w189_34, w189_37, w189_40, w189_42, cl189, hm, ↓neg_vM, ↓neg_vB, ↓neg_vS, ↓neg_vF, ↓neg_vO, ↓neg_vA, ↓neg_vN, lit_nI, nI_leI, nI_ltI, nI_eq, jm_in_nI, nI_clamp, nI_add, n_mul, pk_sub, n_le_t, n_le_f, n_lt_t, n_lt_f, n_eq_t, n_eq_f, true_and, and_true, ne_eq, not_false_eq_true, not_true_eq_false, min_n, max_n, dif_n, n_rem, n_div, or_nI, shl_nI, Option.toList_some, Option.toList_none, List.singleton_append, List.nil_append, if_true, if_false, or_true, true_or, or_false, false_or, and_false, false_and, Bool.false_eq_true, Zm_some, r_isThere hM4 v0, h, lit_lN, r_in, lx_le, xl_le, h1]
      exact ⟨k, InvK_same hI Same_thrown⟩
end
