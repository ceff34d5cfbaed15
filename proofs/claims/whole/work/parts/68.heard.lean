/-! ===== what was heard ===== -/
def soB (k : kT) (r : Nat) (it : Nat → Int32) : Nat → Bool
  | 0 => true
  | n + 1 => soB k r it n && decide (nI (kBt (hoursA k (n + 1)) r) = it n)
theorem soB_F {k : kT} {r : Nat} {it : Nat → Int32} {m : Nat} (h : soB k r it m = false) : ∀ {n}, m ≤ n → soB k r it n = false
  | 0, hn => by rw [← h, show m = 0 by omega]
  | n + 1, hn => by
    by_cases e : m = n + 1
    · rw [← e]; exact h
    · rw [soB, soB_F h (show m ≤ n by omega)]; rfl
def lstF (p : Nat → Bool) : Nat → Option Nat
  | 0 => none
  | n + 1 => match lstF p n with
    | some s => some s
    | none => if p n = true then some n else none
theorem lstF_lt {p : Nat → Bool} : ∀ {n s : Nat}, lstF p n = some s → s < n
  | 0, s, h => by cases h
  | n + 1, s, h => by
    rw [lstF] at h
    split at h
    · rename_i s' hs
      cases h
      have := lstF_lt hs
      omega
    · split at h
      · cases h; omega
      · cases h
theorem lstF_F {p : Nat → Bool} {n : Nat} (h : p n = false) : lstF p (n + 1) = lstF p n := by
  rw [lstF]
  cases hl : lstF p n with
  | some s => rfl
  | none => simp [h]
theorem lstF_T {p : Nat → Bool} {n : Nat} (h : p n = true) (h2 : lstF p n = none) : lstF p (n + 1) = some n := by
  rw [lstF, h2]
  simp [h]
theorem lstF_s {p : Nat → Bool} {n s : Nat} (h2 : lstF p n = some s) : lstF p (n + 1) = some s := by
  rw [lstF, h2]
theorem cnt_lst {p : Nat → Bool} : ∀ n, cnt p n = 0 ↔ lstF p n = none
  | 0 => ⟨fun _ => rfl, fun _ => rfl⟩
  | n + 1 => by
    have ih := cnt_lst (p := p) n
    cases hp : p n with
    | false => rw [lstF_F hp, cnt, hp]; simpa using ih
    | true =>
      rw [cnt, hp]
      refine ⟨fun q => by simp at q, fun q => ?_⟩
      cases hl : lstF p n with
      | none => rw [lstF_T hp hl] at q; cases q
      | some s => rw [lstF_s hl] at q; cases q
theorem lst_none {p : Nat → Bool} {n : Nat} (h : ∀ i, i < n → p i = false) : lstF p n = none ∧ cnt p n = 0 ∧ bset p n = 0 := by
  have h1 : cnt p n = 0 := by
    induction n with
    | zero => rfl
    | succ n ih => rw [cnt, ih (fun i hi => h i (by omega)), h n (by omega)]; rfl
  exact ⟨(cnt_lst n).mp h1, h1, bset_none h⟩
/-- a rule's kind, loss or beat is another -/
def wK (k : kT) (r w v : Nat) : kT := if w = 0 then kU k (14 + 4 * r + 0) v else if w = 1 then kU k (14 + 4 * r + 2) v else kU k (14 + 4 * r + 1) v
def whQ (k : kT) (r w : Nat) (it : Nat → Int32) (n v : Nat) : Bool := decide ((if w < 2 then 1 else 0) ≤ v) && soB (wK k r w v) r it n
def feQ (k : kT) (h r : Nat) (it : Nat → Int32) (n v : Nat) : Bool := soB (kU k (4 + 2 * h + 0) v) r it n
theorem vO_ne1 : (vO - nI 1 = nI 0) = False := eq_false (by decide)
theorem vO_ne2 : (vO - nI 2 = nI 0) = False := eq_false (by decide)
theorem InvK_qs {xs : Nat → Int32} {S U : jm_I2} {k : kT} (hI : InvK xs S k) (g : ∀ o, ¬ scr o → o ≠ 0 → o ≠ 128 → U o = S o) (g0 : ∀ i, i ≠ 9 → U 0 i = S 0 i) (g1 : ∀ i, i ≠ 0 → i ≠ 1 → U 128 i = S 128 i) (hU : U 0 9 = U 128 1) : InvK xs U k := by
  obtain ⟨h1, h2, h3, h4, h5, h6, h7, h8, h9⟩ := hI
  have f : ∀ o, (1 ≤ o ∧ o ≤ 14) ∨ (25 ≤ o ∧ o ≤ 31) ∨ (35 ≤ o ∧ o ≤ 81) ∨ (126 ≤ o ∧ o ≤ 127) ∨ (129 ≤ o ∧ o ≤ 132) ∨ o = 135 ∨ o = 136 ∨ 141 ≤ o → U o = S o := fun o ho => g o (by unfold scr; omega) (by omega) (by omega)
  exact ⟨IS_of h1 (fun o ho => f o (by omega)), IR_of h2 (fun o ho => f o (by omega)), IT_of h3 (by rw [f 13 (by omega)]) (g1 _ (by decide) (by decide)) (f _ (by omega)) (f _ (by omega)), IC_of h4 (fun o a b => f o (by omega)) (f _ (by omega)), IA_of h5 (by rw [f 56 (by omega)]) (by rw [f 56 (by omega)]) (g1 _ (by decide) (by decide)) (fun o a b => f o (by omega)) (f _ (by omega)), II_of h6 (fun o a b => f o (by omega)) (f _ (by omega)) (f _ (by omega)), IQ_of h7 (by rw [f 126 (by omega)]) (g1 _ (by decide) (by decide)) (f _ (by omega)) (f _ (by omega)), IF_of h8 (g0 _ (by decide)) (g1 _ (by decide) (by decide)), hU⟩
section
variable {xs : Nat → Int32} {L d : Nat} {S : jm_I2} {k : kT} {Z : Option Value → jm_I2 → Prop}
theorem c_isSo {r n : Nat} {it : Nat → Int32} (hX : RX 83 S k) (hV : KV k) (hk1 : 0 < k 1) (h3 : k 3 ≤ 999) (hr : r < k 0) (hn : n ≤ 12) (e1 : S 82 3 = nI n) (e2 : ∀ x, x < n → S 103 x = it x) (hZ : ∀ T, offC 83 S T → Z (some (.int (nI (if soB k r it n = true then 1 else 0)))) T) : CL L (d + 4) 41 [.ref 82, .int (nI r)] S Z := by
  have ht := top_sh L
  have hs := camp_sh isC83
  have hl := camp_ll L isC83
  have v0 := hV.1
  have key : ∀ i, i ≤ n → ∀ T, RX 83 T (hoursA k i) → offC 83 S T → soB k r it i = true → WQ L (d + 4) 41 2 [.ref 82, .int (nI r), .int (nI i)] [] T Z := by
    apply down_ind
    · intro T tX tf hso
      have e3 : T 82 3 = nI n := by rw [tf 82 (by omega)]; exact e1
      have e := hZ T tf
      rw [if_pos hso] at e
      rw [w41_2]
      simp (disch := omega) only [w41_3, w41_4, w41_7, w41_10, w41_11, w41_14, w41_17, w41_18, w41_21, w41_24, w41_25, w41_26, w41_27, w41_30, w41_31, w41_32, w41_35, w41_36, w41_37, w41_40, w41_43, w41_44, ht, ↓neg_vM, ↓neg_vB, ↓neg_vS, ↓neg_vF, ↓neg_vO, ↓neg_vA, ↓neg_vN, lit_nI, nI_leI, nI_ltI, nI_eq, jm_in_nI, nI_clamp, nI_add, n_mul, pk_sub, n_le_t, n_le_f, n_lt_t, n_lt_f, n_eq_t, n_eq_f, true_and, and_true, ne_eq, not_false_eq_true, not_true_eq_false, min_n, max_n, dif_n, n_rem, n_div, or_nI, shl_nI, Option.toList_some, Option.toList_none, List.singleton_append, List.nil_append, if_true, if_false, or_true, true_or, or_false, false_or, and_false, false_and, Bool.false_eq_true, e3]
      exact e
    · intro i hi ih T tX tf hso
      have e3 : T 82 3 = nI n := by rw [tf 82 (by omega)]; exact e1
      have hVi := KV_hours hV i (by omega)
      have hVi1 := KV_hours hV (i + 1) (by omega)
      have hk0 : hoursA k (i + 1) 0 = k 0 := (hoursA_low k (i + 1)).1
      rw [w41_2]
      simp (disch := omega) only [w41_3, w41_4, w41_7, w41_10, w41_11, w41_14, w41_17, w41_18, w41_21, w41_24, w41_25, w41_26, w41_27, w41_30, w41_31, w41_32, w41_35, w41_36, w41_37, w41_40, w41_43, w41_44, ht, hs, ↓neg_vM, ↓neg_vB, ↓neg_vS, ↓neg_vF, ↓neg_vO, ↓neg_vA, ↓neg_vN, lit_nI, nI_leI, nI_ltI, nI_eq, jm_in_nI, nI_clamp, nI_add, n_mul, pk_sub, n_le_t, n_le_f, n_lt_t, n_lt_f, n_eq_t, n_eq_f, true_and, and_true, ne_eq, not_false_eq_true, not_true_eq_false, min_n, max_n, dif_n, n_rem, n_div, or_nI, shl_nI, Option.toList_some, Option.toList_none, List.singleton_append, List.nil_append, if_true, if_false, or_true, true_or, or_false, false_or, and_false, false_and, Bool.false_eq_true, e3]
      refine c_passHour isC83 tX hVi (by rw [(hoursA_low k i).2.1]; exact hk1) (fun T2 tX2 tf2 => ?_)
      have tf3 : offC 83 S T2 := fun o ho => by rw [tf2 o ho, tf o ho]
      have z2 := (tX2.2.2.2.2.2 r (show r < hoursA k (i + 1) 0 by rw [hk0]; exact hr)).2.1
      have e4 : T2 103 i = it i := by rw [tf3 103 (by omega)]; exact e2 i hi
      have z2' : T2 (83 + 4) r = nI (kBt (hoursA k (i + 1)) r) := z2
      by_cases c : nI (kBt (hoursA k (i + 1)) r) = it i
      · simp (disch := omega) only [w41_3, w41_4, w41_7, w41_10, w41_11, w41_14, w41_17, w41_18, w41_21, w41_24, w41_25, w41_26, w41_27, w41_30, w41_31, w41_32, w41_35, w41_36, w41_37, w41_40, w41_43, w41_44, ht, hs, hl, ↓neg_vM, ↓neg_vB, ↓neg_vS, ↓neg_vF, ↓neg_vO, ↓neg_vA, ↓neg_vN, lit_nI, nI_leI, nI_ltI, nI_eq, jm_in_nI, nI_clamp, nI_add, n_mul, pk_sub, n_le_t, n_le_f, n_lt_t, n_lt_f, n_eq_t, n_eq_f, true_and, and_true, ne_eq, not_false_eq_true, not_true_eq_false, min_n, max_n, dif_n, n_rem, n_div, or_nI, shl_nI, Option.toList_some, Option.toList_none, List.singleton_append, List.nil_append, if_true, if_false, or_true, true_or, or_false, false_or, and_false, false_and, Bool.false_eq_true, z2', e4, c]
        exact ih T2 tX2 tf3 (by rw [soB, hso, c]; simp)
      · have e := hZ T2 tf3
        rw [if_neg (by rw [soB_F (m := i + 1) (by rw [soB, hso]; simp [c]) (by omega)]; decide)] at e
        simp (disch := omega) only [w41_3, w41_4, w41_7, w41_10, w41_11, w41_14, w41_17, w41_18, w41_21, w41_24, w41_25, w41_26, w41_27, w41_30, w41_31, w41_32, w41_35, w41_36, w41_37, w41_40, w41_43, w41_44, ht, hs, hl, ↓neg_vM, ↓neg_vB, ↓neg_vS, ↓neg_vF, ↓neg_vO, ↓neg_vA, ↓neg_vN, lit_nI, nI_leI, nI_ltI, nI_eq, jm_in_nI, nI_clamp, nI_add, n_mul, pk_sub, n_le_t, n_le_f, n_lt_t, n_lt_f, n_eq_t, n_eq_f, true_and, and_true, ne_eq, not_false_eq_true, not_true_eq_false, min_n, max_n, dif_n, n_rem, n_div, or_nI, shl_nI, Option.toList_some, Option.toList_none, List.singleton_append, List.nil_append, if_true, if_false, or_true, true_or, or_false, false_or, and_false, false_and, Bool.false_eq_true, z2', e4, c]
        exact e
  simp (disch := omega) only [cl41, w41_0, w41_1, ↓neg_vM, ↓neg_vB, ↓neg_vS, ↓neg_vF, ↓neg_vO, ↓neg_vA, ↓neg_vN, lit_nI, nI_leI, nI_ltI, nI_eq, jm_in_nI, nI_clamp, nI_add, n_mul, pk_sub, n_le_t, n_le_f, n_lt_t, n_lt_f, n_eq_t, n_eq_f, true_and, and_true, ne_eq, not_false_eq_true, not_true_eq_false, min_n, max_n, dif_n, n_rem, n_div, or_nI, shl_nI, Option.toList_some, Option.toList_none, List.singleton_append, List.nil_append, if_true, if_false, or_true, true_or, or_false, false_or, and_false, false_and, Bool.false_eq_true]
  exact key 0 (Nat.zero_le _) S hX (fun o _ => rfl) rfl
theorem r_isSo {r n b : Nat} {it : Nat → Int32} {T : jm_I2} (hM : RM 134 T k) (hV : KV k) (h3 : k 3 ≤ 999) (hr : r < k 0) (hn : n ≤ 12) (hb : b + n ≤ 320) (e2 : ∀ x, x < n → T 131 (b + x) = it x) (hZ : ∀ U, (∀ o, o ≠ 134 → o ≠ 137 → o ≠ 138 → U o = T o) → Z (some (.int (nI (if soB k r it n = true then 1 else 0)))) U) : CL L (d + 5) 199 [.ref 128, .int (nI r), .int (nI b), .int (nI n)] T Z := by
  have hm := mod_sh L
  have v0 := hV.1
  have key : ∀ i, i ≤ n → ∀ U, RM 134 U (hoursA k i) → (∀ o, o ≠ 134 → o ≠ 137 → o ≠ 138 → U o = T o) → WQ L (d + 5) 199 6 [.ref 128, .int (nI r), .int (nI b), .int (nI n), .int (nI (if soB k r it i = true then 1 else 0)), .int (nI i)] [] U Z := by
    apply down_ind
    · intro U uM uf
      rw [w199_6]
      simp (disch := omega) only [w199_8, w199_9, w199_12, w199_13, w199_14, w199_17, w199_20, w199_22, w199_25, w199_26, w199_29, w199_30, w199_31, w199_34, w199_35, w199_38, w199_39, w199_41, w199_42, w199_43, w199_46, w199_47, w199_50, w199_51, w199_53, w199_56, w199_59, w199_61, hm, ↓neg_vM, ↓neg_vB, ↓neg_vS, ↓neg_vF, ↓neg_vO, ↓neg_vA, ↓neg_vN, lit_nI, nI_leI, nI_ltI, nI_eq, jm_in_nI, nI_clamp, nI_add, n_mul, pk_sub, n_le_t, n_le_f, n_lt_t, n_lt_f, n_eq_t, n_eq_f, true_and, and_true, ne_eq, not_false_eq_true, not_true_eq_false, min_n, max_n, dif_n, n_rem, n_div, or_nI, shl_nI, Option.toList_some, Option.toList_none, List.singleton_append, List.nil_append, if_true, if_false, or_true, true_or, or_false, false_or, and_false, false_and, Bool.false_eq_true]
      refine ⟨?_, hZ U uf⟩
      by_cases c : soB k r it n = true
      · exact Or.inr (by rw [if_pos c])
      · exact Or.inl (by rw [if_neg c])
    · intro i hi ih U uM uf
      have hVi := KV_hours hV i (by omega)
      have hk0 : hoursA k (i + 1) 0 = k 0 := (hoursA_low k (i + 1)).1
      rw [w199_6]
      simp (disch := omega) only [w199_8, w199_9, w199_12, w199_13, w199_14, w199_17, w199_20, w199_22, w199_25, w199_26, w199_29, w199_30, w199_31, w199_34, w199_35, w199_38, w199_39, w199_41, w199_42, w199_43, w199_46, w199_47, w199_50, w199_51, w199_53, w199_56, w199_59, w199_61, hm, ↓neg_vM, ↓neg_vB, ↓neg_vS, ↓neg_vF, ↓neg_vO, ↓neg_vA, ↓neg_vN, lit_nI, nI_leI, nI_ltI, nI_eq, jm_in_nI, nI_clamp, nI_add, n_mul, pk_sub, n_le_t, n_le_f, n_lt_t, n_lt_f, n_eq_t, n_eq_f, true_and, and_true, ne_eq, not_false_eq_true, not_true_eq_false, min_n, max_n, dif_n, n_rem, n_div, or_nI, shl_nI, Option.toList_some, Option.toList_none, List.singleton_append, List.nil_append, if_true, if_false, or_true, true_or, or_false, false_or, and_false, false_and, Bool.false_eq_true]
      refine r_hour isR134 uM hVi (fun U2 uM2 uf2 => ?_)
      have uf3 : ∀ o, o ≠ 134 → o ≠ 137 → o ≠ 138 → U2 o = T o := fun o a b c => by rw [uf2 o a b c, uf o a b c]
      have uM3 : RM 134 U2 (hoursA k (i + 1)) := uM2
      have e4 : U2 131 (b + i) = it i := by rw [uf3 131 (by decide) (by decide) (by decide)]; exact e2 i hi
      have e5 := ih U2 uM3 uf3
      by_cases c0 : soB k r it i = true
      · by_cases c : nI (kBt (hoursA k (i + 1)) r) = it i
        · rw [soB, c0, c] at e5
          simp only [decide_true, Bool.and_true, Bool.true_and, if_true] at e5
          simp (disch := omega) only [w199_8, w199_9, w199_12, w199_13, w199_14, w199_17, w199_20, w199_22, w199_25, w199_26, w199_29, w199_30, w199_31, w199_34, w199_35, w199_38, w199_39, w199_41, w199_42, w199_43, w199_46, w199_47, w199_50, w199_51, w199_53, w199_56, w199_59, w199_61, hm, ↓neg_vM, ↓neg_vB, ↓neg_vS, ↓neg_vF, ↓neg_vO, ↓neg_vA, ↓neg_vN, lit_nI, nI_leI, nI_ltI, nI_eq, jm_in_nI, nI_clamp, nI_add, n_mul, pk_sub, n_le_t, n_le_f, n_lt_t, n_lt_f, n_eq_t, n_eq_f, true_and, and_true, ne_eq, not_false_eq_true, not_true_eq_false, min_n, max_n, dif_n, n_rem, n_div, or_nI, shl_nI, Option.toList_some, Option.toList_none, List.singleton_append, List.nil_append, if_true, if_false, or_true, true_or, or_false, false_or, and_false, false_and, Bool.false_eq_true, c0, r_of1 isR134 uM3, e4, c]
          exact e5
        · rw [soB, c0] at e5
          simp only [c, decide_false, Bool.and_false, Bool.false_eq_true, if_false] at e5
          simp (disch := omega) only [w199_8, w199_9, w199_12, w199_13, w199_14, w199_17, w199_20, w199_22, w199_25, w199_26, w199_29, w199_30, w199_31, w199_34, w199_35, w199_38, w199_39, w199_41, w199_42, w199_43, w199_46, w199_47, w199_50, w199_51, w199_53, w199_56, w199_59, w199_61, hm, ↓neg_vM, ↓neg_vB, ↓neg_vS, ↓neg_vF, ↓neg_vO, ↓neg_vA, ↓neg_vN, lit_nI, nI_leI, nI_ltI, nI_eq, jm_in_nI, nI_clamp, nI_add, n_mul, pk_sub, n_le_t, n_le_f, n_lt_t, n_lt_f, n_eq_t, n_eq_f, true_and, and_true, ne_eq, not_false_eq_true, not_true_eq_false, min_n, max_n, dif_n, n_rem, n_div, or_nI, shl_nI, Option.toList_some, Option.toList_none, List.singleton_append, List.nil_append, if_true, if_false, or_true, true_or, or_false, false_or, and_false, false_and, Bool.false_eq_true, c0, r_of1 isR134 uM3, e4, c]
          exact e5
      · have c1 : soB k r it i = false := by simpa using c0
        rw [soB, c1] at e5
        simp only [Bool.false_and, Bool.false_eq_true, if_false] at e5
        simp (disch := omega) only [w199_8, w199_9, w199_12, w199_13, w199_14, w199_17, w199_20, w199_22, w199_25, w199_26, w199_29, w199_30, w199_31, w199_34, w199_35, w199_38, w199_39, w199_41, w199_42, w199_43, w199_46, w199_47, w199_50, w199_51, w199_53, w199_56, w199_59, w199_61, hm, ↓neg_vM, ↓neg_vB, ↓neg_vS, ↓neg_vF, ↓neg_vO, ↓neg_vA, ↓neg_vN, lit_nI, nI_leI, nI_ltI, nI_eq, jm_in_nI, nI_clamp, nI_add, n_mul, pk_sub, n_le_t, n_le_f, n_lt_t, n_lt_f, n_eq_t, n_eq_f, true_and, and_true, ne_eq, not_false_eq_true, not_true_eq_false, min_n, max_n, dif_n, n_rem, n_div, or_nI, shl_nI, Option.toList_some, Option.toList_none, List.singleton_append, List.nil_append, if_true, if_false, or_true, true_or, or_false, false_or, and_false, false_and, Bool.false_eq_true, c1]
        exact e5
  simp (disch := omega) only [cl199, w199_0, w199_1, w199_3, w199_4, ↓neg_vM, ↓neg_vB, ↓neg_vS, ↓neg_vF, ↓neg_vO, ↓neg_vA, ↓neg_vN, lit_nI, nI_leI, nI_ltI, nI_eq, jm_in_nI, nI_clamp, nI_add, n_mul, pk_sub, n_le_t, n_le_f, n_lt_t, n_lt_f, n_eq_t, n_eq_f, true_and, and_true, ne_eq, not_false_eq_true, not_true_eq_false, min_n, max_n, dif_n, n_rem, n_div, or_nI, shl_nI, Option.toList_some, Option.toList_none, List.singleton_append, List.nil_append, if_true, if_false, or_true, true_or, or_false, false_or, and_false, false_and, Bool.false_eq_true]
  exact key 0 (Nat.zero_le _) T hM (fun o _ _ _ => rfl)
theorem KV_wK (hV : KV k) {r w v : Nat} (hr : r < k 0) (h0 : w = 0 → 1 ≤ v ∧ v ≤ 5) (h1 : w = 1 → 1 ≤ v ∧ v ≤ 9) (h2 : 2 ≤ w → v ≤ 60) : KV (wK k r w v) := by
  unfold wK
  by_cases c0 : w = 0
  · rw [if_pos c0]
    exact KV_U hV (by omega) (fun _ _ _ => by have := hV.2.1; omega) (fun _ _ _ => by have := hV.2.1; omega) (fun _ _ _ => by omega) (fun _ _ _ => by omega) (fun _ _ _ => by omega) (fun _ _ _ => by omega)
  · rw [if_neg c0]
    by_cases c1 : w = 1
    · rw [if_pos c1]
      exact KV_U hV (by omega) (fun _ _ _ => by have := hV.2.1; omega) (fun _ _ _ => by have := hV.2.1; omega) (fun _ _ _ => by omega) (fun _ _ _ => by omega) (fun _ _ _ => by omega) (fun _ _ _ => by omega)
    · rw [if_neg c1]
      exact KV_U hV (by omega) (fun _ _ _ => by have := hV.2.1; omega) (fun _ _ _ => by have := hV.2.1; omega) (fun _ _ _ => by omega) (fun _ _ _ => by omega) (fun _ _ _ => by omega) (fun _ _ _ => by omega)
theorem wK_low {r w v i : Nat} (h : i < 14) : wK k r w v i = k i := by
  unfold wK
  split
  · exact kU_ne (by omega)
  · split
    · exact kU_ne (by omega)
    · exact kU_ne (by omega)
theorem c_fitK {r n : Nat} {it : Nat → Int32} (hX : RX 25 S k) (hV : KV k) (hk1 : 0 < k 1) (h3 : k 3 ≤ 999) (hr : r < k 0) (hn : n ≤ 12) (e1 : S 82 3 = nI n) (e2 : ∀ x, x < n → S 103 x = it x) (hZ : ∀ T, offC 83 S T → Z (some (.int (nI (bset (whQ k r 0 it n) 6)))) T) : CL L (d + 5) 42 [.ref 82, .ref 25, .int (nI r)] S Z := by
  have ht := top_sh L
  have hs := camp_sh isC83
  have hl := camp_ll L isC83
  have v0 := hV.1
  have v1 := hV.2.1
  have key : ∀ i, i ≤ 6 → 1 ≤ i → ∀ T, offC 83 S T → WQ L (d + 5) 42 5 [.ref 82, .ref 25, .int (nI r), .int (nI (bset (whQ k r 0 it n) i)), .int (nI i)] [] T Z := by
    apply down_ind
    · intro _ T tf
      rw [w42_5]
      simp (disch := omega) only [w42_7, w42_8, w42_11, w42_12, w42_15, w42_16, w42_19, w42_20, w42_23, w42_26, w42_27, w42_29, w42_30, w42_31, w42_32, w42_33, w42_36, w42_39, w42_40, w42_42, w42_43, w42_46, w42_47, w42_48, w42_49, w42_52, w42_55, w42_56, ht, ↓neg_vM, ↓neg_vB, ↓neg_vS, ↓neg_vF, ↓neg_vO, ↓neg_vA, ↓neg_vN, lit_nI, nI_leI, nI_ltI, nI_eq, jm_in_nI, nI_clamp, nI_add, n_mul, pk_sub, n_le_t, n_le_f, n_lt_t, n_lt_f, n_eq_t, n_eq_f, true_and, and_true, ne_eq, not_false_eq_true, not_true_eq_false, min_n, max_n, dif_n, n_rem, n_div, or_nI, shl_nI, Option.toList_some, Option.toList_none, List.singleton_append, List.nil_append, if_true, if_false, or_true, true_or, or_false, false_or, and_false, false_and, Bool.false_eq_true]
      exact hZ T tf
    · intro i hi ih h1i T tf
      have tX : RX 25 T k := RX_of hX (fun o h1 h2 => tf o (by omega))
      rw [w42_5]
      simp (disch := omega) only [w42_7, w42_8, w42_11, w42_12, w42_15, w42_16, w42_19, w42_20, w42_23, w42_26, w42_27, w42_29, w42_30, w42_31, w42_32, w42_33, w42_36, w42_39, w42_40, w42_42, w42_43, w42_46, w42_47, w42_48, w42_49, w42_52, w42_55, w42_56, ht, hs, ↓neg_vM, ↓neg_vB, ↓neg_vS, ↓neg_vF, ↓neg_vO, ↓neg_vA, ↓neg_vN, lit_nI, nI_leI, nI_ltI, nI_eq, jm_in_nI, nI_clamp, nI_add, n_mul, pk_sub, n_le_t, n_le_f, n_lt_t, n_lt_f, n_eq_t, n_eq_f, true_and, and_true, ne_eq, not_false_eq_true, not_true_eq_false, min_n, max_n, dif_n, n_rem, n_div, or_nI, shl_nI, Option.toList_some, Option.toList_none, List.singleton_append, List.nil_append, if_true, if_false, or_true, true_or, or_false, false_or, and_false, false_and, Bool.false_eq_true]
      refine c_become isC83 isC25 (by decide) tX hV (fun T1 tX1 tf1 => ?_)
      simp (disch := omega) only [w42_7, w42_8, w42_11, w42_12, w42_15, w42_16, w42_19, w42_20, w42_23, w42_26, w42_27, w42_29, w42_30, w42_31, w42_32, w42_33, w42_36, w42_39, w42_40, w42_42, w42_43, w42_46, w42_47, w42_48, w42_49, w42_52, w42_55, w42_56, ht, hs, hl, ↓neg_vM, ↓neg_vB, ↓neg_vS, ↓neg_vF, ↓neg_vO, ↓neg_vA, ↓neg_vN, lit_nI, nI_leI, nI_ltI, nI_eq, jm_in_nI, nI_clamp, nI_add, n_mul, pk_sub, n_le_t, n_le_f, n_lt_t, n_lt_f, n_eq_t, n_eq_f, true_and, and_true, ne_eq, not_false_eq_true, not_true_eq_false, min_n, max_n, dif_n, n_rem, n_div, or_nI, shl_nI, Option.toList_some, Option.toList_none, List.singleton_append, List.nil_append, if_true, if_false, or_true, true_or, or_false, false_or, and_false, false_and, Bool.false_eq_true]
      have tX2 : RX 83 (jm_upd T1 (83 + 3) r (nI i)) (wK k r 0 i) := RX_Kd tX1 v1
      have tf2 : offC 83 S (jm_upd T1 (83 + 3) r (nI i)) := fun o ho => by rw [upd_ne (by omega), tf1 o ho, tf o ho]
      refine c_isSo (it := it) tX2 (KV_wK hV hr (fun _ => by omega) (fun _ => by omega) (fun _ => by omega)) (by rw [wK_low (by decide)]; exact hk1) (by rw [wK_low (by decide)]; exact h3) (by rw [wK_low (by decide)]; exact hr) hn (by rw [tf2 82 (by omega)]; exact e1) (fun x hx => by rw [tf2 103 (by omega)]; exact e2 x hx) (fun T3 tf3 => ?_)
      have e := ih (by omega) T3 (fun o ho => by rw [tf3 o ho, tf2 o ho])
      by_cases c : soB (wK k r 0 i) r it n = true
      · rw [bset_T (p := whQ k r 0 it n) (by unfold whQ; rw [c]; simp; omega)] at e
        simp (disch := omega) only [w42_7, w42_8, w42_11, w42_12, w42_15, w42_16, w42_19, w42_20, w42_23, w42_26, w42_27, w42_29, w42_30, w42_31, w42_32, w42_33, w42_36, w42_39, w42_40, w42_42, w42_43, w42_46, w42_47, w42_48, w42_49, w42_52, w42_55, w42_56, ht, hs, ↓neg_vM, ↓neg_vB, ↓neg_vS, ↓neg_vF, ↓neg_vO, ↓neg_vA, ↓neg_vN, lit_nI, nI_leI, nI_ltI, nI_eq, jm_in_nI, nI_clamp, nI_add, n_mul, pk_sub, n_le_t, n_le_f, n_lt_t, n_lt_f, n_eq_t, n_eq_f, true_and, and_true, ne_eq, not_false_eq_true, not_true_eq_false, min_n, max_n, dif_n, n_rem, n_div, or_nI, shl_nI, Option.toList_some, Option.toList_none, List.singleton_append, List.nil_append, if_true, if_false, or_true, true_or, or_false, false_or, and_false, false_and, Bool.false_eq_true, c]
        exact e
      · have c' : soB (wK k r 0 i) r it n = false := by simpa using c
        rw [bset_F (p := whQ k r 0 it n) (by unfold whQ; rw [c']; simp)] at e
        simp (disch := omega) only [w42_7, w42_8, w42_11, w42_12, w42_15, w42_16, w42_19, w42_20, w42_23, w42_26, w42_27, w42_29, w42_30, w42_31, w42_32, w42_33, w42_36, w42_39, w42_40, w42_42, w42_43, w42_46, w42_47, w42_48, w42_49, w42_52, w42_55, w42_56, ht, hs, ↓neg_vM, ↓neg_vB, ↓neg_vS, ↓neg_vF, ↓neg_vO, ↓neg_vA, ↓neg_vN, lit_nI, nI_leI, nI_ltI, nI_eq, jm_in_nI, nI_clamp, nI_add, n_mul, pk_sub, n_le_t, n_le_f, n_lt_t, n_lt_f, n_eq_t, n_eq_f, true_and, and_true, ne_eq, not_false_eq_true, not_true_eq_false, min_n, max_n, dif_n, n_rem, n_div, or_nI, shl_nI, Option.toList_some, Option.toList_none, List.singleton_append, List.nil_append, if_true, if_false, or_true, true_or, or_false, false_or, and_false, false_and, Bool.false_eq_true, c']
        exact e
  simp (disch := omega) only [cl42, w42_0, w42_1, w42_2, w42_3, ↓neg_vM, ↓neg_vB, ↓neg_vS, ↓neg_vF, ↓neg_vO, ↓neg_vA, ↓neg_vN, lit_nI, nI_leI, nI_ltI, nI_eq, jm_in_nI, nI_clamp, nI_add, n_mul, pk_sub, n_le_t, n_le_f, n_lt_t, n_lt_f, n_eq_t, n_eq_f, true_and, and_true, ne_eq, not_false_eq_true, not_true_eq_false, min_n, max_n, dif_n, n_rem, n_div, or_nI, shl_nI, Option.toList_some, Option.toList_none, List.singleton_append, List.nil_append, if_true, if_false, or_true, true_or, or_false, false_or, and_false, false_and, Bool.false_eq_true]
  have e := key 1 (by decide) (by decide) S (fun o _ => rfl)
  rw [bset_none (fun i hi => by unfold whQ; rw [show i = 0 by omega]; rfl)] at e
  exact e
theorem c_fitL {r n : Nat} {it : Nat → Int32} (hX : RX 25 S k) (hV : KV k) (hk1 : 0 < k 1) (h3 : k 3 ≤ 999) (hr : r < k 0) (hn : n ≤ 12) (e1 : S 82 3 = nI n) (e2 : ∀ x, x < n → S 103 x = it x) (hZ : ∀ T, offC 83 S T → Z (some (.int (nI (bset (whQ k r 1 it n) 10)))) T) : CL L (d + 5) 43 [.ref 82, .ref 25, .int (nI r)] S Z := by
  have ht := top_sh L
  have hs := camp_sh isC83
  have hl := camp_ll L isC83
  have v0 := hV.1
  have v1 := hV.2.1
  have key : ∀ i, i ≤ 10 → 1 ≤ i → ∀ T, offC 83 S T → WQ L (d + 5) 43 5 [.ref 82, .ref 25, .int (nI r), .int (nI (bset (whQ k r 1 it n) i)), .int (nI i)] [] T Z := by
    apply down_ind
    · intro _ T tf
      rw [w43_5]
      simp (disch := omega) only [w43_7, w43_9, w43_12, w43_13, w43_16, w43_17, w43_20, w43_21, w43_24, w43_27, w43_28, w43_30, w43_31, w43_32, w43_33, w43_34, w43_37, w43_40, w43_41, w43_43, w43_44, w43_47, w43_48, w43_49, w43_50, w43_53, w43_56, w43_57, ht, ↓neg_vM, ↓neg_vB, ↓neg_vS, ↓neg_vF, ↓neg_vO, ↓neg_vA, ↓neg_vN, lit_nI, nI_leI, nI_ltI, nI_eq, jm_in_nI, nI_clamp, nI_add, n_mul, pk_sub, n_le_t, n_le_f, n_lt_t, n_lt_f, n_eq_t, n_eq_f, true_and, and_true, ne_eq, not_false_eq_true, not_true_eq_false, min_n, max_n, dif_n, n_rem, n_div, or_nI, shl_nI, Option.toList_some, Option.toList_none, List.singleton_append, List.nil_append, if_true, if_false, or_true, true_or, or_false, false_or, and_false, false_and, Bool.false_eq_true]
      exact hZ T tf
    · intro i hi ih h1i T tf
      have tX : RX 25 T k := RX_of hX (fun o h1 h2 => tf o (by omega))
      rw [w43_5]
      simp (disch := omega) only [w43_7, w43_9, w43_12, w43_13, w43_16, w43_17, w43_20, w43_21, w43_24, w43_27, w43_28, w43_30, w43_31, w43_32, w43_33, w43_34, w43_37, w43_40, w43_41, w43_43, w43_44, w43_47, w43_48, w43_49, w43_50, w43_53, w43_56, w43_57, ht, hs, ↓neg_vM, ↓neg_vB, ↓neg_vS, ↓neg_vF, ↓neg_vO, ↓neg_vA, ↓neg_vN, lit_nI, nI_leI, nI_ltI, nI_eq, jm_in_nI, nI_clamp, nI_add, n_mul, pk_sub, n_le_t, n_le_f, n_lt_t, n_lt_f, n_eq_t, n_eq_f, true_and, and_true, ne_eq, not_false_eq_true, not_true_eq_false, min_n, max_n, dif_n, n_rem, n_div, or_nI, shl_nI, Option.toList_some, Option.toList_none, List.singleton_append, List.nil_append, if_true, if_false, or_true, true_or, or_false, false_or, and_false, false_and, Bool.false_eq_true]
      refine c_become isC83 isC25 (by decide) tX hV (fun T1 tX1 tf1 => ?_)
      simp (disch := omega) only [w43_7, w43_9, w43_12, w43_13, w43_16, w43_17, w43_20, w43_21, w43_24, w43_27, w43_28, w43_30, w43_31, w43_32, w43_33, w43_34, w43_37, w43_40, w43_41, w43_43, w43_44, w43_47, w43_48, w43_49, w43_50, w43_53, w43_56, w43_57, ht, hs, hl, ↓neg_vM, ↓neg_vB, ↓neg_vS, ↓neg_vF, ↓neg_vO, ↓neg_vA, ↓neg_vN, lit_nI, nI_leI, nI_ltI, nI_eq, jm_in_nI, nI_clamp, nI_add, n_mul, pk_sub, n_le_t, n_le_f, n_lt_t, n_lt_f, n_eq_t, n_eq_f, true_and, and_true, ne_eq, not_false_eq_true, not_true_eq_false, min_n, max_n, dif_n, n_rem, n_div, or_nI, shl_nI, Option.toList_some, Option.toList_none, List.singleton_append, List.nil_append, if_true, if_false, or_true, true_or, or_false, false_or, and_false, false_and, Bool.false_eq_true]
      have tX2 : RX 83 (jm_upd T1 (83 + 5) r (nI i)) (wK k r 1 i) := RX_Ls tX1 v1
      have tf2 : offC 83 S (jm_upd T1 (83 + 5) r (nI i)) := fun o ho => by rw [upd_ne (by omega), tf1 o ho, tf o ho]
      refine c_isSo (it := it) tX2 (KV_wK hV hr (fun _ => by omega) (fun _ => by omega) (fun _ => by omega)) (by rw [wK_low (by decide)]; exact hk1) (by rw [wK_low (by decide)]; exact h3) (by rw [wK_low (by decide)]; exact hr) hn (by rw [tf2 82 (by omega)]; exact e1) (fun x hx => by rw [tf2 103 (by omega)]; exact e2 x hx) (fun T3 tf3 => ?_)
      have e := ih (by omega) T3 (fun o ho => by rw [tf3 o ho, tf2 o ho])
      by_cases c : soB (wK k r 1 i) r it n = true
      · rw [bset_T (p := whQ k r 1 it n) (by unfold whQ; rw [c]; simp; omega)] at e
        simp (disch := omega) only [w43_7, w43_9, w43_12, w43_13, w43_16, w43_17, w43_20, w43_21, w43_24, w43_27, w43_28, w43_30, w43_31, w43_32, w43_33, w43_34, w43_37, w43_40, w43_41, w43_43, w43_44, w43_47, w43_48, w43_49, w43_50, w43_53, w43_56, w43_57, ht, hs, ↓neg_vM, ↓neg_vB, ↓neg_vS, ↓neg_vF, ↓neg_vO, ↓neg_vA, ↓neg_vN, lit_nI, nI_leI, nI_ltI, nI_eq, jm_in_nI, nI_clamp, nI_add, n_mul, pk_sub, n_le_t, n_le_f, n_lt_t, n_lt_f, n_eq_t, n_eq_f, true_and, and_true, ne_eq, not_false_eq_true, not_true_eq_false, min_n, max_n, dif_n, n_rem, n_div, or_nI, shl_nI, Option.toList_some, Option.toList_none, List.singleton_append, List.nil_append, if_true, if_false, or_true, true_or, or_false, false_or, and_false, false_and, Bool.false_eq_true, c]
        exact e
      · have c' : soB (wK k r 1 i) r it n = false := by simpa using c
        rw [bset_F (p := whQ k r 1 it n) (by unfold whQ; rw [c']; simp)] at e
        simp (disch := omega) only [w43_7, w43_9, w43_12, w43_13, w43_16, w43_17, w43_20, w43_21, w43_24, w43_27, w43_28, w43_30, w43_31, w43_32, w43_33, w43_34, w43_37, w43_40, w43_41, w43_43, w43_44, w43_47, w43_48, w43_49, w43_50, w43_53, w43_56, w43_57, ht, hs, ↓neg_vM, ↓neg_vB, ↓neg_vS, ↓neg_vF, ↓neg_vO, ↓neg_vA, ↓neg_vN, lit_nI, nI_leI, nI_ltI, nI_eq, jm_in_nI, nI_clamp, nI_add, n_mul, pk_sub, n_le_t, n_le_f, n_lt_t, n_lt_f, n_eq_t, n_eq_f, true_and, and_true, ne_eq, not_false_eq_true, not_true_eq_false, min_n, max_n, dif_n, n_rem, n_div, or_nI, shl_nI, Option.toList_some, Option.toList_none, List.singleton_append, List.nil_append, if_true, if_false, or_true, true_or, or_false, false_or, and_false, false_and, Bool.false_eq_true, c']
        exact e
  simp (disch := omega) only [cl43, w43_0, w43_1, w43_2, w43_3, ↓neg_vM, ↓neg_vB, ↓neg_vS, ↓neg_vF, ↓neg_vO, ↓neg_vA, ↓neg_vN, lit_nI, nI_leI, nI_ltI, nI_eq, jm_in_nI, nI_clamp, nI_add, n_mul, pk_sub, n_le_t, n_le_f, n_lt_t, n_lt_f, n_eq_t, n_eq_f, true_and, and_true, ne_eq, not_false_eq_true, not_true_eq_false, min_n, max_n, dif_n, n_rem, n_div, or_nI, shl_nI, Option.toList_some, Option.toList_none, List.singleton_append, List.nil_append, if_true, if_false, or_true, true_or, or_false, false_or, and_false, false_and, Bool.false_eq_true]
  have e := key 1 (by decide) (by decide) S (fun o _ => rfl)
  rw [bset_none (fun i hi => by unfold whQ; rw [show i = 0 by omega]; rfl)] at e
  exact e
theorem whQ_b {r w n v : Nat} {it : Nat → Int32} (hw : 2 ≤ w) : whQ k r w it n v = soB (wK k r w v) r it n := by
  unfold whQ
  rw [if_neg (by omega)]
  simp
theorem c_fitB {r n w b : Nat} {it : Nat → Int32} (hX : RX 25 S k) (hV : KV k) (hk1 : 0 < k 1) (h3 : k 3 ≤ 999) (hr : r < k 0) (hn : n ≤ 12) (hw : 2 ≤ w) (hb : b ≤ 1) (e1 : S 82 3 = nI n) (e2 : ∀ x, x < n → S 103 x = it x) (hZ : ∀ T, offC 83 S T → Z (some (.int (if b = 1 then nI (cnt (whQ k r w it n) (k 2 + 1)) else oN (lstF (whQ k r w it n) (k 2 + 1))))) T) : CL L (d + 5) 44 [.ref 82, .ref 25, .int (nI r), .int (nI b)] S Z := by
  have ht := top_sh L
  have hs := camp_sh isC83
  have hs2 := camp_sh isC25
  have hl := camp_ll L isC83
  have v0 := hV.1
  have v1 := hV.2.1
  have v2 := hV.2.2.1
  have key : ∀ i, i ≤ k 2 + 1 → ∀ T, offC 83 S T → WQ L (d + 5) 44 10 [.ref 82, .ref 25, .int (nI r), .int (nI b), .int (nI (cnt (whQ k r w it n) i)), .int (oN (lstF (whQ k r w it n) i)), .int (nI i)] [] T Z := by
    apply down_ind
    · intro T tf
      have x0 : T 25 0 = nI (k 2) := by rw [tf 25 (by omega)]; exact hX.1
      have e := hZ T tf
      rw [w44_10]
      by_cases c : b = 1
      · rw [if_pos c] at e
        simp (disch := omega) only [w44_12, w44_13, w44_16, w44_19, w44_20, w44_23, w44_24, w44_27, w44_28, w44_31, w44_34, w44_35, w44_37, w44_38, w44_39, w44_40, w44_43, w44_46, w44_49, w44_51, w44_53, w44_56, w44_58, w44_61, w44_63, w44_65, w44_68, w44_71, w44_72, w44_75, w44_77, w44_80, w44_82, ht, hs2, ↓neg_vM, ↓neg_vB, ↓neg_vS, ↓neg_vF, ↓neg_vO, ↓neg_vA, ↓neg_vN, lit_nI, nI_leI, nI_ltI, nI_eq, jm_in_nI, nI_clamp, nI_add, n_mul, pk_sub, n_le_t, n_le_f, n_lt_t, n_lt_f, n_eq_t, n_eq_f, true_and, and_true, ne_eq, not_false_eq_true, not_true_eq_false, min_n, max_n, dif_n, n_rem, n_div, or_nI, shl_nI, Option.toList_some, Option.toList_none, List.singleton_append, List.nil_append, if_true, if_false, or_true, true_or, or_false, false_or, and_false, false_and, Bool.false_eq_true, x0, c]
        exact e
      · rw [if_neg c] at e
        simp (disch := omega) only [w44_12, w44_13, w44_16, w44_19, w44_20, w44_23, w44_24, w44_27, w44_28, w44_31, w44_34, w44_35, w44_37, w44_38, w44_39, w44_40, w44_43, w44_46, w44_49, w44_51, w44_53, w44_56, w44_58, w44_61, w44_63, w44_65, w44_68, w44_71, w44_72, w44_75, w44_77, w44_80, w44_82, ht, hs2, ↓neg_vM, ↓neg_vB, ↓neg_vS, ↓neg_vF, ↓neg_vO, ↓neg_vA, ↓neg_vN, lit_nI, nI_leI, nI_ltI, nI_eq, jm_in_nI, nI_clamp, nI_add, n_mul, pk_sub, n_le_t, n_le_f, n_lt_t, n_lt_f, n_eq_t, n_eq_f, true_and, and_true, ne_eq, not_false_eq_true, not_true_eq_false, min_n, max_n, dif_n, n_rem, n_div, or_nI, shl_nI, Option.toList_some, Option.toList_none, List.singleton_append, List.nil_append, if_true, if_false, or_true, true_or, or_false, false_or, and_false, false_and, Bool.false_eq_true, x0, show b = 0 by omega]
        exact e
    · intro i hi ih T tf
      have tX : RX 25 T k := RX_of hX (fun o h1 h2 => tf o (by omega))
      have x0 : T 25 0 = nI (k 2) := by rw [tf 25 (by omega)]; exact hX.1
      rw [w44_10]
      simp (disch := omega) only [w44_12, w44_13, w44_16, w44_19, w44_20, w44_23, w44_24, w44_27, w44_28, w44_31, w44_34, w44_35, w44_37, w44_38, w44_39, w44_40, w44_43, w44_46, w44_49, w44_51, w44_53, w44_56, w44_58, w44_61, w44_63, w44_65, w44_68, w44_71, w44_72, w44_75, w44_77, w44_80, w44_82, ht, hs, hs2, ↓neg_vM, ↓neg_vB, ↓neg_vS, ↓neg_vF, ↓neg_vO, ↓neg_vA, ↓neg_vN, lit_nI, nI_leI, nI_ltI, nI_eq, jm_in_nI, nI_clamp, nI_add, n_mul, pk_sub, n_le_t, n_le_f, n_lt_t, n_lt_f, n_eq_t, n_eq_f, true_and, and_true, ne_eq, not_false_eq_true, not_true_eq_false, min_n, max_n, dif_n, n_rem, n_div, or_nI, shl_nI, Option.toList_some, Option.toList_none, List.singleton_append, List.nil_append, if_true, if_false, or_true, true_or, or_false, false_or, and_false, false_and, Bool.false_eq_true, x0]
      refine c_become isC83 isC25 (by decide) tX hV (fun T1 tX1 tf1 => ?_)
      simp (disch := omega) only [w44_12, w44_13, w44_16, w44_19, w44_20, w44_23, w44_24, w44_27, w44_28, w44_31, w44_34, w44_35, w44_37, w44_38, w44_39, w44_40, w44_43, w44_46, w44_49, w44_51, w44_53, w44_56, w44_58, w44_61, w44_63, w44_65, w44_68, w44_71, w44_72, w44_75, w44_77, w44_80, w44_82, ht, hs, hl, ↓neg_vM, ↓neg_vB, ↓neg_vS, ↓neg_vF, ↓neg_vO, ↓neg_vA, ↓neg_vN, lit_nI, nI_leI, nI_ltI, nI_eq, jm_in_nI, nI_clamp, nI_add, n_mul, pk_sub, n_le_t, n_le_f, n_lt_t, n_lt_f, n_eq_t, n_eq_f, true_and, and_true, ne_eq, not_false_eq_true, not_true_eq_false, min_n, max_n, dif_n, n_rem, n_div, or_nI, shl_nI, Option.toList_some, Option.toList_none, List.singleton_append, List.nil_append, if_true, if_false, or_true, true_or, or_false, false_or, and_false, false_and, Bool.false_eq_true]
      have eW : wK k r w i = kU k (14 + 4 * r + 1) i := by unfold wK; rw [if_neg (by omega), if_neg (by omega)]
      have tX2 : RX 83 (jm_upd T1 (83 + 4) r (nI i)) (wK k r w i) := by rw [eW]; exact RX_Bt tX1 v1
      have tf2 : offC 83 S (jm_upd T1 (83 + 4) r (nI i)) := fun o ho => by rw [upd_ne (by omega), tf1 o ho, tf o ho]
      refine c_isSo (it := it) tX2 (KV_wK hV hr (fun _ => by omega) (fun _ => by omega) (fun _ => by omega)) (by rw [wK_low (by decide)]; exact hk1) (by rw [wK_low (by decide)]; exact h3) (by rw [wK_low (by decide)]; exact hr) hn (by rw [tf2 82 (by omega)]; exact e1) (fun x hx => by rw [tf2 103 (by omega)]; exact e2 x hx) (fun T3 tf3 => ?_)
      have e := ih T3 (fun o ho => by rw [tf3 o ho, tf2 o ho])
      have eQ := whQ_b (k := k) (r := r) (n := n) (v := i) (it := it) hw
      by_cases c : soB (wK k r w i) r it n = true
      · rw [c] at eQ
        rw [cnt, eQ] at e
        cases hl2 : lstF (whQ k r w it n) i with
        | none =>
          rw [lstF_T eQ hl2] at e
          simp (disch := omega) only [w44_12, w44_13, w44_16, w44_19, w44_20, w44_23, w44_24, w44_27, w44_28, w44_31, w44_34, w44_35, w44_37, w44_38, w44_39, w44_40, w44_43, w44_46, w44_49, w44_51, w44_53, w44_56, w44_58, w44_61, w44_63, w44_65, w44_68, w44_71, w44_72, w44_75, w44_77, w44_80, w44_82, ht, hs, ↓neg_vM, ↓neg_vB, ↓neg_vS, ↓neg_vF, ↓neg_vO, ↓neg_vA, ↓neg_vN, lit_nI, nI_leI, nI_ltI, nI_eq, jm_in_nI, nI_clamp, nI_add, n_mul, pk_sub, n_le_t, n_le_f, n_lt_t, n_lt_f, n_eq_t, n_eq_f, true_and, and_true, ne_eq, not_false_eq_true, not_true_eq_false, min_n, max_n, dif_n, n_rem, n_div, or_nI, shl_nI, Option.toList_some, Option.toList_none, List.singleton_append, List.nil_append, if_true, if_false, or_true, true_or, or_false, false_or, and_false, false_and, Bool.false_eq_true, c, oN]
          exact e
        | some s =>
          have := lstF_lt hl2
          rw [lstF_s hl2] at e
          simp (disch := omega) only [w44_12, w44_13, w44_16, w44_19, w44_20, w44_23, w44_24, w44_27, w44_28, w44_31, w44_34, w44_35, w44_37, w44_38, w44_39, w44_40, w44_43, w44_46, w44_49, w44_51, w44_53, w44_56, w44_58, w44_61, w44_63, w44_65, w44_68, w44_71, w44_72, w44_75, w44_77, w44_80, w44_82, ht, hs, ↓neg_vM, ↓neg_vB, ↓neg_vS, ↓neg_vF, ↓neg_vO, ↓neg_vA, ↓neg_vN, lit_nI, nI_leI, nI_ltI, nI_eq, jm_in_nI, nI_clamp, nI_add, n_mul, pk_sub, n_le_t, n_le_f, n_lt_t, n_lt_f, n_eq_t, n_eq_f, true_and, and_true, ne_eq, not_false_eq_true, not_true_eq_false, min_n, max_n, dif_n, n_rem, n_div, or_nI, shl_nI, Option.toList_some, Option.toList_none, List.singleton_append, List.nil_append, if_true, if_false, or_true, true_or, or_false, false_or, and_false, false_and, Bool.false_eq_true, c, oN, eq_vN]
          exact e
      · have c' : soB (wK k r w i) r it n = false := by simpa using c
        rw [c'] at eQ
        rw [cnt, eQ, lstF_F eQ] at e
        simp (disch := omega) only [w44_12, w44_13, w44_16, w44_19, w44_20, w44_23, w44_24, w44_27, w44_28, w44_31, w44_34, w44_35, w44_37, w44_38, w44_39, w44_40, w44_43, w44_46, w44_49, w44_51, w44_53, w44_56, w44_58, w44_61, w44_63, w44_65, w44_68, w44_71, w44_72, w44_75, w44_77, w44_80, w44_82, ht, hs, ↓neg_vM, ↓neg_vB, ↓neg_vS, ↓neg_vF, ↓neg_vO, ↓neg_vA, ↓neg_vN, lit_nI, nI_leI, nI_ltI, nI_eq, jm_in_nI, nI_clamp, nI_add, n_mul, pk_sub, n_le_t, n_le_f, n_lt_t, n_lt_f, n_eq_t, n_eq_f, true_and, and_true, ne_eq, not_false_eq_true, not_true_eq_false, min_n, max_n, dif_n, n_rem, n_div, or_nI, shl_nI, Option.toList_some, Option.toList_none, List.singleton_append, List.nil_append, if_true, if_false, or_true, true_or, or_false, false_or, and_false, false_and, Bool.false_eq_true, c']
        exact e
  simp (disch := omega) only [cl44, w44_0, w44_1, w44_3, w44_5, w44_7, w44_8, ↓neg_vM, ↓neg_vB, ↓neg_vS, ↓neg_vF, ↓neg_vO, ↓neg_vA, ↓neg_vN, lit_nI, nI_leI, nI_ltI, nI_eq, jm_in_nI, nI_clamp, nI_add, n_mul, pk_sub, n_le_t, n_le_f, n_lt_t, n_lt_f, n_eq_t, n_eq_f, true_and, and_true, ne_eq, not_false_eq_true, not_true_eq_false, min_n, max_n, dif_n, n_rem, n_div, or_nI, shl_nI, Option.toList_some, Option.toList_none, List.singleton_append, List.nil_append, if_true, if_false, or_true, true_or, or_false, false_or, and_false, false_and, Bool.false_eq_true]
  exact key 0 (Nat.zero_le _) S (fun o _ => rfl)
theorem c_fitS {h r n : Nat} {it : Nat → Int32} (hX : RX 25 S k) (hV : KV k) (hh : h < k 1) (h3 : k 3 ≤ 999) (hr : r < k 0) (hn : n ≤ 12) (e1 : S 82 3 = nI n) (e2 : ∀ x, x < n → S 103 x = it x) (hZ : ∀ T, offC 83 S T → Z (some (.int (nI (bset (feQ k h r it n) 21)))) T) : CL L (d + 5) 45 [.ref 82, .ref 25, .int (nI h), .int (nI r)] S Z := by
  have ht := top_sh L
  have hs := camp_sh isC83
  have hl := camp_ll L isC83
  have v0 := hV.1
  have v1 := hV.2.1
  have key : ∀ i, i ≤ 21 → ∀ T, offC 83 S T → WQ L (d + 5) 45 6 [.ref 82, .ref 25, .int (nI h), .int (nI r), .int (nI (bset (feQ k h r it n) i)), .int (nI i)] [] T Z := by
    apply down_ind
    · intro T tf
      rw [w45_6]
      simp (disch := omega) only [w45_8, w45_10, w45_13, w45_14, w45_17, w45_18, w45_21, w45_22, w45_25, w45_28, w45_29, w45_31, w45_32, w45_34, w45_35, w45_36, w45_39, w45_42, w45_43, w45_45, w45_46, w45_49, w45_50, w45_51, w45_53, w45_56, w45_59, w45_61, ht, ↓neg_vM, ↓neg_vB, ↓neg_vS, ↓neg_vF, ↓neg_vO, ↓neg_vA, ↓neg_vN, lit_nI, nI_leI, nI_ltI, nI_eq, jm_in_nI, nI_clamp, nI_add, n_mul, pk_sub, n_le_t, n_le_f, n_lt_t, n_lt_f, n_eq_t, n_eq_f, true_and, and_true, ne_eq, not_false_eq_true, not_true_eq_false, min_n, max_n, dif_n, n_rem, n_div, or_nI, shl_nI, Option.toList_some, Option.toList_none, List.singleton_append, List.nil_append, if_true, if_false, or_true, true_or, or_false, false_or, and_false, false_and, Bool.false_eq_true]
      exact hZ T tf
    · intro i hi ih T tf
      have tX : RX 25 T k := RX_of hX (fun o h1 h2 => tf o (by omega))
      rw [w45_6]
      simp (disch := omega) only [w45_8, w45_10, w45_13, w45_14, w45_17, w45_18, w45_21, w45_22, w45_25, w45_28, w45_29, w45_31, w45_32, w45_34, w45_35, w45_36, w45_39, w45_42, w45_43, w45_45, w45_46, w45_49, w45_50, w45_51, w45_53, w45_56, w45_59, w45_61, ht, hs, ↓neg_vM, ↓neg_vB, ↓neg_vS, ↓neg_vF, ↓neg_vO, ↓neg_vA, ↓neg_vN, lit_nI, nI_leI, nI_ltI, nI_eq, jm_in_nI, nI_clamp, nI_add, n_mul, pk_sub, n_le_t, n_le_f, n_lt_t, n_lt_f, n_eq_t, n_eq_f, true_and, and_true, ne_eq, not_false_eq_true, not_true_eq_false, min_n, max_n, dif_n, n_rem, n_div, or_nI, shl_nI, Option.toList_some, Option.toList_none, List.singleton_append, List.nil_append, if_true, if_false, or_true, true_or, or_false, false_or, and_false, false_and, Bool.false_eq_true]
      refine c_become isC83 isC25 (by decide) tX hV (fun T1 tX1 tf1 => ?_)
      simp (disch := omega) only [w45_8, w45_10, w45_13, w45_14, w45_17, w45_18, w45_21, w45_22, w45_25, w45_28, w45_29, w45_31, w45_32, w45_34, w45_35, w45_36, w45_39, w45_42, w45_43, w45_45, w45_46, w45_49, w45_50, w45_51, w45_53, w45_56, w45_59, w45_61, ht, hs, hl, ↓neg_vM, ↓neg_vB, ↓neg_vS, ↓neg_vF, ↓neg_vO, ↓neg_vA, ↓neg_vN, lit_nI, nI_leI, nI_ltI, nI_eq, jm_in_nI, nI_clamp, nI_add, n_mul, pk_sub, n_le_t, n_le_f, n_lt_t, n_lt_f, n_eq_t, n_eq_f, true_and, and_true, ne_eq, not_false_eq_true, not_true_eq_false, min_n, max_n, dif_n, n_rem, n_div, or_nI, shl_nI, Option.toList_some, Option.toList_none, List.singleton_append, List.nil_append, if_true, if_false, or_true, true_or, or_false, false_or, and_false, false_and, Bool.false_eq_true]
      have tX2 : RX 83 (jm_upd T1 (83 + 1) h (nI i)) (kU k (4 + 2 * h + 0) i) := RX_St tX1 (by omega) v1
      have tf2 : offC 83 S (jm_upd T1 (83 + 1) h (nI i)) := fun o ho => by rw [upd_ne (by omega), tf1 o ho, tf o ho]
      have hVu : KV (kU k (4 + 2 * h + 0) i) := KV_U hV (by omega) (fun _ _ _ => by omega) (fun _ _ _ => by omega) (fun _ _ _ => by omega) (fun _ _ _ => by omega) (fun _ _ _ => by omega) (fun _ _ _ => by omega)
      refine c_isSo (it := it) tX2 hVu (by rw [kU_ne (by omega)]; omega) (by rw [kU_ne (by omega)]; exact h3) (by rw [kU_ne (by omega)]; exact hr) hn (by rw [tf2 82 (by omega)]; exact e1) (fun x hx => by rw [tf2 103 (by omega)]; exact e2 x hx) (fun T3 tf3 => ?_)
      have e := ih T3 (fun o ho => by rw [tf3 o ho, tf2 o ho])
      by_cases c : soB (kU k (4 + 2 * h + 0) i) r it n = true
      · rw [bset_T (p := feQ k h r it n) c] at e
        simp (disch := omega) only [w45_8, w45_10, w45_13, w45_14, w45_17, w45_18, w45_21, w45_22, w45_25, w45_28, w45_29, w45_31, w45_32, w45_34, w45_35, w45_36, w45_39, w45_42, w45_43, w45_45, w45_46, w45_49, w45_50, w45_51, w45_53, w45_56, w45_59, w45_61, ht, hs, ↓neg_vM, ↓neg_vB, ↓neg_vS, ↓neg_vF, ↓neg_vO, ↓neg_vA, ↓neg_vN, lit_nI, nI_leI, nI_ltI, nI_eq, jm_in_nI, nI_clamp, nI_add, n_mul, pk_sub, n_le_t, n_le_f, n_lt_t, n_lt_f, n_eq_t, n_eq_f, true_and, and_true, ne_eq, not_false_eq_true, not_true_eq_false, min_n, max_n, dif_n, n_rem, n_div, or_nI, shl_nI, Option.toList_some, Option.toList_none, List.singleton_append, List.nil_append, if_true, if_false, or_true, true_or, or_false, false_or, and_false, false_and, Bool.false_eq_true, c]
        exact e
      · have c' : soB (kU k (4 + 2 * h + 0) i) r it n = false := by simpa using c
        rw [bset_F (p := feQ k h r it n) c'] at e
        simp (disch := omega) only [w45_8, w45_10, w45_13, w45_14, w45_17, w45_18, w45_21, w45_22, w45_25, w45_28, w45_29, w45_31, w45_32, w45_34, w45_35, w45_36, w45_39, w45_42, w45_43, w45_45, w45_46, w45_49, w45_50, w45_51, w45_53, w45_56, w45_59, w45_61, ht, hs, ↓neg_vM, ↓neg_vB, ↓neg_vS, ↓neg_vF, ↓neg_vO, ↓neg_vA, ↓neg_vN, lit_nI, nI_leI, nI_ltI, nI_eq, jm_in_nI, nI_clamp, nI_add, n_mul, pk_sub, n_le_t, n_le_f, n_lt_t, n_lt_f, n_eq_t, n_eq_f, true_and, and_true, ne_eq, not_false_eq_true, not_true_eq_false, min_n, max_n, dif_n, n_rem, n_div, or_nI, shl_nI, Option.toList_some, Option.toList_none, List.singleton_append, List.nil_append, if_true, if_false, or_true, true_or, or_false, false_or, and_false, false_and, Bool.false_eq_true, c']
        exact e
  simp (disch := omega) only [cl45, w45_0, w45_1, w45_3, w45_4, ↓neg_vM, ↓neg_vB, ↓neg_vS, ↓neg_vF, ↓neg_vO, ↓neg_vA, ↓neg_vN, lit_nI, nI_leI, nI_ltI, nI_eq, jm_in_nI, nI_clamp, nI_add, n_mul, pk_sub, n_le_t, n_le_f, n_lt_t, n_lt_f, n_eq_t, n_eq_f, true_and, and_true, ne_eq, not_false_eq_true, not_true_eq_false, min_n, max_n, dif_n, n_rem, n_div, or_nI, shl_nI, Option.toList_some, Option.toList_none, List.singleton_append, List.nil_append, if_true, if_false, or_true, true_or, or_false, false_or, and_false, false_and, Bool.false_eq_true]
  exact key 0 (Nat.zero_le _) S (fun o _ => rfl)
end
