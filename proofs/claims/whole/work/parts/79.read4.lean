def frF (T U : jm_I2) : Prop := (∀ o, o ≠ 128 → o ≠ 133 → U o = T o) ∧ ∀ i, i ≤ 11 ∨ 18 ≤ i → U 128 i = T 128 i
theorem frF_rf (T : jm_I2) : frF T T := ⟨fun _ _ _ => rfl, fun _ _ => rfl⟩
theorem frF_tr {T U V : jm_I2} (h1 : frF T U) (h2 : frF U V) : frF T V := ⟨fun o ho h => by rw [h2.1 o ho h, h1.1 o ho h], fun i hi => by rw [h2.2 i hi, h1.2 i hi]⟩
theorem frF_R {T U : jm_I2} (h : frR T U) : frF T U := ⟨fun o ho _ => h.1 o ho, h.2⟩
theorem frF_u {T U : jm_I2} {i : Nat} {v : Int32} (h : frF T U) : frF T (jm_upd U 133 i v) := ⟨fun o ho h2 => by rw [upd_ne h2, h.1 o ho h2], fun j hj => by rw [upd_ne (by decide), h.2 j hj]⟩
theorem hP3_f {b : Nat → Nat} {n p f : Nat} (h : f ≠ 0) : hP3 b n p f = (p, f) := by
  have e1 : hP1 b n p f = (p, f) := if_pos h
  have e2 : hP2 b n p f = (p, f) := by unfold hP2; rw [e1]; exact if_pos h
  unfold hP3
  rw [e2]
  exact if_pos h
theorem gP6_f {b : Nat → Nat} {n lo p f : Nat} (h : f ≠ 0) : gP6 b n lo p f = (p, f) := by
  have e1 : gP1 b n lo p f = (p, f) := if_pos h
  have e2 : gP2 b n lo p f = (p, f) := by unfold gP2; rw [e1]; exact if_pos h
  have e3 : gP3 b n lo p f = (p, f) := by unfold gP3; rw [e2]; exact if_pos h
  have e4 : gP4 b n lo p f = (p, f) := by unfold gP4; rw [e3]; exact if_pos h
  have e5 : gP5 b n lo p f = (p, f) := by unfold gP5; rw [e4]; exact if_pos h
  unfold gP6
  rw [e5]
  exact if_pos h
theorem rul_f {b : Nat → Nat} {n : Nat} {s : Nat × Nat × kT} (h : s.2.1 ≠ 0) : ∀ g, rul b n g s = s
  | 0 => rfl
  | g + 1 => if_neg (fun q => h q.1)
/-- the reference's state of reading -/
def RS (b : Nat → Nat) (n : Nat) (s : Nat × Nat × kT) (T : jm_I2) : Prop := RP b n s.1 s.2.1 T ∧ (s.2.1 = 0 → RM 133 T s.2.2)
/-- what failed() leaves -/
def FN (p f : Nat) (T U : jm_I2) : Prop := U 128 11 = nI 0 ∧ (f ≠ 0 → U 128 18 = nI f ∧ U 128 17 = nI p) ∧ (f = 0 → U 128 18 = T 128 18) ∧ (∀ o, o ≠ 128 → U o = T o) ∧ ∀ i, i ≤ 10 ∨ 19 ≤ i → U 128 i = T 128 i
section
variable {xs : Nat → Int32} {L d : Nat} {S T : jm_I2} {k : kT} {Z : Option Value → jm_I2 → Prop} {b : Nat → Nat} {n p f : Nat}
theorem r_kindBy {c : Nat} (hc : c ≤ 255) : CL L d 146 [.int (nI c)] T Z ↔ Z (some (.int (if srt c = 0 then vN else nI (srt c)))) T := by
  unfold srt
  by_cases c1 : c = 115
  · simp (disch := omega) only [cl146, w146_0, w146_1, w146_3, w146_6, w146_7, w146_10, w146_11, w146_13, w146_16, w146_17, w146_20, w146_21, w146_23, w146_26, w146_27, w146_30, w146_31, w146_33, w146_36, w146_37, w146_40, w146_41, w146_43, w146_46, w146_47, w146_50, w146_52, ↓neg_vM, ↓neg_vB, ↓neg_vS, ↓neg_vF, ↓neg_vO, ↓neg_vA, ↓neg_vN, lit_nI, nI_leI, nI_ltI, nI_eq, jm_in_nI, nI_clamp, nI_add, n_mul, pk_sub, n_le_t, n_le_f, n_lt_t, n_lt_f, n_eq_t, n_eq_f, true_and, and_true, ne_eq, not_false_eq_true, not_true_eq_false, min_n, max_n, dif_n, n_rem, n_div, or_nI, shl_nI, Option.toList_some, Option.toList_none, List.singleton_append, List.nil_append, if_true, if_false, or_true, true_or, or_false, false_or, and_false, false_and, Bool.false_eq_true, c1]
  · by_cases c2 : c = 103
    · simp (disch := omega) only [cl146, w146_0, w146_1, w146_3, w146_6, w146_7, w146_10, w146_11, w146_13, w146_16, w146_17, w146_20, w146_21, w146_23, w146_26, w146_27, w146_30, w146_31, w146_33, w146_36, w146_37, w146_40, w146_41, w146_43, w146_46, w146_47, w146_50, w146_52, ↓neg_vM, ↓neg_vB, ↓neg_vS, ↓neg_vF, ↓neg_vO, ↓neg_vA, ↓neg_vN, lit_nI, nI_leI, nI_ltI, nI_eq, jm_in_nI, nI_clamp, nI_add, n_mul, pk_sub, n_le_t, n_le_f, n_lt_t, n_lt_f, n_eq_t, n_eq_f, true_and, and_true, ne_eq, not_false_eq_true, not_true_eq_false, min_n, max_n, dif_n, n_rem, n_div, or_nI, shl_nI, Option.toList_some, Option.toList_none, List.singleton_append, List.nil_append, if_true, if_false, or_true, true_or, or_false, false_or, and_false, false_and, Bool.false_eq_true, c1, c2]
    · by_cases c3 : c = 119
      · simp (disch := omega) only [cl146, w146_0, w146_1, w146_3, w146_6, w146_7, w146_10, w146_11, w146_13, w146_16, w146_17, w146_20, w146_21, w146_23, w146_26, w146_27, w146_30, w146_31, w146_33, w146_36, w146_37, w146_40, w146_41, w146_43, w146_46, w146_47, w146_50, w146_52, ↓neg_vM, ↓neg_vB, ↓neg_vS, ↓neg_vF, ↓neg_vO, ↓neg_vA, ↓neg_vN, lit_nI, nI_leI, nI_ltI, nI_eq, jm_in_nI, nI_clamp, nI_add, n_mul, pk_sub, n_le_t, n_le_f, n_lt_t, n_lt_f, n_eq_t, n_eq_f, true_and, and_true, ne_eq, not_false_eq_true, not_true_eq_false, min_n, max_n, dif_n, n_rem, n_div, or_nI, shl_nI, Option.toList_some, Option.toList_none, List.singleton_append, List.nil_append, if_true, if_false, or_true, true_or, or_false, false_or, and_false, false_and, Bool.false_eq_true, c1, c2, c3]
      · by_cases c4 : c = 108
        · simp (disch := omega) only [cl146, w146_0, w146_1, w146_3, w146_6, w146_7, w146_10, w146_11, w146_13, w146_16, w146_17, w146_20, w146_21, w146_23, w146_26, w146_27, w146_30, w146_31, w146_33, w146_36, w146_37, w146_40, w146_41, w146_43, w146_46, w146_47, w146_50, w146_52, ↓neg_vM, ↓neg_vB, ↓neg_vS, ↓neg_vF, ↓neg_vO, ↓neg_vA, ↓neg_vN, lit_nI, nI_leI, nI_ltI, nI_eq, jm_in_nI, nI_clamp, nI_add, n_mul, pk_sub, n_le_t, n_le_f, n_lt_t, n_lt_f, n_eq_t, n_eq_f, true_and, and_true, ne_eq, not_false_eq_true, not_true_eq_false, min_n, max_n, dif_n, n_rem, n_div, or_nI, shl_nI, Option.toList_some, Option.toList_none, List.singleton_append, List.nil_append, if_true, if_false, or_true, true_or, or_false, false_or, and_false, false_and, Bool.false_eq_true, c1, c2, c3, c4]
        · by_cases c5 : c = 111
          · simp (disch := omega) only [cl146, w146_0, w146_1, w146_3, w146_6, w146_7, w146_10, w146_11, w146_13, w146_16, w146_17, w146_20, w146_21, w146_23, w146_26, w146_27, w146_30, w146_31, w146_33, w146_36, w146_37, w146_40, w146_41, w146_43, w146_46, w146_47, w146_50, w146_52, ↓neg_vM, ↓neg_vB, ↓neg_vS, ↓neg_vF, ↓neg_vO, ↓neg_vA, ↓neg_vN, lit_nI, nI_leI, nI_ltI, nI_eq, jm_in_nI, nI_clamp, nI_add, n_mul, pk_sub, n_le_t, n_le_f, n_lt_t, n_lt_f, n_eq_t, n_eq_f, true_and, and_true, ne_eq, not_false_eq_true, not_true_eq_false, min_n, max_n, dif_n, n_rem, n_div, or_nI, shl_nI, Option.toList_some, Option.toList_none, List.singleton_append, List.nil_append, if_true, if_false, or_true, true_or, or_false, false_or, and_false, false_and, Bool.false_eq_true, c1, c2, c3, c4, c5]
          · simp (disch := omega) only [cl146, w146_0, w146_1, w146_3, w146_6, w146_7, w146_10, w146_11, w146_13, w146_16, w146_17, w146_20, w146_21, w146_23, w146_26, w146_27, w146_30, w146_31, w146_33, w146_36, w146_37, w146_40, w146_41, w146_43, w146_46, w146_47, w146_50, w146_52, ↓neg_vM, ↓neg_vB, ↓neg_vS, ↓neg_vF, ↓neg_vO, ↓neg_vA, ↓neg_vN, lit_nI, nI_leI, nI_ltI, nI_eq, jm_in_nI, nI_clamp, nI_add, n_mul, pk_sub, n_le_t, n_le_f, n_lt_t, n_lt_f, n_eq_t, n_eq_f, true_and, and_true, ne_eq, not_false_eq_true, not_true_eq_false, min_n, max_n, dif_n, n_rem, n_div, or_nI, shl_nI, Option.toList_some, Option.toList_none, List.singleton_append, List.nil_append, if_true, if_false, or_true, true_or, or_false, false_or, and_false, false_and, Bool.false_eq_true, c1, c2, c3, c4, c5]
theorem r_isSort (h : RP b n p f T) (hf : f ≤ 3) (hb : ∀ i, i < n → b i ≤ 255) : CL L (d + 1) 147 [.ref 128] T Z ↔ (if f = 0 ∧ srt (byt b n p) ≠ 0 then Z (some (.int (nI 1))) T else Z (some (.int (nI 0))) T) := by
  have hm := mod_sh L
  have h16 := RP_ft h
  by_cases h0 : f = 0
  · obtain ⟨-, t13, tk, htk, t14, tks⟩ := h.2.2.1 h0
    subst h0
    have no : tk ≠ 2 → srt (byt b n p) = 0 → (CL L (d + 1) 147 [.ref 128] T Z ↔ (if 0 = 0 ∧ srt (byt b n p) ≠ 0 then Z (some (.int (nI 1))) T else Z (some (.int (nI 0))) T)) := fun q1 q2 => by
      rw [if_neg (fun x => x.2 q2)]
      simp (disch := omega) only [cl147, w147_0, w147_1, w147_4, w147_7, w147_8, w147_11, w147_12, w147_15, w147_16, w147_19, w147_22, w147_24, w147_27, w147_28, w147_31, w147_32, hm, ↓neg_vM, ↓neg_vB, ↓neg_vS, ↓neg_vF, ↓neg_vO, ↓neg_vA, ↓neg_vN, lit_nI, nI_leI, nI_ltI, nI_eq, jm_in_nI, nI_clamp, nI_add, n_mul, pk_sub, n_le_t, n_le_f, n_lt_t, n_lt_f, n_eq_t, n_eq_f, true_and, and_true, ne_eq, not_false_eq_true, not_true_eq_false, min_n, max_n, dif_n, n_rem, n_div, or_nI, shl_nI, Option.toList_some, Option.toList_none, List.singleton_append, List.nil_append, if_true, if_false, or_true, true_or, or_false, false_or, and_false, false_and, Bool.false_eq_true, h16, t14, q1]
    have nos : ∀ c, ¬ (97 ≤ c ∧ c ≤ 122) → srt c = 0 := fun c hc => by
      by_cases e : srt c = 0
      · exact e
      · exact absurd (srt_pos e) hc
    rcases tks with ⟨rfl, e⟩ | ⟨rfl, e1, e2, e3, e4, e5⟩ | ⟨rfl, e1, e2, e3, -, -, -⟩ | ⟨rfl, e1, e2, -, -⟩ | ⟨rfl, e1, e2, -, -⟩
    · exact no (by decide) (nos _ (by rw [byt_out e]; omega))
    · have q : byt b n p = b p := byt_in e1
      have h5 := srt_le (b p)
      by_cases q2 : srt (b p) = 0
      · rw [if_neg (fun x => x.2 (by rw [q]; exact q2))]
        simp (disch := omega) only [cl147, w147_0, w147_1, w147_4, w147_7, w147_8, w147_11, w147_12, w147_15, w147_16, w147_19, w147_22, w147_24, w147_27, w147_28, w147_31, w147_32, hm, ↓neg_vM, ↓neg_vB, ↓neg_vS, ↓neg_vF, ↓neg_vO, ↓neg_vA, ↓neg_vN, lit_nI, nI_leI, nI_ltI, nI_eq, jm_in_nI, nI_clamp, nI_add, n_mul, pk_sub, n_le_t, n_le_f, n_lt_t, n_lt_f, n_eq_t, n_eq_f, true_and, and_true, ne_eq, not_false_eq_true, not_true_eq_false, min_n, max_n, dif_n, n_rem, n_div, or_nI, shl_nI, Option.toList_some, Option.toList_none, List.singleton_append, List.nil_append, if_true, if_false, or_true, true_or, or_false, false_or, and_false, false_and, Bool.false_eq_true, h16, t14, e4, r_kindBy, q2]
      · rw [if_pos ⟨rfl, by rw [q]; exact q2⟩]
        simp (disch := omega) only [cl147, w147_0, w147_1, w147_4, w147_7, w147_8, w147_11, w147_12, w147_15, w147_16, w147_19, w147_22, w147_24, w147_27, w147_28, w147_31, w147_32, hm, ↓neg_vM, ↓neg_vB, ↓neg_vS, ↓neg_vF, ↓neg_vO, ↓neg_vA, ↓neg_vN, lit_nI, nI_leI, nI_ltI, nI_eq, jm_in_nI, nI_clamp, nI_add, n_mul, pk_sub, n_le_t, n_le_f, n_lt_t, n_lt_f, n_eq_t, n_eq_f, true_and, and_true, ne_eq, not_false_eq_true, not_true_eq_false, min_n, max_n, dif_n, n_rem, n_div, or_nI, shl_nI, Option.toList_some, Option.toList_none, List.singleton_append, List.nil_append, if_true, if_false, or_true, true_or, or_false, false_or, and_false, false_and, Bool.false_eq_true, h16, t14, e4, r_kindBy, q2, eq_vN]
    · exact no (by decide) (nos _ (by rw [byt_in e1]; omega))
    · exact no (by decide) (nos _ (by rw [byt_in e1]; omega))
    · exact no (by decide) (nos _ (by rw [byt_in e1]; omega))
  · simp (disch := omega) only [cl147, w147_0, w147_1, w147_4, w147_7, w147_8, w147_11, w147_12, w147_15, w147_16, w147_19, w147_22, w147_24, w147_27, w147_28, w147_31, w147_32, hm, ↓neg_vM, ↓neg_vB, ↓neg_vS, ↓neg_vF, ↓neg_vO, ↓neg_vA, ↓neg_vN, lit_nI, nI_leI, nI_ltI, nI_eq, jm_in_nI, nI_clamp, nI_add, n_mul, pk_sub, n_le_t, n_le_f, n_lt_t, n_lt_f, n_eq_t, n_eq_f, true_and, and_true, ne_eq, not_false_eq_true, not_true_eq_false, min_n, max_n, dif_n, n_rem, n_div, or_nI, shl_nI, Option.toList_some, Option.toList_none, List.singleton_append, List.nil_append, if_true, if_false, or_true, true_or, or_false, false_or, and_false, false_and, Bool.false_eq_true, h16, h0]
theorem r_hand2 {u : Value} (h : RP b n p f T) (hf : f ≤ 3) (hn : n ≤ 120) (hp : p ≤ n) (hb : ∀ i, i < n → b i ≤ 255) (hM : f = 0 → RM 133 T k ∧ (byt b n p = 104 → k 1 < 5)) (hZ : ∀ U, RP b n (hP3 b n p f).1 (hP3 b n p f).2 U → ((hP3 b n p f).2 = 0 → RM 133 U (addH k (nvl b n (hP1 b n p f).1))) → frF T U → Z none U) : WQ L (d + 4) 148 24 [.ref 128, u] [] T Z := by
  have hm := mod_sh L
  obtain ⟨l1, l2, l3⟩ := hP_le (b := b) hp hf
  simp (disch := omega) only [w148_24, w148_25, w148_26, w148_28, w148_31, hm, ↓neg_vM, ↓neg_vB, ↓neg_vS, ↓neg_vF, ↓neg_vO, ↓neg_vA, ↓neg_vN, lit_nI, nI_leI, nI_ltI, nI_eq, jm_in_nI, nI_clamp, nI_add, n_mul, pk_sub, n_le_t, n_le_f, n_lt_t, n_lt_f, n_eq_t, n_eq_f, true_and, and_true, ne_eq, not_false_eq_true, not_true_eq_false, min_n, max_n, dif_n, n_rem, n_div, or_nI, shl_nI, Option.toList_some, Option.toList_none, List.singleton_append, List.nil_append, if_true, if_false, or_true, true_or, or_false, false_or, and_false, false_and, Bool.false_eq_true, r_isLetter h hf hb]
  refine r_mustL h hf hn hb (by decide) (fun U1 h1 f1 => ?_)
  simp (disch := omega) only [w148_34, w148_35, w148_36, w148_38, hm, ↓neg_vM, ↓neg_vB, ↓neg_vS, ↓neg_vF, ↓neg_vO, ↓neg_vA, ↓neg_vN, lit_nI, nI_leI, nI_ltI, nI_eq, jm_in_nI, nI_clamp, nI_add, n_mul, pk_sub, n_le_t, n_le_f, n_lt_t, n_lt_f, n_eq_t, n_eq_f, true_and, and_true, ne_eq, not_false_eq_true, not_true_eq_false, min_n, max_n, dif_n, n_rem, n_div, or_nI, shl_nI, Option.toList_some, Option.toList_none, List.singleton_append, List.nil_append, if_true, if_false, or_true, true_or, or_false, false_or, and_false, false_and, Bool.false_eq_true]
  refine r_number h1 l1.2 hn l1.1 hb (by decide) (by decide) (fun U2 v h2 hv f2 => ?_)
  simp (disch := omega) only [w148_41, w148_42, w148_43, w148_45, hm, ↓neg_vM, ↓neg_vB, ↓neg_vS, ↓neg_vF, ↓neg_vO, ↓neg_vA, ↓neg_vN, lit_nI, nI_leI, nI_ltI, nI_eq, jm_in_nI, nI_clamp, nI_add, n_mul, pk_sub, n_le_t, n_le_f, n_lt_t, n_lt_f, n_eq_t, n_eq_f, true_and, and_true, ne_eq, not_false_eq_true, not_true_eq_false, min_n, max_n, dif_n, n_rem, n_div, or_nI, shl_nI, Option.toList_some, Option.toList_none, List.singleton_append, List.nil_append, if_true, if_false, or_true, true_or, or_false, false_or, and_false, false_and, Bool.false_eq_true, kl_ref]
  refine r_mustSign h2 l2.2 hn hb (by decide) (fun U3 h3 f3 => ?_)
  have hh : RP b n (hP3 b n p f).1 (hP3 b n p f).2 U3 := h3
  have g16 := RP_ft hh
  have ff := frF_R (frR_tr (frR_tr f1 f2) f3)
  by_cases z : (hP3 b n p f).2 = 0
  · obtain ⟨z0, a1, a2, a3⟩ := hP_z z
    obtain ⟨hR, hk⟩ := hM z0
    have a4 := (pB_z a1).2.1
    have hk5 := hk a4
    have ev : v = nI (nvl b n (hP1 b n p f).1) := hv a2
    have hR3 : RM 133 U3 k := RM_of hR (by rw [f3.1 133 (by decide), f2.1 133 (by decide), f1.1 133 (by decide)])
    have e1 := hR3 1 (by decide)
    rw [z] at g16
    subst ev
    simp (disch := omega) only [w148_48, w148_49, w148_52, w148_55, w148_56, w148_59, w148_60, w148_61, w148_62, w148_65, w148_66, w148_67, w148_68, w148_69, w148_70, w148_71, w148_72, w148_75, w148_76, w148_77, w148_78, w148_79, w148_80, w148_81, hm, ↓neg_vM, ↓neg_vB, ↓neg_vS, ↓neg_vF, ↓neg_vO, ↓neg_vA, ↓neg_vN, lit_nI, nI_leI, nI_ltI, nI_eq, jm_in_nI, nI_clamp, nI_add, n_mul, pk_sub, n_le_t, n_le_f, n_lt_t, n_lt_f, n_eq_t, n_eq_f, true_and, and_true, ne_eq, not_false_eq_true, not_true_eq_false, min_n, max_n, dif_n, n_rem, n_div, or_nI, shl_nI, Option.toList_some, Option.toList_none, List.singleton_append, List.nil_append, if_true, if_false, or_true, true_or, or_false, false_or, and_false, false_and, Bool.false_eq_true, g16, e1, upd_at]
    exact hZ _ (RP_of hh (by rw [upd_ne (by decide), upd_ne (by decide)]) (by rw [upd_ne (by decide), upd_ne (by decide)])) (fun _ => RM_upd (RM_upd hR3)) (frF_u (frF_u ff))
  · simp (disch := omega) only [w148_48, w148_49, w148_52, w148_81, hm, ↓neg_vM, ↓neg_vB, ↓neg_vS, ↓neg_vF, ↓neg_vO, ↓neg_vA, ↓neg_vN, lit_nI, nI_leI, nI_ltI, nI_eq, jm_in_nI, nI_clamp, nI_add, n_mul, pk_sub, n_le_t, n_le_f, n_lt_t, n_lt_f, n_eq_t, n_eq_f, true_and, and_true, ne_eq, not_false_eq_true, not_true_eq_false, min_n, max_n, dif_n, n_rem, n_div, or_nI, shl_nI, Option.toList_some, Option.toList_none, List.singleton_append, List.nil_append, if_true, if_false, or_true, true_or, or_false, false_or, and_false, false_and, Bool.false_eq_true, g16, z]
    exact hZ U3 hh (fun q => absurd q z) ff
theorem r_readHand (h : RP b n p f T) (hf : f ≤ 3) (hn : n ≤ 120) (hp : p ≤ n) (hb : ∀ i, i < n → b i ≤ 255) (hM : f = 0 → RM 133 T k ∧ DV k) (hZ : ∀ U, RS b n (if f = 0 then rH b n p k else (p, f, k)) U → frF T U → Z none U) : CL L (d + 4) 148 [.ref 128] T Z := by
  have hm := mod_sh L
  by_cases h0 : f = 0
  · subst h0
    obtain ⟨hR, hD⟩ := hM rfl
    have e1 := hR 1 (by decide)
    have v1 := hD.1.2.1
    rw [if_pos rfl] at hZ
    unfold rH at hZ
    by_cases c : byt b n p = 104 ∧ 5 ≤ k 1
    · rw [if_pos c] at hZ
      obtain ⟨c1, c2⟩ := c
      have k5 : k 1 = 5 := by omega
      simp (disch := omega) only [cl148, w148_0, w148_1, w148_3, w148_6, w148_9, w148_10, w148_13, w148_14, w148_15, w148_16, w148_19, w148_20, w148_21, hm, ↓neg_vM, ↓neg_vB, ↓neg_vS, ↓neg_vF, ↓neg_vO, ↓neg_vA, ↓neg_vN, lit_nI, nI_leI, nI_ltI, nI_eq, jm_in_nI, nI_clamp, nI_add, n_mul, pk_sub, n_le_t, n_le_f, n_lt_t, n_lt_f, n_eq_t, n_eq_f, true_and, and_true, ne_eq, not_false_eq_true, not_true_eq_false, min_n, max_n, dif_n, n_rem, n_div, or_nI, shl_nI, Option.toList_some, Option.toList_none, List.singleton_append, List.nil_append, if_true, if_false, or_true, true_or, or_false, false_or, and_false, false_and, Bool.false_eq_true, r_isLetter h hf hb, c1, e1, k5, r_bad0 h]
      refine r_hand2 (k := k) (RP_bad h (by decide)) (by decide) hn hp hb (fun q => absurd q (by decide)) (fun U u1 u2 u3 => ?_)
      rw [hP3_f (by decide)] at u1
      exact hZ U ⟨u1, fun q => absurd q (show ¬ 3 = 0 by decide)⟩ (frF_tr (frF_R frR_bad) u3)
    · rw [if_neg c] at hZ
      have A : ∀ u, WQ L (d + 4) 148 24 [.ref 128, u] [] T Z := fun u => r_hand2 (k := k) h hf hn hp hb (fun _ => ⟨hR, fun q => by omega⟩) (fun U u1 u2 u3 => hZ U ⟨u1, u2⟩ u3)
      by_cases c1 : byt b n p = 104
      · have k5 : ¬ k 1 = 5 := by omega
        simp (disch := omega) only [cl148, w148_0, w148_1, w148_3, w148_6, w148_9, w148_10, w148_13, w148_14, w148_15, w148_16, w148_19, w148_20, w148_21, hm, ↓neg_vM, ↓neg_vB, ↓neg_vS, ↓neg_vF, ↓neg_vO, ↓neg_vA, ↓neg_vN, lit_nI, nI_leI, nI_ltI, nI_eq, jm_in_nI, nI_clamp, nI_add, n_mul, pk_sub, n_le_t, n_le_f, n_lt_t, n_lt_f, n_eq_t, n_eq_f, true_and, and_true, ne_eq, not_false_eq_true, not_true_eq_false, min_n, max_n, dif_n, n_rem, n_div, or_nI, shl_nI, Option.toList_some, Option.toList_none, List.singleton_append, List.nil_append, if_true, if_false, or_true, true_or, or_false, false_or, and_false, false_and, Bool.false_eq_true, r_isLetter h hf hb, c1, e1, k5]
        exact A _
      · simp (disch := omega) only [cl148, w148_0, w148_1, w148_3, w148_6, w148_9, w148_10, w148_13, w148_14, w148_15, w148_16, w148_19, w148_20, w148_21, hm, ↓neg_vM, ↓neg_vB, ↓neg_vS, ↓neg_vF, ↓neg_vO, ↓neg_vA, ↓neg_vN, lit_nI, nI_leI, nI_ltI, nI_eq, jm_in_nI, nI_clamp, nI_add, n_mul, pk_sub, n_le_t, n_le_f, n_lt_t, n_lt_f, n_eq_t, n_eq_f, true_and, and_true, ne_eq, not_false_eq_true, not_true_eq_false, min_n, max_n, dif_n, n_rem, n_div, or_nI, shl_nI, Option.toList_some, Option.toList_none, List.singleton_append, List.nil_append, if_true, if_false, or_true, true_or, or_false, false_or, and_false, false_and, Bool.false_eq_true, r_isLetter h hf hb, c1]
        exact A _
  · rw [if_neg h0] at hZ
    simp (disch := omega) only [cl148, w148_0, w148_1, w148_3, w148_6, w148_9, w148_10, w148_13, w148_14, w148_15, w148_16, w148_19, w148_20, w148_21, hm, ↓neg_vM, ↓neg_vB, ↓neg_vS, ↓neg_vF, ↓neg_vO, ↓neg_vA, ↓neg_vN, lit_nI, nI_leI, nI_ltI, nI_eq, jm_in_nI, nI_clamp, nI_add, n_mul, pk_sub, n_le_t, n_le_f, n_lt_t, n_lt_f, n_eq_t, n_eq_f, true_and, and_true, ne_eq, not_false_eq_true, not_true_eq_false, min_n, max_n, dif_n, n_rem, n_div, or_nI, shl_nI, Option.toList_some, Option.toList_none, List.singleton_append, List.nil_append, if_true, if_false, or_true, true_or, or_false, false_or, and_false, false_and, Bool.false_eq_true, r_isLetter h hf hb, h0]
    refine r_hand2 (k := k) h hf hn hp hb (fun q => absurd q h0) (fun U u1 u2 u3 => ?_)
    rw [hP3_f h0] at u1
    exact hZ U ⟨u1, fun q => absurd q h0⟩ u3
set_option maxHeartbeats 8000000 in
theorem r_rule3 {q kd : Nat} {u2 u3 u4 u5 : Value} (h : RP b n q f T) (hf : f ≤ 3) (hn : n ≤ 120) (hq : q ≤ n) (hb : ∀ i, i < n → b i ≤ 255) (hR : RM 133 T k) (hD : DV k) (hk : f = 0 → k 0 < 5) (hZ : ∀ U, RP b n (gP6 b n (k 2) q f).1 (gP6 b n (k 2) q f).2 U → ((gP6 b n (k 2) q f).2 = 0 → RM 133 U (addR k kd (nvl b n q) (nvl b n (gP2 b n (k 2) q f).1) (nvl b n (gP4 b n (k 2) q f).1))) → frF T U → Z none U) : WQ L (d + 4) 149 28 [.ref 128, .int (nI kd), u2, u3, u4, u5] [] T Z := by
  have hm := mod_sh L
  obtain ⟨l1, l2, l3, l4, l5, l6⟩ := gP_le (b := b) (lo := k 2) hq hf
  have v2 := hD.1.2.2.1
  have e2 := hR 2 (by decide)
  simp (disch := omega) only [w149_28, w149_29, w149_30, w149_31, w149_34, w149_35, w149_36, hm, ↓neg_vM, ↓neg_vB, ↓neg_vS, ↓neg_vF, ↓neg_vO, ↓neg_vA, ↓neg_vN, lit_nI, nI_leI, nI_ltI, nI_eq, jm_in_nI, nI_clamp, nI_add, n_mul, pk_sub, n_le_t, n_le_f, n_lt_t, n_lt_f, n_eq_t, n_eq_f, true_and, and_true, ne_eq, not_false_eq_true, not_true_eq_false, min_n, max_n, dif_n, n_rem, n_div, or_nI, shl_nI, Option.toList_some, Option.toList_none, List.singleton_append, List.nil_append, if_true, if_false, or_true, true_or, or_false, false_or, and_false, false_and, Bool.false_eq_true, e2]
  refine r_number h hf hn hq hb (by decide) (by omega) (fun U1 v1 h1 hv1 f1 => ?_)
  simp (disch := omega) only [w149_39, w149_40, w149_41, w149_43, hm, ↓neg_vM, ↓neg_vB, ↓neg_vS, ↓neg_vF, ↓neg_vO, ↓neg_vA, ↓neg_vN, lit_nI, nI_leI, nI_ltI, nI_eq, jm_in_nI, nI_clamp, nI_add, n_mul, pk_sub, n_le_t, n_le_f, n_lt_t, n_lt_f, n_eq_t, n_eq_f, true_and, and_true, ne_eq, not_false_eq_true, not_true_eq_false, min_n, max_n, dif_n, n_rem, n_div, or_nI, shl_nI, Option.toList_some, Option.toList_none, List.singleton_append, List.nil_append, if_true, if_false, or_true, true_or, or_false, false_or, and_false, false_and, Bool.false_eq_true, kl_int]
  refine r_mustSign h1 l1.2 hn hb (by decide) (fun U2 h2 f2 => ?_)
  simp (disch := omega) only [w149_46, w149_47, w149_48, w149_50, hm, ↓neg_vM, ↓neg_vB, ↓neg_vS, ↓neg_vF, ↓neg_vO, ↓neg_vA, ↓neg_vN, lit_nI, nI_leI, nI_ltI, nI_eq, jm_in_nI, nI_clamp, nI_add, n_mul, pk_sub, n_le_t, n_le_f, n_lt_t, n_lt_f, n_eq_t, n_eq_f, true_and, and_true, ne_eq, not_false_eq_true, not_true_eq_false, min_n, max_n, dif_n, n_rem, n_div, or_nI, shl_nI, Option.toList_some, Option.toList_none, List.singleton_append, List.nil_append, if_true, if_false, or_true, true_or, or_false, false_or, and_false, false_and, Bool.false_eq_true]
  refine r_number h2 l2.2 hn l2.1 hb (by decide) (by decide) (fun U3 v3 h3 hv3 f3 => ?_)
  simp (disch := omega) only [w149_53, w149_54, w149_55, w149_57, hm, ↓neg_vM, ↓neg_vB, ↓neg_vS, ↓neg_vF, ↓neg_vO, ↓neg_vA, ↓neg_vN, lit_nI, nI_leI, nI_ltI, nI_eq, jm_in_nI, nI_clamp, nI_add, n_mul, pk_sub, n_le_t, n_le_f, n_lt_t, n_lt_f, n_eq_t, n_eq_f, true_and, and_true, ne_eq, not_false_eq_true, not_true_eq_false, min_n, max_n, dif_n, n_rem, n_div, or_nI, shl_nI, Option.toList_some, Option.toList_none, List.singleton_append, List.nil_append, if_true, if_false, or_true, true_or, or_false, false_or, and_false, false_and, Bool.false_eq_true, kl_int]
  refine r_mustSign h3 l3.2 hn hb (by decide) (fun U4 h4 f4 => ?_)
  simp (disch := omega) only [w149_60, w149_61, w149_62, w149_64, hm, ↓neg_vM, ↓neg_vB, ↓neg_vS, ↓neg_vF, ↓neg_vO, ↓neg_vA, ↓neg_vN, lit_nI, nI_leI, nI_ltI, nI_eq, jm_in_nI, nI_clamp, nI_add, n_mul, pk_sub, n_le_t, n_le_f, n_lt_t, n_lt_f, n_eq_t, n_eq_f, true_and, and_true, ne_eq, not_false_eq_true, not_true_eq_false, min_n, max_n, dif_n, n_rem, n_div, or_nI, shl_nI, Option.toList_some, Option.toList_none, List.singleton_append, List.nil_append, if_true, if_false, or_true, true_or, or_false, false_or, and_false, false_and, Bool.false_eq_true]
  refine r_number h4 l4.2 hn l4.1 hb (by decide) (by decide) (fun U5 v5 h5 hv5 f5 => ?_)
  simp (disch := omega) only [w149_67, w149_69, w149_70, w149_72, hm, ↓neg_vM, ↓neg_vB, ↓neg_vS, ↓neg_vF, ↓neg_vO, ↓neg_vA, ↓neg_vN, lit_nI, nI_leI, nI_ltI, nI_eq, jm_in_nI, nI_clamp, nI_add, n_mul, pk_sub, n_le_t, n_le_f, n_lt_t, n_lt_f, n_eq_t, n_eq_f, true_and, and_true, ne_eq, not_false_eq_true, not_true_eq_false, min_n, max_n, dif_n, n_rem, n_div, or_nI, shl_nI, Option.toList_some, Option.toList_none, List.singleton_append, List.nil_append, if_true, if_false, or_true, true_or, or_false, false_or, and_false, false_and, Bool.false_eq_true, kl_int]
  refine r_mustSign h5 l5.2 hn hb (by decide) (fun U6 h6 f6 => ?_)
  have hh : RP b n (gP6 b n (k 2) q f).1 (gP6 b n (k 2) q f).2 U6 := h6
  have g16 := RP_ft hh
  have fr := frR_tr (frR_tr (frR_tr (frR_tr (frR_tr f1 f2) f3) f4) f5) f6
  have ff := frF_R fr
  by_cases z : (gP6 b n (k 2) q f).2 = 0
  · obtain ⟨z0, a1, a3, a5, -, -, -, -⟩ := gP_z z
    have hk5 := hk z0
    have ev1 : v1 = nI (nvl b n q) := hv1 a1
    have ev3 : v3 = nI (nvl b n (gP2 b n (k 2) q f).1) := hv3 a3
    have ev5 : v5 = nI (nvl b n (gP4 b n (k 2) q f).1) := hv5 a5
    have hR6 : RM 133 U6 k := RM_of hR (fr.1 133 (by decide))
    have e0 := hR6 0 (by decide)
    rw [z] at g16
    subst ev1 ev3 ev5
    simp (disch := omega) only [w149_75, w149_76, w149_79, w149_82, w149_84, w149_85, w149_86, w149_89, w149_90, w149_91, w149_92, w149_93, w149_95, w149_96, w149_99, w149_101, w149_102, w149_103, w149_104, w149_107, w149_109, w149_110, w149_111, w149_112, w149_113, w149_114, w149_117, w149_119, w149_120, w149_121, w149_122, w149_123, w149_124, w149_127, w149_129, w149_130, w149_131, w149_133, w149_134, w149_135, w149_138, w149_139, w149_140, w149_141, w149_142, w149_143, w149_144, hm, ↓neg_vM, ↓neg_vB, ↓neg_vS, ↓neg_vF, ↓neg_vO, ↓neg_vA, ↓neg_vN, lit_nI, nI_leI, nI_ltI, nI_eq, jm_in_nI, nI_clamp, nI_add, n_mul, pk_sub, n_le_t, n_le_f, n_lt_t, n_lt_f, n_eq_t, n_eq_f, true_and, and_true, ne_eq, not_false_eq_true, not_true_eq_false, min_n, max_n, dif_n, n_rem, n_div, or_nI, shl_nI, Option.toList_some, Option.toList_none, List.singleton_append, List.nil_append, if_true, if_false, or_true, true_or, or_false, false_or, and_false, false_and, Bool.false_eq_true, g16, e0, upd_at, kl_int]
    refine hZ _ (RP_of hh ?_ ?_) (fun _ => RM_upd (RM_upd (RM_upd (RM_upd (RM_upd hR6))))) (frF_u (frF_u (frF_u (frF_u (frF_u ff)))))
    · rw [upd_ne (by decide), upd_ne (by decide), upd_ne (by decide), upd_ne (by decide), upd_ne (by decide)]
    · rw [upd_ne (by decide), upd_ne (by decide), upd_ne (by decide), upd_ne (by decide), upd_ne (by decide)]
  · simp (disch := omega) only [w149_75, w149_76, w149_79, w149_144, hm, ↓neg_vM, ↓neg_vB, ↓neg_vS, ↓neg_vF, ↓neg_vO, ↓neg_vA, ↓neg_vN, lit_nI, nI_leI, nI_ltI, nI_eq, jm_in_nI, nI_clamp, nI_add, n_mul, pk_sub, n_le_t, n_le_f, n_lt_t, n_lt_f, n_eq_t, n_eq_f, true_and, and_true, ne_eq, not_false_eq_true, not_true_eq_false, min_n, max_n, dif_n, n_rem, n_div, or_nI, shl_nI, Option.toList_some, Option.toList_none, List.singleton_append, List.nil_append, if_true, if_false, or_true, true_or, or_false, false_or, and_false, false_and, Bool.false_eq_true, g16, z]
    exact hZ U6 hh (fun q => absurd q z) ff
theorem r_readRule (h : RP b n p 0 T) (hn : n ≤ 120) (hp : p ≤ n) (hb : ∀ i, i < n → b i ≤ 255) (hs : srt (byt b n p) ≠ 0) (hR : RM 133 T k) (hD : DV k) (hZ : ∀ U, RS b n (rR b n p k) U → frF T U → Z none U) : CL L (d + 4) 149 [.ref 128] T Z := by
  have hm := mod_sh L
  have e0 := hR 0 (by decide)
  have v0 := hD.1.1
  have hsp := srt_pos hs
  obtain ⟨hpn, hbp⟩ := byt_lt (show byt b n p < 256 by omega)
  obtain ⟨ec, ec2⟩ := RP_cur h hb (Or.inl hsp) rfl
  have e15 : T 128 15 = nI (b p) := by
    obtain ⟨-, t13, tk, htk, t14, tks⟩ := h.2.2.1 rfl
    rcases tks with ⟨rfl, e⟩ | ⟨rfl, e1, e2, e3, e4, e5⟩ | ⟨rfl, e1, e2, e3, -, -, -⟩ | ⟨rfl, e1, e2, -, -⟩ | ⟨rfl, e1, e2, -, -⟩
    · omega
    · exact e4
    · omega
    · omega
    · omega
  have bp := hb p hpn
  rw [hbp] at hs
  have h5 := srt_le (b p)
  unfold rR at hZ
  rw [hbp, if_neg hs] at hZ
  by_cases c : 5 ≤ k 0
  · rw [if_pos c] at hZ
    have k5 : k 0 = 5 := by omega
    have hB : RP b n p 3 (jm_upd (jm_upd T 128 16 (nI 3)) 128 17 (nI p)) := RP_bad h (by decide)
    simp (disch := omega) only [cl149, w149_0, w149_1, w149_4, w149_7, w149_8, w149_9, w149_12, w149_13, w149_14, w149_15, w149_18, w149_19, w149_20, w149_23, w149_24, w149_25, hm, ↓neg_vM, ↓neg_vB, ↓neg_vS, ↓neg_vF, ↓neg_vO, ↓neg_vA, ↓neg_vN, lit_nI, nI_leI, nI_ltI, nI_eq, jm_in_nI, nI_clamp, nI_add, n_mul, pk_sub, n_le_t, n_le_f, n_lt_t, n_lt_f, n_eq_t, n_eq_f, true_and, and_true, ne_eq, not_false_eq_true, not_true_eq_false, min_n, max_n, dif_n, n_rem, n_div, or_nI, shl_nI, Option.toList_some, Option.toList_none, List.singleton_append, List.nil_append, if_true, if_false, or_true, true_or, or_false, false_or, and_false, false_and, Bool.false_eq_true, e15, r_kindBy, hs, e0, k5, r_bad0 h, r_mustF hB, kl_ref]
    refine r_rule3 (k := k) (q := p) hB (by decide) hn hp hb (RM_of hR (by rw [upd_ne (by decide), upd_ne (by decide)])) hD (fun q => absurd q (by decide)) (fun U u1 u2 u3 => ?_)
    rw [gP6_f (by decide)] at u1
    exact hZ U ⟨u1, fun q => absurd q (show ¬ 3 = 0 by decide)⟩ (frF_tr (frF_R frR_bad) u3)
  · rw [if_neg c] at hZ
    have k5 : ¬ k 0 = 5 := by omega
    simp (disch := omega) only [cl149, w149_0, w149_1, w149_4, w149_7, w149_8, w149_9, w149_12, w149_13, w149_14, w149_15, w149_18, w149_19, w149_20, w149_23, w149_24, w149_25, hm, ↓neg_vM, ↓neg_vB, ↓neg_vS, ↓neg_vF, ↓neg_vO, ↓neg_vA, ↓neg_vN, lit_nI, nI_leI, nI_ltI, nI_eq, jm_in_nI, nI_clamp, nI_add, n_mul, pk_sub, n_le_t, n_le_f, n_lt_t, n_lt_f, n_eq_t, n_eq_f, true_and, and_true, ne_eq, not_false_eq_true, not_true_eq_false, min_n, max_n, dif_n, n_rem, n_div, or_nI, shl_nI, Option.toList_some, Option.toList_none, List.singleton_append, List.nil_append, if_true, if_false, or_true, true_or, or_false, false_or, and_false, false_and, Bool.false_eq_true, e15, r_kindBy, hs, e0, k5, kl_ref]
    refine r_must1 h ec ec2 hn hb (fun U0 u0 f0 => ?_)
    simp only [Option.toList_none, List.nil_append]
    exact r_rule3 (k := k) (q := p + 1) u0 (by decide) hn ec2 hb (RM_of hR (f0.1 133 (by decide))) hD (fun _ => by omega) (fun U u1 u2 u3 => hZ U ⟨u1, u2⟩ (frF_tr (frF_R f0) u3))
theorem r_handsL {u : Value} {T0 : jm_I2} (hn : n ≤ 120) (hb : ∀ i, i < n → b i ≤ 255) : ∀ g s T, GS n s → RS b n s T → (s.2.1 = 0 → 6 ≤ s.2.2 1 + g) → frF T0 T → (∀ T, RS b n (hnd b n g s) T → frF T0 T → WQ L (d + 5) 150 80 [.ref 128, u] [] T Z) → WQ L (d + 5) 150 64 [.ref 128, u] [] T Z
  | 0, s, T, hG, hS, h6, tf, hZ => by
    have hm := mod_sh L
    have z : s.2.1 ≠ 0 := fun z => by
      have h1 := h6 z
      have h2 := (hG.2.2 z).1.2.1
      omega
    rw [w150_64]
    simp (disch := omega) only [w150_65, w150_67, w150_70, w150_73, w150_74, hm, ↓neg_vM, ↓neg_vB, ↓neg_vS, ↓neg_vF, ↓neg_vO, ↓neg_vA, ↓neg_vN, lit_nI, nI_leI, nI_ltI, nI_eq, jm_in_nI, nI_clamp, nI_add, n_mul, pk_sub, n_le_t, n_le_f, n_lt_t, n_lt_f, n_eq_t, n_eq_f, true_and, and_true, ne_eq, not_false_eq_true, not_true_eq_false, min_n, max_n, dif_n, n_rem, n_div, or_nI, shl_nI, Option.toList_some, Option.toList_none, List.singleton_append, List.nil_append, if_true, if_false, or_true, true_or, or_false, false_or, and_false, false_and, Bool.false_eq_true, r_isLetter hS.1 hG.2.1 hb, z]
    exact hZ T hS tf
  | g + 1, s, T, hG, hS, h6, tf, hZ => by
    have hm := mod_sh L
    rw [hnd] at hZ
    rw [w150_64]
    by_cases z : s.2.1 = 0
    · by_cases c : byt b n s.1 = 104
      · rw [if_pos ⟨z, c⟩] at hZ
        have hD := hG.2.2 z
        simp (disch := omega) only [w150_65, w150_67, w150_70, w150_73, w150_74, hm, ↓neg_vM, ↓neg_vB, ↓neg_vS, ↓neg_vF, ↓neg_vO, ↓neg_vA, ↓neg_vN, lit_nI, nI_leI, nI_ltI, nI_eq, jm_in_nI, nI_clamp, nI_add, n_mul, pk_sub, n_le_t, n_le_f, n_lt_t, n_lt_f, n_eq_t, n_eq_f, true_and, and_true, ne_eq, not_false_eq_true, not_true_eq_false, min_n, max_n, dif_n, n_rem, n_div, or_nI, shl_nI, Option.toList_some, Option.toList_none, List.singleton_append, List.nil_append, if_true, if_false, or_true, true_or, or_false, false_or, and_false, false_and, Bool.false_eq_true, r_isLetter hS.1 hG.2.1 hb, z, c]
        refine r_readHand (k := s.2.2) hS.1 hG.2.1 hn hG.1 hb (fun q => ⟨hS.2 q, hD⟩) (fun U u1 u2 => ?_)
        rw [if_pos z] at u1
        simp (disch := omega) only [w150_77, hm, ↓neg_vM, ↓neg_vB, ↓neg_vS, ↓neg_vF, ↓neg_vO, ↓neg_vA, ↓neg_vN, lit_nI, nI_leI, nI_ltI, nI_eq, jm_in_nI, nI_clamp, nI_add, n_mul, pk_sub, n_le_t, n_le_f, n_lt_t, n_lt_f, n_eq_t, n_eq_f, true_and, and_true, ne_eq, not_false_eq_true, not_true_eq_false, min_n, max_n, dif_n, n_rem, n_div, or_nI, shl_nI, Option.toList_some, Option.toList_none, List.singleton_append, List.nil_append, if_true, if_false, or_true, true_or, or_false, false_or, and_false, false_and, Bool.false_eq_true]
        obtain ⟨g1, g2⟩ := GS_rH (b := b) hG.1 hD
        have h7 := h6 z
        exact r_handsL hn hb g (rH b n s.1 s.2.2) U g1 u1 (fun q => by have := g2 q; omega) (frF_tr tf u2) hZ
      · rw [if_neg (fun q => c q.2)] at hZ
        simp (disch := omega) only [w150_65, w150_67, w150_70, w150_73, w150_74, hm, ↓neg_vM, ↓neg_vB, ↓neg_vS, ↓neg_vF, ↓neg_vO, ↓neg_vA, ↓neg_vN, lit_nI, nI_leI, nI_ltI, nI_eq, jm_in_nI, nI_clamp, nI_add, n_mul, pk_sub, n_le_t, n_le_f, n_lt_t, n_lt_f, n_eq_t, n_eq_f, true_and, and_true, ne_eq, not_false_eq_true, not_true_eq_false, min_n, max_n, dif_n, n_rem, n_div, or_nI, shl_nI, Option.toList_some, Option.toList_none, List.singleton_append, List.nil_append, if_true, if_false, or_true, true_or, or_false, false_or, and_false, false_and, Bool.false_eq_true, r_isLetter hS.1 hG.2.1 hb, z, c]
        exact hZ T hS tf
    · rw [if_neg (fun q => z q.1)] at hZ
      simp (disch := omega) only [w150_65, w150_67, w150_70, w150_73, w150_74, hm, ↓neg_vM, ↓neg_vB, ↓neg_vS, ↓neg_vF, ↓neg_vO, ↓neg_vA, ↓neg_vN, lit_nI, nI_leI, nI_ltI, nI_eq, jm_in_nI, nI_clamp, nI_add, n_mul, pk_sub, n_le_t, n_le_f, n_lt_t, n_lt_f, n_eq_t, n_eq_f, true_and, and_true, ne_eq, not_false_eq_true, not_true_eq_false, min_n, max_n, dif_n, n_rem, n_div, or_nI, shl_nI, Option.toList_some, Option.toList_none, List.singleton_append, List.nil_append, if_true, if_false, or_true, true_or, or_false, false_or, and_false, false_and, Bool.false_eq_true, r_isLetter hS.1 hG.2.1 hb, z]
      exact hZ T hS tf
theorem r_failed {g : Nat} (h : RP b n p f T) (hf : f ≤ 3) (hn : n ≤ 120) (hp : p ≤ n) (hg : g = if f = 0 ∧ p < n then 1 else f) (hZ : ∀ U, FN p g T U → Z (some (.int (nI (if g = 0 then 0 else 1)))) U) : CL L (d + 1) 144 [.ref 128] T Z := by
  have hm := mod_sh L
  have h16 := RP_ft h
  have go : ∀ {c : Nat} {V : jm_I2}, V 128 16 = nI c → c ≤ 3 → (c ≠ 0 → V 128 17 = nI p) → frR T V → (∀ U, FN p c T U → Z (some (.int (nI (if c = 0 then 0 else 1)))) U) → WQ L (d + 1) 144 20 [.ref 128] [] V Z := fun {c} {V} v16 hc v17 vf hz => by
    have v18 := vf.2 18 (by omega)
    by_cases c0 : c = 0
    · subst c0
      rw [if_pos rfl] at hz
      simp (disch := omega) only [w144_20, w144_21, w144_22, w144_25, w144_26, w144_27, w144_30, w144_33, w144_34, w144_37, w144_40, w144_41, w144_44, w144_47, w144_48, w144_51, w144_54, w144_55, w144_58, w144_59, hm, ↓neg_vM, ↓neg_vB, ↓neg_vS, ↓neg_vF, ↓neg_vO, ↓neg_vA, ↓neg_vN, lit_nI, nI_leI, nI_ltI, nI_eq, jm_in_nI, nI_clamp, nI_add, n_mul, pk_sub, n_le_t, n_le_f, n_lt_t, n_lt_f, n_eq_t, n_eq_f, true_and, and_true, ne_eq, not_false_eq_true, not_true_eq_false, min_n, max_n, dif_n, n_rem, n_div, or_nI, shl_nI, Option.toList_some, Option.toList_none, List.singleton_append, List.nil_append, if_true, if_false, or_true, true_or, or_false, false_or, and_false, false_and, Bool.false_eq_true, v16, upd_at]
      refine hz _ ⟨by simp (disch := omega) only [upd_at, row_at, n_eq_f, n_eq_t, and_true, true_and, and_false, false_and, and_self, if_true, if_false,  v16], fun q => absurd rfl q, fun _ => by simp (disch := omega) only [upd_at, row_at, n_eq_f, n_eq_t, and_true, true_and, and_false, false_and, and_self, if_true, if_false,  v18], fun o ho => by rw [upd_ne ho, upd_ne ho, vf.1 o ho], fun i hi => by rw [upd_at, if_neg (by omega), upd_at, if_neg (by omega), vf.2 i (by omega)]⟩
    · rw [if_neg c0] at hz
      have v17' := v17 c0
      simp (disch := omega) only [w144_20, w144_21, w144_22, w144_25, w144_26, w144_27, w144_30, w144_33, w144_34, w144_37, w144_40, w144_41, w144_44, w144_47, w144_48, w144_51, w144_54, w144_55, w144_58, w144_59, hm, ↓neg_vM, ↓neg_vB, ↓neg_vS, ↓neg_vF, ↓neg_vO, ↓neg_vA, ↓neg_vN, lit_nI, nI_leI, nI_ltI, nI_eq, jm_in_nI, nI_clamp, nI_add, n_mul, pk_sub, n_le_t, n_le_f, n_lt_t, n_lt_f, n_eq_t, n_eq_f, true_and, and_true, ne_eq, not_false_eq_true, not_true_eq_false, min_n, max_n, dif_n, n_rem, n_div, or_nI, shl_nI, Option.toList_some, Option.toList_none, List.singleton_append, List.nil_append, if_true, if_false, or_true, true_or, or_false, false_or, and_false, false_and, Bool.false_eq_true, v16, upd_at]
      refine hz _ ⟨by simp (disch := omega) only [upd_at, row_at, n_eq_f, n_eq_t, and_true, true_and, and_false, false_and, and_self, if_true, if_false,  v16], fun _ => ⟨by simp (disch := omega) only [upd_at, row_at, n_eq_f, n_eq_t, and_true, true_and, and_false, false_and, and_self, if_true, if_false,  v16], by simp (disch := omega) only [upd_at, row_at, n_eq_f, n_eq_t, and_true, true_and, and_false, false_and, and_self, if_true, if_false,  v17']⟩, fun q => absurd q c0, fun o ho => by rw [upd_ne ho, upd_ne ho, vf.1 o ho], fun i hi => by rw [upd_at, if_neg (by omega), upd_at, if_neg (by omega), vf.2 i (by omega)]⟩
  by_cases h0 : f = 0
  · obtain ⟨-, t13, tk, htk, t14, tks⟩ := h.2.2.1 h0
    subst h0
    by_cases c : p < n
    · rw [if_pos ⟨rfl, c⟩] at hg
      subst hg
      have k1 : tk ≠ 1 := by
        rcases tks with ⟨rfl, e⟩ | ⟨rfl, -⟩ | ⟨rfl, -⟩ | ⟨rfl, -⟩ | ⟨rfl, -⟩ <;> omega
      simp (disch := omega) only [cl144, w144_0, w144_1, w144_4, w144_7, w144_8, w144_11, w144_12, w144_15, w144_16, w144_17, hm, ↓neg_vM, ↓neg_vB, ↓neg_vS, ↓neg_vF, ↓neg_vO, ↓neg_vA, ↓neg_vN, lit_nI, nI_leI, nI_ltI, nI_eq, jm_in_nI, nI_clamp, nI_add, n_mul, pk_sub, n_le_t, n_le_f, n_lt_t, n_lt_f, n_eq_t, n_eq_f, true_and, and_true, ne_eq, not_false_eq_true, not_true_eq_false, min_n, max_n, dif_n, n_rem, n_div, or_nI, shl_nI, Option.toList_some, Option.toList_none, List.singleton_append, List.nil_append, if_true, if_false, or_true, true_or, or_false, false_or, and_false, false_and, Bool.false_eq_true, h16, t14, k1, r_bad0 h]
      exact go (c := 1) (by simp (disch := omega) only [upd_at, row_at, n_eq_f, n_eq_t, and_true, true_and, and_false, false_and, and_self, if_true, if_false,  h16]) (by decide) (fun _ => by simp (disch := omega) only [upd_at, row_at, n_eq_f, n_eq_t, and_true, true_and, and_false, false_and, and_self, if_true, if_false,  h16]) frR_bad hZ
    · rw [if_neg (fun q => c q.2)] at hg
      subst hg
      have k1 : tk = 1 := by
        rcases tks with ⟨rfl, e⟩ | ⟨rfl, e, -⟩ | ⟨rfl, e, -⟩ | ⟨rfl, e, -⟩ | ⟨rfl, e, -⟩ <;> omega
      simp (disch := omega) only [cl144, w144_0, w144_1, w144_4, w144_7, w144_8, w144_11, w144_12, w144_15, w144_16, w144_17, hm, ↓neg_vM, ↓neg_vB, ↓neg_vS, ↓neg_vF, ↓neg_vO, ↓neg_vA, ↓neg_vN, lit_nI, nI_leI, nI_ltI, nI_eq, jm_in_nI, nI_clamp, nI_add, n_mul, pk_sub, n_le_t, n_le_f, n_lt_t, n_lt_f, n_eq_t, n_eq_f, true_and, and_true, ne_eq, not_false_eq_true, not_true_eq_false, min_n, max_n, dif_n, n_rem, n_div, or_nI, shl_nI, Option.toList_some, Option.toList_none, List.singleton_append, List.nil_append, if_true, if_false, or_true, true_or, or_false, false_or, and_false, false_and, Bool.false_eq_true, h16, t14, k1]
      exact go (c := 0) h16 (by decide) (fun q => absurd rfl q) (frR_rf T) hZ
  · rw [if_neg (fun q => h0 q.1)] at hg
    subst hg
    simp (disch := omega) only [cl144, w144_0, w144_1, w144_4, w144_7, w144_8, w144_11, w144_12, w144_15, w144_16, w144_17, hm, ↓neg_vM, ↓neg_vB, ↓neg_vS, ↓neg_vF, ↓neg_vO, ↓neg_vA, ↓neg_vN, lit_nI, nI_leI, nI_ltI, nI_eq, jm_in_nI, nI_clamp, nI_add, n_mul, pk_sub, n_le_t, n_le_f, n_lt_t, n_lt_f, n_eq_t, n_eq_f, true_and, and_true, ne_eq, not_false_eq_true, not_true_eq_false, min_n, max_n, dif_n, n_rem, n_div, or_nI, shl_nI, Option.toList_some, Option.toList_none, List.singleton_append, List.nil_append, if_true, if_false, or_true, true_or, or_false, false_or, and_false, false_and, Bool.false_eq_true, h16, h0]
    exact go h16 hf (fun _ => (h.2.2.2 h0).2) (frR_rf T) hZ
theorem r_rulesL {u : Value} {T0 : jm_I2} (hn : n ≤ 120) (hb : ∀ i, i < n → b i ≤ 255) : ∀ g s T, GS n s → RS b n s T → (s.2.1 = 0 → 6 ≤ s.2.2 0 + g) → frF T0 T → (∀ T U, ((rul b n g s).2.1 = 0 → RM 133 T (rul b n g s).2.2) → frF T0 T → FN (rul b n g s).1 (rul b n g s).2.1 T U → WQ L (d + 5) 150 110 [.ref 128, u] [.int (nI (if (rul b n g s).2.1 = 0 then 0 else 1))] U Z) → WQ L (d + 5) 150 92 [.ref 128, u] [] T Z
  | 0, s, T, hG, hS, h6, tf, hZ => by
    have hm := mod_sh L
    have z : s.2.1 ≠ 0 := fun z => by
      have h1 := h6 z
      have h2 := (hG.2.2 z).1.1
      omega
    rw [w150_92]
    simp (disch := omega) only [w150_93, w150_96, w150_99, w150_100, w150_103, w150_106, w150_107, hm, ↓neg_vM, ↓neg_vB, ↓neg_vS, ↓neg_vF, ↓neg_vO, ↓neg_vA, ↓neg_vN, lit_nI, nI_leI, nI_ltI, nI_eq, jm_in_nI, nI_clamp, nI_add, n_mul, pk_sub, n_le_t, n_le_f, n_lt_t, n_lt_f, n_eq_t, n_eq_f, true_and, and_true, ne_eq, not_false_eq_true, not_true_eq_false, min_n, max_n, dif_n, n_rem, n_div, or_nI, shl_nI, Option.toList_some, Option.toList_none, List.singleton_append, List.nil_append, if_true, if_false, or_true, true_or, or_false, false_or, and_false, false_and, Bool.false_eq_true, r_isSort hS.1 hG.2.1 hb, z]
    refine r_failed (g := s.2.1) hS.1 hG.2.1 hn hG.1 (by rw [if_neg (fun q => z q.1)]) (fun U hU => ?_)
    simp only [Option.toList_some, List.singleton_append]
    exact hZ T U hS.2 tf hU
  | g + 1, s, T, hG, hS, h6, tf, hZ => by
    have hm := mod_sh L
    rw [w150_92]
    by_cases z : s.2.1 = 0
    · by_cases c : srt (byt b n s.1) = 0
      · have c0 : ¬ (s.2.1 = 0 ∧ srt (byt b n s.1) ≠ 0) := fun q => q.2 c
        simp (disch := omega) only [w150_93, w150_96, w150_99, w150_100, w150_103, w150_106, w150_107, hm, ↓neg_vM, ↓neg_vB, ↓neg_vS, ↓neg_vF, ↓neg_vO, ↓neg_vA, ↓neg_vN, lit_nI, nI_leI, nI_ltI, nI_eq, jm_in_nI, nI_clamp, nI_add, n_mul, pk_sub, n_le_t, n_le_f, n_lt_t, n_lt_f, n_eq_t, n_eq_f, true_and, and_true, ne_eq, not_false_eq_true, not_true_eq_false, min_n, max_n, dif_n, n_rem, n_div, or_nI, shl_nI, Option.toList_some, Option.toList_none, List.singleton_append, List.nil_append, if_true, if_false, or_true, true_or, or_false, false_or, and_false, false_and, Bool.false_eq_true, r_isSort hS.1 hG.2.1 hb, z, c]
        rw [rul] at hZ
        by_cases c2 : s.1 < n
        · have er : rul b n g (rR b n s.1 s.2.2) = (s.1, 1, s.2.2) := by
            have e1 : rR b n s.1 s.2.2 = (s.1, 1, s.2.2) := if_pos c
            rw [e1]
            exact rul_f (show (1 : Nat) ≠ 0 by decide) g
          rw [if_pos ⟨z, c2⟩, er] at hZ
          refine r_failed (g := 1) hS.1 hG.2.1 hn hG.1 (by rw [if_pos ⟨z, c2⟩]) (fun U hU => ?_)
          simp only [Option.toList_some, List.singleton_append]
          exact hZ T U (fun q => absurd q (show ¬ 1 = 0 by decide)) tf hU
        · rw [if_neg (fun q => c2 q.2)] at hZ
          refine r_failed (g := s.2.1) hS.1 hG.2.1 hn hG.1 (by rw [if_neg (fun q => c2 q.2)]) (fun U hU => ?_)
          simp only [Option.toList_some, List.singleton_append]
          exact hZ T U hS.2 tf hU
      · have hD := hG.2.2 z
        have c2 : s.1 < n := (byt_lt (show byt b n s.1 < 256 by have := srt_pos c; omega)).1
        rw [rul, if_pos ⟨z, c2⟩] at hZ
        have hS1 := hS.1
        rw [z] at hS1
        simp (disch := omega) only [w150_93, w150_96, w150_99, w150_100, hm, ↓neg_vM, ↓neg_vB, ↓neg_vS, ↓neg_vF, ↓neg_vO, ↓neg_vA, ↓neg_vN, lit_nI, nI_leI, nI_ltI, nI_eq, jm_in_nI, nI_clamp, nI_add, n_mul, pk_sub, n_le_t, n_le_f, n_lt_t, n_lt_f, n_eq_t, n_eq_f, true_and, and_true, ne_eq, not_false_eq_true, not_true_eq_false, min_n, max_n, dif_n, n_rem, n_div, or_nI, shl_nI, Option.toList_some, Option.toList_none, List.singleton_append, List.nil_append, if_true, if_false, or_true, true_or, or_false, false_or, and_false, false_and, Bool.false_eq_true, r_isSort hS.1 hG.2.1 hb, z, c]
        refine r_readRule (k := s.2.2) hS1 hn hG.1 hb c (hS.2 z) hD (fun U u1 u2 => ?_)
        simp (disch := omega) only [w150_103, hm, ↓neg_vM, ↓neg_vB, ↓neg_vS, ↓neg_vF, ↓neg_vO, ↓neg_vA, ↓neg_vN, lit_nI, nI_leI, nI_ltI, nI_eq, jm_in_nI, nI_clamp, nI_add, n_mul, pk_sub, n_le_t, n_le_f, n_lt_t, n_lt_f, n_eq_t, n_eq_f, true_and, and_true, ne_eq, not_false_eq_true, not_true_eq_false, min_n, max_n, dif_n, n_rem, n_div, or_nI, shl_nI, Option.toList_some, Option.toList_none, List.singleton_append, List.nil_append, if_true, if_false, or_true, true_or, or_false, false_or, and_false, false_and, Bool.false_eq_true]
        obtain ⟨g1, g2⟩ := GS_rR (b := b) hG.1 hD
        have h7 := h6 z
        exact r_rulesL hn hb g (rR b n s.1 s.2.2) U g1 u1 (fun q => by have := g2 q; omega) (frF_tr tf u2) hZ
    · rw [rul, if_neg (fun q => z q.1)] at hZ
      simp (disch := omega) only [w150_93, w150_96, w150_99, w150_100, w150_103, w150_106, w150_107, hm, ↓neg_vM, ↓neg_vB, ↓neg_vS, ↓neg_vF, ↓neg_vO, ↓neg_vA, ↓neg_vN, lit_nI, nI_leI, nI_ltI, nI_eq, jm_in_nI, nI_clamp, nI_add, n_mul, pk_sub, n_le_t, n_le_f, n_lt_t, n_lt_f, n_eq_t, n_eq_f, true_and, and_true, ne_eq, not_false_eq_true, not_true_eq_false, min_n, max_n, dif_n, n_rem, n_div, or_nI, shl_nI, Option.toList_some, Option.toList_none, List.singleton_append, List.nil_append, if_true, if_false, or_true, true_or, or_false, false_or, and_false, false_and, Bool.false_eq_true, r_isSort hS.1 hG.2.1 hb, z]
      refine r_failed (g := s.2.1) hS.1 hG.2.1 hn hG.1 (by rw [if_neg (fun q => z q.1)]) (fun U hU => ?_)
      simp only [Option.toList_some, List.singleton_append]
      exact hZ T U hS.2 tf hU
theorem r_begin (h11 : T 128 11 = nI n) (h136 : ∀ i, i < n → T 136 i = nI (b i)) (hn : n ≤ 120) (hb : ∀ i, i < n → b i ≤ 255) (hZ : ∀ U, RP b n 0 0 U → frR T U → Z none U) : CL L (d + 2) 143 [.ref 128] T Z := by
  have hm := mod_sh L
  simp (disch := omega) only [cl143, w143_0, w143_1, w143_2, w143_5, w143_6, w143_7, w143_10, w143_11, hm, ↓neg_vM, ↓neg_vB, ↓neg_vS, ↓neg_vF, ↓neg_vO, ↓neg_vA, ↓neg_vN, lit_nI, nI_leI, nI_ltI, nI_eq, jm_in_nI, nI_clamp, nI_add, n_mul, pk_sub, n_le_t, n_le_f, n_lt_t, n_lt_f, n_eq_t, n_eq_f, true_and, and_true, ne_eq, not_false_eq_true, not_true_eq_false, min_n, max_n, dif_n, n_rem, n_div, or_nI, shl_nI, Option.toList_some, Option.toList_none, List.singleton_append, List.nil_append, if_true, if_false, or_true, true_or, or_false, false_or, and_false, false_and, Bool.false_eq_true]
  refine r_nextToken (n := n) (p := 0) (by simp (disch := omega) only [upd_at, row_at, n_eq_f, n_eq_t, and_true, true_and, and_false, false_and, and_self, if_true, if_false,  h11]) (fun i hi => by rw [upd_ne (by decide), upd_ne (by decide)]; exact h136 i hi) (by simp (disch := omega) only [upd_at, row_at, n_eq_f, n_eq_t, and_true, true_and, and_false, false_and, and_self, if_true, if_false,  h11]) (by simp (disch := omega) only [upd_at, row_at, n_eq_f, n_eq_t, and_true, true_and, and_false, false_and, and_self, if_true, if_false,  h11]) hn (Nat.zero_le _) hb (fun U u1 u2 => ?_)
  simp (disch := omega) only [w143_14, hm, ↓neg_vM, ↓neg_vB, ↓neg_vS, ↓neg_vF, ↓neg_vO, ↓neg_vA, ↓neg_vN, lit_nI, nI_leI, nI_ltI, nI_eq, jm_in_nI, nI_clamp, nI_add, n_mul, pk_sub, n_le_t, n_le_f, n_lt_t, n_lt_f, n_eq_t, n_eq_f, true_and, and_true, ne_eq, not_false_eq_true, not_true_eq_false, min_n, max_n, dif_n, n_rem, n_div, or_nI, shl_nI, Option.toList_some, Option.toList_none, List.singleton_append, List.nil_append, if_true, if_false, or_true, true_or, or_false, false_or, and_false, false_and, Bool.false_eq_true]
  exact hZ U u1 (frR_tr (frR_u (frR_u (frR_rf T) (by decide) (by decide)) (by decide) (by decide)) u2)
end
