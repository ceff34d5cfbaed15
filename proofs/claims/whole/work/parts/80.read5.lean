section
variable {xs : Nat → Int32} {L d : Nat} {S T : jm_I2} {k : kT} {Z : Option Value → jm_I2 → Prop} {b : Nat → Nat} {n p f : Nat}
theorem r_head {u : Value} (h : RP b n p f T) (hf : f ≤ 3) (hn : n ≤ 120) (hb : ∀ i, i < n → b i ≤ 255) (hZ : ∀ U, RP b n (pB b n 102 p f).1 (pB b n 102 p f).2 U → frR T U → WQ L (d + 5) 150 40 [.ref 128, u] [] U Z) : WQ L (d + 5) 150 30 [.ref 128, u] [] T Z := by
  have hm := mod_sh L
  simp (disch := omega) only [w150_30, w150_31, w150_32, w150_34, w150_37, hm, ↓neg_vM, ↓neg_vB, ↓neg_vS, ↓neg_vF, ↓neg_vO, ↓neg_vA, ↓neg_vN, lit_nI, nI_leI, nI_ltI, nI_eq, jm_in_nI, nI_clamp, nI_add, n_mul, pk_sub, n_le_t, n_le_f, n_lt_t, n_lt_f, n_eq_t, n_eq_f, true_and, and_true, ne_eq, not_false_eq_true, not_true_eq_false, min_n, max_n, dif_n, n_rem, n_div, or_nI, shl_nI, Option.toList_some, Option.toList_none, List.singleton_append, List.nil_append, if_true, if_false, or_true, true_or, or_false, false_or, and_false, false_and, Bool.false_eq_true, r_isLetter h hf hb]
  refine r_mustL h hf hn hb (by decide) (fun U1 h1 f1 => ?_)
  simp only [Option.toList_none, List.nil_append]
  exact hZ U1 h1 f1
/-- what a camp that is read leaves -/
def cpB (s : Nat × Nat × kT) (T U : jm_I2) : Prop := (∀ o, o ≠ 128 → o ≠ 133 → U o = T o) ∧ U 128 11 = nI 0 ∧ U 128 18 = nI s.2.1 ∧ ∀ i, (1 ≤ i ∧ i ≤ 10) ∨ 19 ≤ i → U 128 i = T 128 i
def cpG (s : Nat × Nat × kT) (T U : jm_I2) : Prop := (∀ o, o ≠ 128 → o ≠ 133 → o ≠ 132 → U o = T o) ∧ RM 132 U s.2.2 ∧ U 128 11 = nI 0 ∧ U 128 18 = T 128 18 ∧ U 128 9 = nI 0 ∧ ∀ i, (1 ≤ i ∧ i ≤ 8) ∨ i = 10 ∨ 19 ≤ i → U 128 i = T 128 i
set_option maxHeartbeats 8000000 in
theorem r_camp (h11 : T 128 11 = nI n) (h136 : ∀ i, i < n → T 136 i = nI (b i)) (hn : n ≤ 120) (hb : ∀ i, i < n → b i ≤ 255) (hF : (pS4 b n).2.1 ≠ 0 → ∀ U, cpB (pS4 b n) T U → Z (some (.int (vA - nI (pS4 b n).1))) U) (hO : (pS4 b n).2.1 = 0 → ∀ U, cpG (pS4 b n) T U → Z (some (.int (nI ((pS4 b n).2.2 0)))) U) : CL L (d + 5) 150 [.ref 128] T Z := by
  have hm := mod_sh L
  have f00 : ∀ U, frF (jm_upd T 128 0 (nI 0)) U → (∀ o, o ≠ 128 → o ≠ 133 → U o = T o) ∧ ∀ i, (1 ≤ i ∧ i ≤ 11) ∨ 18 ≤ i → U 128 i = T 128 i := fun U hU => ⟨fun o h1 h2 => by rw [hU.1 o h1 h2, upd_ne h1], fun i hi => by rw [hU.2 i (by omega), upd_at, if_neg (by omega)]⟩
  -- the end
  have fin : ∀ u T1 U, ((pS4 b n).2.1 = 0 → RM 133 T1 (pS4 b n).2.2) → frF (jm_upd T 128 0 (nI 0)) T1 → FN (pS4 b n).1 (pS4 b n).2.1 T1 U → WQ L (d + 5) 150 110 [.ref 128, u] [.int (nI (if (pS4 b n).2.1 = 0 then 0 else 1))] U Z := by
    intro u T1 U hR tf hN
    obtain ⟨n11, nF, nO, no, ni⟩ := hN
    obtain ⟨g1, g2⟩ := f00 T1 tf
    by_cases z : (pS4 b n).2.1 = 0
    · have hR := hR z
      have n18 := nO z
      have key : ∀ i, i ≤ 34 → WQ L (d + 5) 150 128 [.ref 128, .int (nI i)] [] (fillS (jm_upd U 128 9 (nI 0)) 132 (fun i => nI ((pS4 b n).2.2 i)) i) Z := by
        apply down_ind
        · have e0 : fillS (jm_upd U 128 9 (nI 0)) 132 (fun i => nI ((pS4 b n).2.2 i)) 34 132 0 = nI ((pS4 b n).2.2 0) := fillS_lt (by decide)
          rw [w150_128]
          simp (disch := omega) only [w150_129, w150_131, w150_152, w150_153, w150_156, w150_157, w150_158, hm, ↓neg_vM, ↓neg_vB, ↓neg_vS, ↓neg_vF, ↓neg_vO, ↓neg_vA, ↓neg_vN, lit_nI, nI_leI, nI_ltI, nI_eq, jm_in_nI, nI_clamp, nI_add, n_mul, pk_sub, n_le_t, n_le_f, n_lt_t, n_lt_f, n_eq_t, n_eq_f, true_and, and_true, ne_eq, not_false_eq_true, not_true_eq_false, min_n, max_n, dif_n, n_rem, n_div, or_nI, shl_nI, Option.toList_some, Option.toList_none, List.singleton_append, List.nil_append, if_true, if_false, or_true, true_or, or_false, false_or, and_false, false_and, Bool.false_eq_true, e0]
          refine hO z _ ⟨fun o h1 h2 h3 => ?_, fun i hi => fillS_lt hi, ?_, ?_, ?_, fun i hi => ?_⟩
          · rw [fillS_ne h3, upd_ne h1, no o h1, g1 o h1 h2]
          · rw [fillS_ne (by decide), upd_at, if_neg (by omega), n11]
          · rw [fillS_ne (by decide), upd_at, if_neg (by omega), n18, g2 18 (by omega)]
          · rw [fillS_ne (by decide), upd_at, if_pos ⟨rfl, rfl⟩]
          · rw [fillS_ne (by decide), upd_at, if_neg (by omega), ni i (by omega), g2 i (by omega)]
        · intro i hi ih
          have e : fillS (jm_upd U 128 9 (nI 0)) 132 (fun i => nI ((pS4 b n).2.2 i)) i 133 i = nI ((pS4 b n).2.2 i) := by
            rw [fillS_ne (by decide), upd_ne (by decide), no 133 (by decide)]
            exact hR i hi
          rw [← fillS_S] at ih
          rw [w150_128]
          simp (disch := omega) only [w150_129, w150_131, w150_134, w150_135, w150_138, w150_139, w150_140, w150_143, w150_144, w150_145, w150_146, w150_149, hm, ↓neg_vM, ↓neg_vB, ↓neg_vS, ↓neg_vF, ↓neg_vO, ↓neg_vA, ↓neg_vN, lit_nI, nI_leI, nI_ltI, nI_eq, jm_in_nI, nI_clamp, nI_add, n_mul, pk_sub, n_le_t, n_le_f, n_lt_t, n_lt_f, n_eq_t, n_eq_f, true_and, and_true, ne_eq, not_false_eq_true, not_true_eq_false, min_n, max_n, dif_n, n_rem, n_div, or_nI, shl_nI, Option.toList_some, Option.toList_none, List.singleton_append, List.nil_append, if_true, if_false, or_true, true_or, or_false, false_or, and_false, false_and, Bool.false_eq_true, e, kl_ref]
          exact ih
      have k0 := key 0 (Nat.zero_le _)
      rw [fillS_0] at k0
      rw [if_pos z]
      simp (disch := omega) only [w150_110, w150_113, w150_115, w150_116, w150_119, w150_120, w150_121, w150_122, w150_123, w150_126, w150_127, hm, ↓neg_vM, ↓neg_vB, ↓neg_vS, ↓neg_vF, ↓neg_vO, ↓neg_vA, ↓neg_vN, lit_nI, nI_leI, nI_ltI, nI_eq, jm_in_nI, nI_clamp, nI_add, n_mul, pk_sub, n_le_t, n_le_f, n_lt_t, n_lt_f, n_eq_t, n_eq_f, true_and, and_true, ne_eq, not_false_eq_true, not_true_eq_false, min_n, max_n, dif_n, n_rem, n_div, or_nI, shl_nI, Option.toList_some, Option.toList_none, List.singleton_append, List.nil_append, if_true, if_false, or_true, true_or, or_false, false_or, and_false, false_and, Bool.false_eq_true, kl_ref]
      exact k0
    · obtain ⟨n18, n17⟩ := nF z
      rw [if_neg z]
      simp (disch := omega) only [w150_110, w150_113, w150_115, w150_116, w150_119, w150_120, hm, ↓neg_vM, ↓neg_vB, ↓neg_vS, ↓neg_vF, ↓neg_vO, ↓neg_vA, ↓neg_vN, lit_nI, nI_leI, nI_ltI, nI_eq, jm_in_nI, nI_clamp, nI_add, n_mul, pk_sub, n_le_t, n_le_f, n_lt_t, n_lt_f, n_eq_t, n_eq_f, true_and, and_true, ne_eq, not_false_eq_true, not_true_eq_false, min_n, max_n, dif_n, n_rem, n_div, or_nI, shl_nI, Option.toList_some, Option.toList_none, List.singleton_append, List.nil_append, if_true, if_false, or_true, true_or, or_false, false_or, and_false, false_and, Bool.false_eq_true, n17]
      refine hF z U ⟨fun o h1 h2 => by rw [no o h1, g1 o h1 h2], n11, n18, fun i hi => ?_⟩
      by_cases e : i = 11
      · omega
      · rw [ni i (by omega), g2 i (by omega)]
  -- the rules
  have rls : ∀ u T1, RS b n (pS2 b n) T1 → frF (jm_upd T 128 0 (nI 0)) T1 → WQ L (d + 5) 150 80 [.ref 128, u] [] T1 Z := by
    intro u T1 hS tf
    obtain ⟨hG, hG2⟩ := pS2_ok b n
    obtain ⟨hG3, hG4⟩ := pS3_ok b n
    have fin2 := fin u
    by_cases z : (pS2 b n).2.1 = 0
    · have e3 : pS3 b n = rR b n (pS2 b n).1 (pS2 b n).2.2 := if_pos z
      by_cases c : srt (byt b n (pS2 b n).1) = 0
      · have e4 : pS3 b n = ((pS2 b n).1, 1, (pS2 b n).2.2) := by rw [e3]; exact if_pos c
        have hS1 := hS.1
        rw [z] at hS1
        unfold pS4 at fin2
        simp (disch := omega) only [w150_80, w150_81, w150_84, w150_87, w150_88, w150_89, hm, ↓neg_vM, ↓neg_vB, ↓neg_vS, ↓neg_vF, ↓neg_vO, ↓neg_vA, ↓neg_vN, lit_nI, nI_leI, nI_ltI, nI_eq, jm_in_nI, nI_clamp, nI_add, n_mul, pk_sub, n_le_t, n_le_f, n_lt_t, n_lt_f, n_eq_t, n_eq_f, true_and, and_true, ne_eq, not_false_eq_true, not_true_eq_false, min_n, max_n, dif_n, n_rem, n_div, or_nI, shl_nI, Option.toList_some, Option.toList_none, List.singleton_append, List.nil_append, if_true, if_false, or_true, true_or, or_false, false_or, and_false, false_and, Bool.false_eq_true, r_isSort hS.1 hG.2.1 hb, z, c, r_bad0 hS1]
        exact r_rulesL hn hb 5 (pS3 b n) _ hG3 (by rw [e4]; exact ⟨RP_bad hS1 (show (1 : Nat) ≠ 0 by decide), fun q => absurd q (show ¬ 1 = 0 by decide)⟩) (fun q => by rw [e4] at q; exact absurd q (show ¬ 1 = 0 by decide)) (frF_tr tf (frF_R frR_bad)) fin2
      · have c2 : (pS2 b n).1 < n := (byt_lt (show byt b n (pS2 b n).1 < 256 by have := srt_pos c; omega)).1
        have e6 : rul b n 6 (pS2 b n) = pS4 b n := by
          unfold pS4
          rw [e3]
          exact if_pos ⟨z, c2⟩
        rw [← e6] at fin2
        simp (disch := omega) only [w150_80, w150_81, w150_84, w150_87, w150_88, w150_89, hm, ↓neg_vM, ↓neg_vB, ↓neg_vS, ↓neg_vF, ↓neg_vO, ↓neg_vA, ↓neg_vN, lit_nI, nI_leI, nI_ltI, nI_eq, jm_in_nI, nI_clamp, nI_add, n_mul, pk_sub, n_le_t, n_le_f, n_lt_t, n_lt_f, n_eq_t, n_eq_f, true_and, and_true, ne_eq, not_false_eq_true, not_true_eq_false, min_n, max_n, dif_n, n_rem, n_div, or_nI, shl_nI, Option.toList_some, Option.toList_none, List.singleton_append, List.nil_append, if_true, if_false, or_true, true_or, or_false, false_or, and_false, false_and, Bool.false_eq_true, r_isSort hS.1 hG.2.1 hb, z, c]
        exact r_rulesL hn hb 6 (pS2 b n) T1 hG hS (fun q => by omega) tf fin2
    · have e3 : pS3 b n = pS2 b n := if_neg z
      have e5 : rul b n 5 (pS2 b n) = pS4 b n := by
        unfold pS4
        rw [e3]
      rw [← e5] at fin2
      simp (disch := omega) only [w150_80, w150_81, w150_84, w150_87, w150_88, w150_89, hm, ↓neg_vM, ↓neg_vB, ↓neg_vS, ↓neg_vF, ↓neg_vO, ↓neg_vA, ↓neg_vN, lit_nI, nI_leI, nI_ltI, nI_eq, jm_in_nI, nI_clamp, nI_add, n_mul, pk_sub, n_le_t, n_le_f, n_lt_t, n_lt_f, n_eq_t, n_eq_f, true_and, and_true, ne_eq, not_false_eq_true, not_true_eq_false, min_n, max_n, dif_n, n_rem, n_div, or_nI, shl_nI, Option.toList_some, Option.toList_none, List.singleton_append, List.nil_append, if_true, if_false, or_true, true_or, or_false, false_or, and_false, false_and, Bool.false_eq_true, r_isSort hS.1 hG.2.1 hb, z, r_badF hS.1 hG.2.1 z]
      exact r_rulesL hn hb 5 (pS2 b n) T1 hG hS (fun q => absurd q z) tf fin2
  have l1 : (fP1 b n).1 ≤ n ∧ (fP1 b n).2 ≤ 3 := pB_le (Nat.zero_le _) (by decide) (by decide)
  have l2 : (fP2 b n).1 ≤ n ∧ (fP2 b n).2 ≤ 3 := pN_le l1.1 l1.2
  have l3 : (fP3 b n).1 ≤ n ∧ (fP3 b n).2 ≤ 3 := pB_le l2.1 l2.2 (by decide)
  simp (disch := omega) only [cl150, w150_0, w150_1, w150_2, w150_5, w150_6, hm, ↓neg_vM, ↓neg_vB, ↓neg_vS, ↓neg_vF, ↓neg_vO, ↓neg_vA, ↓neg_vN, lit_nI, nI_leI, nI_ltI, nI_eq, jm_in_nI, nI_clamp, nI_add, n_mul, pk_sub, n_le_t, n_le_f, n_lt_t, n_lt_f, n_eq_t, n_eq_f, true_and, and_true, ne_eq, not_false_eq_true, not_true_eq_false, min_n, max_n, dif_n, n_rem, n_div, or_nI, shl_nI, Option.toList_some, Option.toList_none, List.singleton_append, List.nil_append, if_true, if_false, or_true, true_or, or_false, false_or, and_false, false_and, Bool.false_eq_true]
  refine r_begin (n := n) (b := b) (by simp (disch := omega) only [upd_at, row_at, n_eq_f, n_eq_t, and_true, true_and, and_false, false_and, and_self, if_true, if_false,  h11]) (fun i hi => by rw [upd_ne (by decide)]; exact h136 i hi) hn hb (fun U0 u0 f0 => ?_)
  simp (disch := omega) only [w150_9, w150_10, hm, ↓neg_vM, ↓neg_vB, ↓neg_vS, ↓neg_vF, ↓neg_vO, ↓neg_vA, ↓neg_vN, lit_nI, nI_leI, nI_ltI, nI_eq, jm_in_nI, nI_clamp, nI_add, n_mul, pk_sub, n_le_t, n_le_f, n_lt_t, n_lt_f, n_eq_t, n_eq_f, true_and, and_true, ne_eq, not_false_eq_true, not_true_eq_false, min_n, max_n, dif_n, n_rem, n_div, or_nI, shl_nI, Option.toList_some, Option.toList_none, List.singleton_append, List.nil_append, if_true, if_false, or_true, true_or, or_false, false_or, and_false, false_and, Bool.false_eq_true, kl_ref]
  have key : ∀ i, i ≤ 34 → WQ L (d + 5) 150 11 [.ref 128, .int (nI i)] [] (fillS U0 133 (fun _ => nI 0) i) Z := by
    apply down_ind
    · rw [w150_11]
      simp (disch := omega) only [w150_12, w150_14, hm, ↓neg_vM, ↓neg_vB, ↓neg_vS, ↓neg_vF, ↓neg_vO, ↓neg_vA, ↓neg_vN, lit_nI, nI_leI, nI_ltI, nI_eq, jm_in_nI, nI_clamp, nI_add, n_mul, pk_sub, n_le_t, n_le_f, n_lt_t, n_lt_f, n_eq_t, n_eq_f, true_and, and_true, ne_eq, not_false_eq_true, not_true_eq_false, min_n, max_n, dif_n, n_rem, n_div, or_nI, shl_nI, Option.toList_some, Option.toList_none, List.singleton_append, List.nil_append, if_true, if_false, or_true, true_or, or_false, false_or, and_false, false_and, Bool.false_eq_true]
      have hP0 : RP b n 0 0 (fillS U0 133 (fun _ => nI 0) 34) := RP_of u0 (fillS_ne (by decide)) (fillS_ne (by decide))
      have tf0 : frF (jm_upd T 128 0 (nI 0)) (fillS U0 133 (fun _ => nI 0) 34) := ⟨fun o h1 h2 => by rw [fillS_ne h2, f0.1 o h1], fun i hi => by rw [fillS_ne (by decide), f0.2 i hi]⟩
      have hR0 : RM 133 (fillS U0 133 (fun _ => nI 0) 34) (fun _ => 0) := fun i hi => fillS_lt hi
      refine r_head hP0 (by decide) hn hb (fun U1 u1 f1 => ?_)
      simp (disch := omega) only [w150_40, w150_41, w150_44, w150_45, w150_46, w150_48, w150_50, hm, ↓neg_vM, ↓neg_vB, ↓neg_vS, ↓neg_vF, ↓neg_vO, ↓neg_vA, ↓neg_vN, lit_nI, nI_leI, nI_ltI, nI_eq, jm_in_nI, nI_clamp, nI_add, n_mul, pk_sub, n_le_t, n_le_f, n_lt_t, n_lt_f, n_eq_t, n_eq_f, true_and, and_true, ne_eq, not_false_eq_true, not_true_eq_false, min_n, max_n, dif_n, n_rem, n_div, or_nI, shl_nI, Option.toList_some, Option.toList_none, List.singleton_append, List.nil_append, if_true, if_false, or_true, true_or, or_false, false_or, and_false, false_and, Bool.false_eq_true]
      refine r_number (p := (fP1 b n).1) (f := (fP1 b n).2) u1 l1.2 hn l1.1 hb (by decide) (by decide) (fun U2 v u2 hv f2 => ?_)
      simp (disch := omega) only [w150_53, w150_54, w150_55, w150_57, hm, ↓neg_vM, ↓neg_vB, ↓neg_vS, ↓neg_vF, ↓neg_vO, ↓neg_vA, ↓neg_vN, lit_nI, nI_leI, nI_ltI, nI_eq, jm_in_nI, nI_clamp, nI_add, n_mul, pk_sub, n_le_t, n_le_f, n_lt_t, n_lt_f, n_eq_t, n_eq_f, true_and, and_true, ne_eq, not_false_eq_true, not_true_eq_false, min_n, max_n, dif_n, n_rem, n_div, or_nI, shl_nI, Option.toList_some, Option.toList_none, List.singleton_append, List.nil_append, if_true, if_false, or_true, true_or, or_false, false_or, and_false, false_and, Bool.false_eq_true]
      have u2' : RP b n (fP2 b n).1 (fP2 b n).2 (jm_upd U2 133 2 v) := RP_of u2 (upd_ne (by decide)) (upd_ne (by decide))
      refine r_mustSign u2' l2.2 hn hb (by decide) (fun U3 u3 f3 => ?_)
      simp (disch := omega) only [w150_60, w150_61, hm, ↓neg_vM, ↓neg_vB, ↓neg_vS, ↓neg_vF, ↓neg_vO, ↓neg_vA, ↓neg_vN, lit_nI, nI_leI, nI_ltI, nI_eq, jm_in_nI, nI_clamp, nI_add, n_mul, pk_sub, n_le_t, n_le_f, n_lt_t, n_lt_f, n_eq_t, n_eq_f, true_and, and_true, ne_eq, not_false_eq_true, not_true_eq_false, min_n, max_n, dif_n, n_rem, n_div, or_nI, shl_nI, Option.toList_some, Option.toList_none, List.singleton_append, List.nil_append, if_true, if_false, or_true, true_or, or_false, false_or, and_false, false_and, Bool.false_eq_true]
      have tf3 : frF (jm_upd T 128 0 (nI 0)) U3 := frF_tr (frF_u (frF_tr tf0 (frF_R (frR_tr f1 f2)))) (frF_R f3)
      refine r_readHand (p := (fP3 b n).1) (f := (fP3 b n).2) (k := kL b n) u3 l3.2 hn l3.1 hb (fun z => ?_) (fun U4 u4 f4 => ?_)
      · have h2 : (fP2 b n).2 = 0 := (pB_z z).1
        have h3 := pN_z h2
        have e0 : kL b n 0 = 0 := kU_ne (by decide)
        have e1 : kL b n 1 = 0 := kU_ne (by decide)
        have e2 : kL b n 2 = nvl b n (fP1 b n).1 := kU_eq _ _ _
        have e3 : kL b n 3 = 0 := kU_ne (by decide)
        refine ⟨?_, ⟨by omega, by omega, by omega, by omega, fun h hh => by omega, fun r hr => by omega⟩, e3, fun h hh => kU_ne (by omega)⟩
        have ev : v = nI (nvl b n (fP1 b n).1) := hv h2
        rw [ev] at f3
        have hR2 : RM 133 U2 (fun _ => 0) := RM_of hR0 (by rw [f2.1 133 (by decide), f1.1 133 (by decide)])
        exact RM_of (RM_upd (i := 2) (v := nvl b n (fP1 b n).1) hR2) (f3.1 133 (by decide))
      · simp only [Option.toList_none, List.nil_append]
        obtain ⟨hG1, hG2⟩ := pS1_ok b n
        exact r_handsL hn hb 5 (pS1 b n) U4 hG1 u4 (fun q => by have := hG2 q; omega) (frF_tr tf3 f4) (fun T1 hS tf => rls _ T1 hS tf)
    · intro i hi ih
      rw [← fillS_S] at ih
      rw [w150_11]
      simp (disch := omega) only [w150_12, w150_14, w150_17, w150_18, w150_21, w150_22, w150_23, w150_24, w150_27, hm, ↓neg_vM, ↓neg_vB, ↓neg_vS, ↓neg_vF, ↓neg_vO, ↓neg_vA, ↓neg_vN, lit_nI, nI_leI, nI_ltI, nI_eq, jm_in_nI, nI_clamp, nI_add, n_mul, pk_sub, n_le_t, n_le_f, n_lt_t, n_lt_f, n_eq_t, n_eq_f, true_and, and_true, ne_eq, not_false_eq_true, not_true_eq_false, min_n, max_n, dif_n, n_rem, n_div, or_nI, shl_nI, Option.toList_some, Option.toList_none, List.singleton_append, List.nil_append, if_true, if_false, or_true, true_or, or_false, false_or, and_false, false_and, Bool.false_eq_true, kl_ref]
      exact ih
  have k0 := key 0 (Nat.zero_le _)
  rw [fillS_0] at k0
  exact k0
theorem c_forget : CL L d 1 [.ref 56] S Z ↔ Z none (jm_upd (jm_upd S 56 1 (nI 0)) 56 2 (nI 0)) := by
  have ht := top_sh L
  simp (disch := omega) only [cl1, w1_0, w1_1, w1_2, w1_5, w1_6, w1_7, w1_10, ht, ↓neg_vM, ↓neg_vB, ↓neg_vS, ↓neg_vF, ↓neg_vO, ↓neg_vA, ↓neg_vN, lit_nI, nI_leI, nI_ltI, nI_eq, jm_in_nI, nI_clamp, nI_add, n_mul, pk_sub, n_le_t, n_le_f, n_lt_t, n_lt_f, n_eq_t, n_eq_f, true_and, and_true, ne_eq, not_false_eq_true, not_true_eq_false, min_n, max_n, dif_n, n_rem, n_div, or_nI, shl_nI, Option.toList_some, Option.toList_none, List.singleton_append, List.nil_append, if_true, if_false, or_true, true_or, or_false, false_or, and_false, false_and, Bool.false_eq_true]
theorem InvK_cp {U : jm_I2} {k' : kT} (hI : InvK xs S k) (g : ∀ o, ¬ scr o → o ≠ 0 → o ≠ 13 → ¬ (25 ≤ o ∧ o ≤ 34) → o ≠ 56 → o ≠ 128 → o ≠ 132 → U o = S o) (g9 : U 0 9 = S 0 9) (g8 : U 0 8 = U 128 18) (g13 : U 13 1 = nI 0) (g11 : U 128 11 = nI 0) (g1 : U 128 1 = S 128 1) (g26 : U 128 26 = S 128 26) (hC : IC U k') (hA : IA U k') : InvK xs U k' := by
  obtain ⟨h1, h2, h3, h4, h5, h6, h7, h8, h9⟩ := hI
  have g' : ∀ o, ((3 ≤ o ∧ o ≤ 12) ∨ o = 14 ∨ (36 ≤ o ∧ o ≤ 55) ∨ o = 126 ∨ o = 127 ∨ (129 ≤ o ∧ o ≤ 131) ∨ o = 136 ∨ (141 ≤ o ∧ o ≤ 143) ∨ 144 ≤ o) → U o = S o := fun o ho => g o (by unfold scr; omega) (by omega) (by omega) (by omega) (by omega) (by omega) (by omega)
  refine ⟨IS_of h1 (fun o ho => g' o (by omega)), IR_of h2 (fun o ho => g' o (by omega)), ⟨0, by decide, g13, g11, fun i hi => absurd hi (by omega)⟩, hC, hA, II_of h6 (fun o a c => g' o (by omega)) (g' 141 (by omega)) (g' 142 (by omega)), IQ_of h7 (by rw [g' 126 (by omega)]) g26 (g' 127 (by omega)) (g' 143 (by omega)), g8, ?_⟩
  unfold IU at h9 ⊢
  rw [g9, g1, h9]
set_option maxHeartbeats 8000000 in
theorem p_camp (hI : InvK xs S k) : CL L (d + 9) 83 [.ref 0] S (Zx xs L (d + 9) 150 [.ref 128]) := by
  have ht := top_sh L
  have hs := camp_sh isC25
  obtain ⟨n, hn, i13, i11, ib⟩ := hI.2.2.1
  obtain ⟨b, hbs⟩ : ∃ b : Nat → Nat, ∀ i, i < n → b i ≤ 255 ∧ S 14 i = nI (b i) ∧ S 136 i = nI (b i) := by
    refine ⟨fun i => if h : i < n then (ib i h).choose else 0, fun i hi => ?_⟩
    simp only [dif_pos hi]
    exact (ib i hi).choose_spec
  have hb : ∀ i, i < n → b i ≤ 255 := fun i hi => (hbs i hi).1
  have ok4 := pS4_ok b n
  simp (disch := omega) only [cl83, w83_0, w83_1, w83_4, ht, ↓neg_vM, ↓neg_vB, ↓neg_vS, ↓neg_vF, ↓neg_vO, ↓neg_vA, ↓neg_vN, lit_nI, nI_leI, nI_ltI, nI_eq, jm_in_nI, nI_clamp, nI_add, n_mul, pk_sub, n_le_t, n_le_f, n_lt_t, n_lt_f, n_eq_t, n_eq_f, true_and, and_true, ne_eq, not_false_eq_true, not_true_eq_false, min_n, max_n, dif_n, n_rem, n_div, or_nI, shl_nI, Option.toList_some, Option.toList_none, List.singleton_append, List.nil_append, if_true, if_false, or_true, true_or, or_false, false_or, and_false, false_and, Bool.false_eq_true]
  refine c_readCamp (b := b) i13 (fun i hi => (hbs i hi).2.1) hn hb (fun T hC tf => ?_)
  obtain ⟨hP, hR⟩ := hC
  have t4 := hP.2.2.2
  have t3 := hP.2.2.1
  have f3 := ok4.1.2.1
  have m : ∀ (V : jm_I2), (∀ o, o = 128 ∨ o = 136 → V o = S o) → V 128 11 = nI n ∧ ∀ i, i < n → V 136 i = nI (b i) := fun V hV => ⟨by rw [hV 128 (by omega)]; exact i11, fun i hi => by rw [hV 136 (by omega)]; exact (hbs i hi).2.2⟩
  by_cases z : (pS4 b n).2.1 = 0
  · have hX15 := hR z
    obtain ⟨hD, h30, hpl⟩ := ok4.1.2.2 z
    have hk := ok4.2 z
    rw [z] at t4
    simp (disch := omega) only [w83_7, w83_8, w83_11, w83_12, w83_15, w83_16, w83_19, w83_22, w83_25, w83_26, w83_27, w83_30, w83_33, w83_36, w83_38, w83_39, w83_42, w83_45, w83_46, w83_47, w83_48, w83_51, w83_52, w83_55, w83_58, ht, ↓neg_vM, ↓neg_vB, ↓neg_vS, ↓neg_vF, ↓neg_vO, ↓neg_vA, ↓neg_vN, lit_nI, nI_leI, nI_ltI, nI_eq, jm_in_nI, nI_clamp, nI_add, n_mul, pk_sub, n_le_t, n_le_f, n_lt_t, n_lt_f, n_eq_t, n_eq_f, true_and, and_true, ne_eq, not_false_eq_true, not_true_eq_false, min_n, max_n, dif_n, n_rem, n_div, or_nI, shl_nI, Option.toList_some, Option.toList_none, List.singleton_append, List.nil_append, if_true, if_false, or_true, true_or, or_false, false_or, and_false, false_and, Bool.false_eq_true, t4, upd_at]
    refine c_become isC25 isC15 (by decide) (RX_of hX15 (fun o a1 a2 => upd_ne (by omega))) hD (fun T2 tX2 tf2 => ?_)
    have x3 := tX2.2.2.2.1
    simp (disch := omega) only [w83_61, w83_62, w83_65, w83_68, w83_69, w83_72, w83_75, ht, hs, ↓neg_vM, ↓neg_vB, ↓neg_vS, ↓neg_vF, ↓neg_vO, ↓neg_vA, ↓neg_vN, lit_nI, nI_leI, nI_ltI, nI_eq, jm_in_nI, nI_clamp, nI_add, n_mul, pk_sub, n_le_t, n_le_f, n_lt_t, n_lt_f, n_eq_t, n_eq_f, true_and, and_true, ne_eq, not_false_eq_true, not_true_eq_false, min_n, max_n, dif_n, n_rem, n_div, or_nI, shl_nI, Option.toList_some, Option.toList_none, List.singleton_append, List.nil_append, if_true, if_false, or_true, true_or, or_false, false_or, and_false, false_and, Bool.false_eq_true, c_forget, upd_at, x3, Zx_some]
    have fV : ∀ o, o ≠ 13 → o ≠ 56 → ¬ (15 ≤ o ∧ o ≤ 34) → jm_upd (jm_upd T2 56 1 (nI 0)) 56 2 (nI 0) o = S o := fun o a1 a2 a3 => by rw [upd_ne a2, upd_ne a2, tf2 o (by omega), upd_ne a1, tf o a1 (by omega)]
    obtain ⟨m1, m2⟩ := m _ (fun o ho => fV o (by omega) (by omega) (by omega))
    refine r_camp m1 m2 hn hb (fun q => absurd z q) (fun _ U hU => ?_)
    obtain ⟨u0, uM, u11, u18, u9, ui⟩ := hU
    rw [Zm_some]
    refine ⟨rfl, (pS4 b n).2.2, InvK_cp hI (fun o a1 a2 a3 a4 a5 a6 a7 => ?_) ?_ ?_ ?_ u11 ?_ ?_ ⟨?_, uM, hD, by omega, fun _ => by omega⟩ ?_⟩
    · unfold scr at a1
      rw [u0 o a6 (by omega) a7, fV o a3 a5 (by omega)]
    · rw [u0 0 (by decide) (by decide) (by decide), fV 0 (by decide) (by decide) (by omega)]
    · rw [u0 0 (by decide) (by decide) (by decide), fV 0 (by decide) (by decide) (by omega), u18, fV 128 (by decide) (by decide) (by omega)]
      exact hI.2.2.2.2.2.2.2.1
    · rw [u0 13 (by decide) (by decide) (by decide), upd_ne (by decide), upd_ne (by decide), tf2 13 (by omega), upd_at, if_pos ⟨rfl, rfl⟩]
    · rw [ui 1 (by omega), fV 128 (by decide) (by decide) (by omega)]
    · rw [ui 26 (by omega), fV 128 (by decide) (by decide) (by omega)]
    · exact RX_of tX2 (fun o a1 a2 => by rw [u0 o (by omega) (by omega) (by omega), upd_ne (by omega), upd_ne (by omega)])
    · refine IA_put (n := 0) (nx := 0) (f := fun _ => k) (by decide) ⟨?_, ?_, fun q hq => absurd hq (by omega)⟩ ⟨u9, fun q hq => absurd hq (by omega)⟩ ⟨by decide, fun q hq => absurd hq (by omega)⟩
      · rw [u0 56 (by decide) (by decide) (by decide), upd_at, if_pos ⟨rfl, rfl⟩]
      · rw [u0 56 (by decide) (by decide) (by decide), upd_at, if_neg (by omega), upd_at, if_pos ⟨rfl, rfl⟩]
  · simp (disch := omega) only [w83_7, w83_8, w83_11, w83_12, w83_15, w83_16, w83_19, w83_22, w83_25, w83_26, w83_27, w83_30, w83_33, w83_36, w83_38, w83_39, w83_42, w83_45, w83_46, ht, ↓neg_vM, ↓neg_vB, ↓neg_vS, ↓neg_vF, ↓neg_vO, ↓neg_vA, ↓neg_vN, lit_nI, nI_leI, nI_ltI, nI_eq, jm_in_nI, nI_clamp, nI_add, n_mul, pk_sub, n_le_t, n_le_f, n_lt_t, n_lt_f, n_eq_t, n_eq_f, true_and, and_true, ne_eq, not_false_eq_true, not_true_eq_false, min_n, max_n, dif_n, n_rem, n_div, or_nI, shl_nI, Option.toList_some, Option.toList_none, List.singleton_append, List.nil_append, if_true, if_false, or_true, true_or, or_false, false_or, and_false, false_and, Bool.false_eq_true, t4, t3, z, upd_at, Zx_some]
    have fV : ∀ o, o ≠ 0 → o ≠ 13 → ¬ (15 ≤ o ∧ o ≤ 24) → jm_upd (jm_upd T 13 1 (nI 0)) 0 8 (nI (pS4 b n).2.1) o = S o := fun o a1 a2 a3 => by rw [upd_ne a1, upd_ne a2, tf o a2 a3]
    obtain ⟨m1, m2⟩ := m _ (fun o ho => fV o (by omega) (by omega) (by omega))
    refine r_camp m1 m2 hn hb (fun _ U hU => ?_) (fun q => absurd q z)
    obtain ⟨u0, u11, u18, ui⟩ := hU
    rw [Zm_some]
    refine ⟨rfl, k, InvK_cp hI (fun o a1 a2 a3 a4 a5 a6 a7 => ?_) ?_ ?_ ?_ u11 ?_ ?_ (IC_of hI.2.2.2.1 (fun o a1 a2 => ?_) ?_) (IA_of hI.2.2.2.2.1 ?_ ?_ ?_ (fun o a1 a2 => ?_) ?_)⟩
    · unfold scr at a1
      rw [u0 o a6 (by omega), fV o a2 a3 (by omega)]
    · rw [u0 0 (by decide) (by decide), upd_at, if_neg (by omega), upd_ne (by decide), tf 0 (by decide) (by omega)]
    · rw [u0 0 (by decide) (by decide), upd_at, if_pos ⟨rfl, rfl⟩, u18]
    · rw [u0 13 (by decide) (by decide), upd_ne (by decide), upd_at, if_pos ⟨rfl, rfl⟩]
    · rw [ui 1 (by omega), fV 128 (by decide) (by decide) (by omega)]
    · rw [ui 26 (by omega), fV 128 (by decide) (by decide) (by omega)]
    · rw [u0 o (by omega) (by omega), fV o (by omega) (by omega) (by omega)]
    · rw [u0 132 (by decide) (by decide), fV 132 (by decide) (by decide) (by omega)]
    · rw [u0 56 (by decide) (by decide), fV 56 (by decide) (by decide) (by omega)]
    · rw [u0 56 (by decide) (by decide), fV 56 (by decide) (by decide) (by omega)]
    · rw [ui 9 (by omega), fV 128 (by decide) (by decide) (by omega)]
    · rw [u0 o (by omega) (by omega), fV o (by omega) (by omega) (by omega)]
    · rw [u0 135 (by decide) (by decide), fV 135 (by decide) (by decide) (by omega)]
end
