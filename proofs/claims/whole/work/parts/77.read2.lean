section
variable {xs : Nat → Int32} {L d : Nat} {S : jm_I2} {k : kT} {Z : Option Value → jm_I2 → Prop} {b : Nat → Nat} {n p f : Nat}
theorem c_clear {c : Nat} (hc : isCamp c) : CL L d 14 [.ref c] S Z ↔ Z none (jm_upd (jm_upd (jm_upd (jm_upd S c 0 (nI 0)) c 1 (nI 0)) c 2 (nI 0)) c 3 (nI 0)) := by
  have hs := camp_sh hc
  simp (disch := omega) only [cl14, w14_0, w14_1, w14_2, w14_5, w14_6, w14_7, w14_10, w14_11, w14_12, w14_15, w14_16, w14_17, w14_20, hs, ↓neg_vM, ↓neg_vB, ↓neg_vS, ↓neg_vF, ↓neg_vO, ↓neg_vA, ↓neg_vN, lit_nI, nI_leI, nI_ltI, nI_eq, jm_in_nI, nI_clamp, nI_add, n_mul, pk_sub, n_le_t, n_le_f, n_lt_t, n_lt_f, n_eq_t, n_eq_f, true_and, and_true, ne_eq, not_false_eq_true, not_true_eq_false, min_n, max_n, dif_n, n_rem, n_div, or_nI, shl_nI, Option.toList_some, Option.toList_none, List.singleton_append, List.nil_append, if_true, if_false, or_true, true_or, or_false, false_or, and_false, false_and, Bool.false_eq_true]
theorem pS1_ok (b : Nat → Nat) (n : Nat) : GS n (pS1 b n) ∧ ((pS1 b n).2.1 = 0 → (pS1 b n).2.2 1 = 1 ∧ (pS1 b n).2.2 0 = 0) := by
  have l1 : (fP1 b n).1 ≤ n ∧ (fP1 b n).2 ≤ 3 := pB_le (Nat.zero_le _) (by decide) (by decide)
  have l2 : (fP2 b n).1 ≤ n ∧ (fP2 b n).2 ≤ 3 := pN_le l1.1 l1.2
  have l3 : (fP3 b n).1 ≤ n ∧ (fP3 b n).2 ≤ 3 := pB_le l2.1 l2.2 (by decide)
  unfold pS1
  by_cases z : (fP3 b n).2 = 0
  · rw [if_pos z]
    have h2 : (fP2 b n).2 = 0 := (pB_z z).1
    have h3 := pN_z h2
    have hD : DV (kL b n) := by
      have e0 : kL b n 0 = 0 := kU_ne (by decide)
      have e1 : kL b n 1 = 0 := kU_ne (by decide)
      have e2 : kL b n 2 = nvl b n (fP1 b n).1 := kU_eq _ _ _
      have e3 : kL b n 3 = 0 := kU_ne (by decide)
      exact ⟨⟨by omega, by omega, by omega, by omega, fun h hh => by omega, fun r hr => by omega⟩, e3, fun h hh => kU_ne (by omega)⟩
    obtain ⟨a1, a2⟩ := GS_rH (b := b) l3.1 hD
    exact ⟨a1, fun q => by
      have := a2 q
      rw [show kL b n 1 = 0 from kU_ne (by decide), show kL b n 0 = 0 from kU_ne (by decide)] at this
      exact this⟩
  · rw [if_neg z]
    exact ⟨⟨l3.1, l3.2, fun q => absurd q z⟩, fun q => absurd q z⟩
theorem hnd_ok {b : Nat → Nat} {n : Nat} : ∀ g s, GS n s → (s.2.1 = 0 → 1 ≤ s.2.2 1 ∧ s.2.2 0 = 0) → GS n (hnd b n g s) ∧ ((hnd b n g s).2.1 = 0 → 1 ≤ (hnd b n g s).2.2 1 ∧ (hnd b n g s).2.2 0 = 0)
  | 0, s, h, h2 => ⟨h, h2⟩
  | g + 1, s, h, h2 => by
    rw [hnd]
    by_cases c : s.2.1 = 0 ∧ byt b n s.1 = 104
    · rw [if_pos c]
      obtain ⟨a1, a2⟩ := GS_rH (b := b) h.1 (h.2.2 c.1)
      have := h2 c.1
      exact hnd_ok g _ a1 (fun q => by have := a2 q; omega)
    · rw [if_neg c]
      exact ⟨h, h2⟩
theorem rul_ok {b : Nat → Nat} {n : Nat} : ∀ g s, GS n s → (s.2.1 = 0 → 1 ≤ s.2.2 1 ∧ 1 ≤ s.2.2 0) → GS n (rul b n g s) ∧ ((rul b n g s).2.1 = 0 → 1 ≤ (rul b n g s).2.2 1 ∧ 1 ≤ (rul b n g s).2.2 0)
  | 0, s, h, h2 => ⟨h, h2⟩
  | g + 1, s, h, h2 => by
    rw [rul]
    by_cases c : s.2.1 = 0 ∧ s.1 < n
    · rw [if_pos c]
      obtain ⟨a1, a2⟩ := GS_rR (b := b) h.1 (h.2.2 c.1)
      have := h2 c.1
      exact rul_ok g _ a1 (fun q => by have := a2 q; omega)
    · rw [if_neg c]
      exact ⟨h, h2⟩
theorem pS2_ok (b : Nat → Nat) (n : Nat) : GS n (pS2 b n) ∧ ((pS2 b n).2.1 = 0 → 1 ≤ (pS2 b n).2.2 1 ∧ (pS2 b n).2.2 0 = 0) := by
  obtain ⟨a, c⟩ := pS1_ok b n
  exact hnd_ok 5 _ a (fun q => by have := c q; omega)
theorem pS3_ok (b : Nat → Nat) (n : Nat) : GS n (pS3 b n) ∧ ((pS3 b n).2.1 = 0 → 1 ≤ (pS3 b n).2.2 1 ∧ (pS3 b n).2.2 0 = 1) := by
  obtain ⟨a, c⟩ := pS2_ok b n
  unfold pS3
  by_cases z : (pS2 b n).2.1 = 0
  · rw [if_pos z]
    obtain ⟨a1, a2⟩ := GS_rR (b := b) a.1 (a.2.2 z)
    have := c z
    exact ⟨a1, fun q => by have := a2 q; omega⟩
  · rw [if_neg z]
    exact ⟨a, fun q => absurd q z⟩
theorem pS4_ok (b : Nat → Nat) (n : Nat) : GS n (pS4 b n) ∧ ((pS4 b n).2.1 = 0 → 1 ≤ (pS4 b n).2.2 1 ∧ 1 ≤ (pS4 b n).2.2 0) := by
  obtain ⟨a, c⟩ := pS3_ok b n
  exact rul_ok 5 _ a (fun q => by have := c q; omega)
/-- the class's state of reading -/
def CS (b : Nat → Nat) (n : Nat) (s : Nat × Nat × kT) (T : jm_I2) : Prop := CP b n s.1 s.2.1 T ∧ (s.2.1 = 0 → RX 15 T s.2.2)
theorem c_hands6 (hn : n ≤ 120) (hb : ∀ i, i < n → b i ≤ 255) : ∀ g i s T, i + g = 6 → 1 ≤ i → GS n s → CS b n s T → offK S T → (∀ T u, CS b n (hnd b n g s) T → offK S T → WQ L (d + 5) 51 81 [.ref 13, u] [] T Z) → WQ L (d + 5) 51 46 [.ref 13, .int (nI i)] [] T Z
  | 0, i, s, T, hi, h1, hG, hC, tf, hZ => by
    have ht := top_sh L
    rw [w51_46]
    simp (disch := omega) only [w51_47, w51_48, ht, ↓neg_vM, ↓neg_vB, ↓neg_vS, ↓neg_vF, ↓neg_vO, ↓neg_vA, ↓neg_vN, lit_nI, nI_leI, nI_ltI, nI_eq, jm_in_nI, nI_clamp, nI_add, n_mul, pk_sub, n_le_t, n_le_f, n_lt_t, n_lt_f, n_eq_t, n_eq_f, true_and, and_true, ne_eq, not_false_eq_true, not_true_eq_false, min_n, max_n, dif_n, n_rem, n_div, or_nI, shl_nI, Option.toList_some, Option.toList_none, List.singleton_append, List.nil_append, if_true, if_false, or_true, true_or, or_false, false_or, and_false, false_and, Bool.false_eq_true]
    exact hZ T _ hC tf
  | g + 1, i, s, T, hi, h1, hG, hC, tf, hZ => by
    have ht := top_sh L
    obtain ⟨hP, hR⟩ := hC
    have h4 := hP.2.2.2
    have s1 := hG.1
    have s3 := hG.2.1
    rw [hnd] at hZ
    rw [w51_46]
    by_cases z : s.2.1 = 0
    · rw [z] at hP h4
      by_cases c : byt b n s.1 = 104
      · rw [if_pos ⟨z, c⟩] at hZ
        simp (disch := omega) only [w51_47, w51_48, w51_51, w51_52, w51_55, w51_58, w51_59, w51_62, w51_63, w51_66, w51_68, w51_71, w51_72, ht, ↓neg_vM, ↓neg_vB, ↓neg_vS, ↓neg_vF, ↓neg_vO, ↓neg_vA, ↓neg_vN, lit_nI, nI_leI, nI_ltI, nI_eq, jm_in_nI, nI_clamp, nI_add, n_mul, pk_sub, n_le_t, n_le_f, n_lt_t, n_lt_f, n_eq_t, n_eq_f, true_and, and_true, ne_eq, not_false_eq_true, not_true_eq_false, min_n, max_n, dif_n, n_rem, n_div, or_nI, shl_nI, Option.toList_some, Option.toList_none, List.singleton_append, List.nil_append, if_true, if_false, or_true, true_or, or_false, false_or, and_false, false_and, Bool.false_eq_true, h4, c_next hP hn, bI_eq hb, c]
        refine c_readHand hP (hR z) (hG.2.2 z) hn s1 hb (fun T2 q1 q2 tf2 => ?_)
        simp (disch := omega) only [w51_75, w51_78, ht, ↓neg_vM, ↓neg_vB, ↓neg_vS, ↓neg_vF, ↓neg_vO, ↓neg_vA, ↓neg_vN, lit_nI, nI_leI, nI_ltI, nI_eq, jm_in_nI, nI_clamp, nI_add, n_mul, pk_sub, n_le_t, n_le_f, n_lt_t, n_lt_f, n_eq_t, n_eq_f, true_and, and_true, ne_eq, not_false_eq_true, not_true_eq_false, min_n, max_n, dif_n, n_rem, n_div, or_nI, shl_nI, Option.toList_some, Option.toList_none, List.singleton_append, List.nil_append, if_true, if_false, or_true, true_or, or_false, false_or, and_false, false_and, Bool.false_eq_true, kl_ref]
        exact c_hands6 hn hb g (i + 1) (rH b n s.1 s.2.2) T2 (by omega) (by omega) (GS_rH s1 (hG.2.2 z)).1 ⟨q1, q2⟩ (fun o a1 a2 => by rw [tf2 o a1 a2, tf o a1 a2]) hZ
      · rw [if_neg (fun q => c q.2)] at hZ
        simp (disch := omega) only [w51_47, w51_48, w51_51, w51_52, w51_55, w51_58, w51_59, w51_62, w51_63, w51_66, w51_68, w51_71, w51_72, ht, ↓neg_vM, ↓neg_vB, ↓neg_vS, ↓neg_vF, ↓neg_vO, ↓neg_vA, ↓neg_vN, lit_nI, nI_leI, nI_ltI, nI_eq, jm_in_nI, nI_clamp, nI_add, n_mul, pk_sub, n_le_t, n_le_f, n_lt_t, n_lt_f, n_eq_t, n_eq_f, true_and, and_true, ne_eq, not_false_eq_true, not_true_eq_false, min_n, max_n, dif_n, n_rem, n_div, or_nI, shl_nI, Option.toList_some, Option.toList_none, List.singleton_append, List.nil_append, if_true, if_false, or_true, true_or, or_false, false_or, and_false, false_and, Bool.false_eq_true, h4, c_next hP hn, bI_eq hb, c]
        exact hZ T _ ⟨by rw [z]; exact hP, hR⟩ tf
    · rw [if_neg (fun q => z q.1)] at hZ
      simp (disch := omega) only [w51_47, w51_48, w51_51, w51_52, w51_55, ht, ↓neg_vM, ↓neg_vB, ↓neg_vS, ↓neg_vF, ↓neg_vO, ↓neg_vA, ↓neg_vN, lit_nI, nI_leI, nI_ltI, nI_eq, jm_in_nI, nI_clamp, nI_add, n_mul, pk_sub, n_le_t, n_le_f, n_lt_t, n_lt_f, n_eq_t, n_eq_f, true_and, and_true, ne_eq, not_false_eq_true, not_true_eq_false, min_n, max_n, dif_n, n_rem, n_div, or_nI, shl_nI, Option.toList_some, Option.toList_none, List.singleton_append, List.nil_append, if_true, if_false, or_true, true_or, or_false, false_or, and_false, false_and, Bool.false_eq_true, h4, z]
      exact hZ T _ ⟨hP, hR⟩ tf
theorem c_rules6 (hn : n ≤ 120) (hb : ∀ i, i < n → b i ≤ 255) : ∀ g i s T, i + g = 6 → 1 ≤ i → GS n s → CS b n s T → offK S T → (∀ T u, CS b n (rul b n g s) T → offK S T → WQ L (d + 5) 51 117 [.ref 13, u] [] T Z) → WQ L (d + 5) 51 83 [.ref 13, .int (nI i)] [] T Z
  | 0, i, s, T, hi, h1, hG, hC, tf, hZ => by
    have ht := top_sh L
    rw [w51_83]
    simp (disch := omega) only [w51_84, w51_85, ht, ↓neg_vM, ↓neg_vB, ↓neg_vS, ↓neg_vF, ↓neg_vO, ↓neg_vA, ↓neg_vN, lit_nI, nI_leI, nI_ltI, nI_eq, jm_in_nI, nI_clamp, nI_add, n_mul, pk_sub, n_le_t, n_le_f, n_lt_t, n_lt_f, n_eq_t, n_eq_f, true_and, and_true, ne_eq, not_false_eq_true, not_true_eq_false, min_n, max_n, dif_n, n_rem, n_div, or_nI, shl_nI, Option.toList_some, Option.toList_none, List.singleton_append, List.nil_append, if_true, if_false, or_true, true_or, or_false, false_or, and_false, false_and, Bool.false_eq_true]
    exact hZ T _ hC tf
  | g + 1, i, s, T, hi, h1, hG, hC, tf, hZ => by
    have ht := top_sh L
    obtain ⟨hP, hR⟩ := hC
    have h4 := hP.2.2.2
    have s1 := hG.1
    have s3 := hG.2.1
    rw [rul] at hZ
    rw [w51_83]
    by_cases z : s.2.1 = 0
    · rw [z] at hP h4
      by_cases c : s.1 < n
      · rw [if_pos ⟨z, c⟩] at hZ
        simp (disch := omega) only [w51_84, w51_85, w51_88, w51_89, w51_92, w51_95, w51_96, w51_99, w51_100, w51_103, w51_104, w51_107, w51_108, ht, ↓neg_vM, ↓neg_vB, ↓neg_vS, ↓neg_vF, ↓neg_vO, ↓neg_vA, ↓neg_vN, lit_nI, nI_leI, nI_ltI, nI_eq, jm_in_nI, nI_clamp, nI_add, n_mul, pk_sub, n_le_t, n_le_f, n_lt_t, n_lt_f, n_eq_t, n_eq_f, true_and, and_true, ne_eq, not_false_eq_true, not_true_eq_false, min_n, max_n, dif_n, n_rem, n_div, or_nI, shl_nI, Option.toList_some, Option.toList_none, List.singleton_append, List.nil_append, if_true, if_false, or_true, true_or, or_false, false_or, and_false, false_and, Bool.false_eq_true, h4, c_next hP hn, bI_vM hb, c]
        refine c_readRule hP (hR z) (hG.2.2 z) hn s1 hb (fun T2 q1 q2 tf2 => ?_)
        simp (disch := omega) only [w51_111, w51_114, ht, ↓neg_vM, ↓neg_vB, ↓neg_vS, ↓neg_vF, ↓neg_vO, ↓neg_vA, ↓neg_vN, lit_nI, nI_leI, nI_ltI, nI_eq, jm_in_nI, nI_clamp, nI_add, n_mul, pk_sub, n_le_t, n_le_f, n_lt_t, n_lt_f, n_eq_t, n_eq_f, true_and, and_true, ne_eq, not_false_eq_true, not_true_eq_false, min_n, max_n, dif_n, n_rem, n_div, or_nI, shl_nI, Option.toList_some, Option.toList_none, List.singleton_append, List.nil_append, if_true, if_false, or_true, true_or, or_false, false_or, and_false, false_and, Bool.false_eq_true, kl_ref]
        exact c_rules6 hn hb g (i + 1) (rR b n s.1 s.2.2) T2 (by omega) (by omega) (GS_rR s1 (hG.2.2 z)).1 ⟨q1, q2⟩ (fun o a1 a2 => by rw [tf2 o a1 a2, tf o a1 a2]) hZ
      · rw [if_neg (fun q => c q.2)] at hZ
        simp (disch := omega) only [w51_84, w51_85, w51_88, w51_89, w51_92, w51_95, w51_96, w51_99, w51_100, w51_103, w51_104, w51_107, w51_108, ht, ↓neg_vM, ↓neg_vB, ↓neg_vS, ↓neg_vF, ↓neg_vO, ↓neg_vA, ↓neg_vN, lit_nI, nI_leI, nI_ltI, nI_eq, jm_in_nI, nI_clamp, nI_add, n_mul, pk_sub, n_le_t, n_le_f, n_lt_t, n_lt_f, n_eq_t, n_eq_f, true_and, and_true, ne_eq, not_false_eq_true, not_true_eq_false, min_n, max_n, dif_n, n_rem, n_div, or_nI, shl_nI, Option.toList_some, Option.toList_none, List.singleton_append, List.nil_append, if_true, if_false, or_true, true_or, or_false, false_or, and_false, false_and, Bool.false_eq_true, h4, c_next hP hn, bI_vM hb, c]
        exact hZ T _ ⟨by rw [z]; exact hP, hR⟩ tf
    · rw [if_neg (fun q => z q.1)] at hZ
      simp (disch := omega) only [w51_84, w51_85, w51_88, w51_89, w51_92, ht, ↓neg_vM, ↓neg_vB, ↓neg_vS, ↓neg_vF, ↓neg_vO, ↓neg_vA, ↓neg_vN, lit_nI, nI_leI, nI_ltI, nI_eq, jm_in_nI, nI_clamp, nI_add, n_mul, pk_sub, n_le_t, n_le_f, n_lt_t, n_lt_f, n_eq_t, n_eq_f, true_and, and_true, ne_eq, not_false_eq_true, not_true_eq_false, min_n, max_n, dif_n, n_rem, n_div, or_nI, shl_nI, Option.toList_some, Option.toList_none, List.singleton_append, List.nil_append, if_true, if_false, or_true, true_or, or_false, false_or, and_false, false_and, Bool.false_eq_true, h4, z]
      exact hZ T _ ⟨hP, hR⟩ tf
set_option maxHeartbeats 8000000 in
theorem c_readCamp (h1 : S 13 1 = nI n) (h2 : ∀ i, i < n → S 14 i = nI (b i)) (hn : n ≤ 120) (hb : ∀ i, i < n → b i ≤ 255) (hZ : ∀ T, CS b n (pS4 b n) T → offK S T → Z none T) : CL L (d + 5) 51 [.ref 13] S Z := by
  have ht := top_sh L
  have hs := camp_sh isC15
  have l1 : (fP1 b n).1 ≤ n ∧ (fP1 b n).2 ≤ 3 := pB_le (Nat.zero_le _) (by decide) (by decide)
  have l2 : (fP2 b n).1 ≤ n ∧ (fP2 b n).2 ≤ 3 := pN_le l1.1 l1.2
  have l3 : (fP3 b n).1 ≤ n ∧ (fP3 b n).2 ≤ 3 := pB_le l2.1 l2.2 (by decide)
  -- the rules, from what the hands left
  have R : ∀ T u, CS b n (pS2 b n) T → offK S T → WQ L (d + 5) 51 81 [.ref 13, u] [] T Z := by
    intro T u hC tf
    obtain ⟨hG, -⟩ := pS2_ok b n
    obtain ⟨hG3, -⟩ := pS3_ok b n
    obtain ⟨hP, hR⟩ := hC
    have h4 := hP.2.2.2
    have s3 := hG.2.1
    have fin : ∀ T, CS b n (pS3 b n) T → offK S T → WQ L (d + 5) 51 83 [.ref 13, .int (nI 1)] [] T Z := fun T hC tf => c_rules6 hn hb 5 1 (pS3 b n) T (by omega) (by omega) hG3 hC tf (fun T u hC tf => by
      simp (disch := omega) only [w51_117, ht, ↓neg_vM, ↓neg_vB, ↓neg_vS, ↓neg_vF, ↓neg_vO, ↓neg_vA, ↓neg_vN, lit_nI, nI_leI, nI_ltI, nI_eq, jm_in_nI, nI_clamp, nI_add, n_mul, pk_sub, n_le_t, n_le_f, n_lt_t, n_lt_f, n_eq_t, n_eq_f, true_and, and_true, ne_eq, not_false_eq_true, not_true_eq_false, min_n, max_n, dif_n, n_rem, n_div, or_nI, shl_nI, Option.toList_some, Option.toList_none, List.singleton_append, List.nil_append, if_true, if_false, or_true, true_or, or_false, false_or, and_false, false_and, Bool.false_eq_true]
      exact hZ T hC tf)
    have hz4 := hZ
    unfold pS4 at hz4
    unfold pS3 at fin hz4
    by_cases z : (pS2 b n).2.1 = 0
    · rw [if_pos z] at fin
      rw [z] at hP h4
      simp (disch := omega) only [w51_81, w51_82, w51_83, w51_84, w51_85, w51_88, w51_89, w51_92, w51_95, w51_96, w51_99, w51_100, w51_103, w51_104, w51_107, w51_108, ht, ↓neg_vM, ↓neg_vB, ↓neg_vS, ↓neg_vF, ↓neg_vO, ↓neg_vA, ↓neg_vN, lit_nI, nI_leI, nI_ltI, nI_eq, jm_in_nI, nI_clamp, nI_add, n_mul, pk_sub, n_le_t, n_le_f, n_lt_t, n_lt_f, n_eq_t, n_eq_f, true_and, and_true, ne_eq, not_false_eq_true, not_true_eq_false, min_n, max_n, dif_n, n_rem, n_div, or_nI, shl_nI, Option.toList_some, Option.toList_none, List.singleton_append, List.nil_append, if_true, if_false, or_true, true_or, or_false, false_or, and_false, false_and, Bool.false_eq_true, h4, kl_ref]
      refine c_readRule hP (hR z) (hG.2.2 z) hn hG.1 hb (fun T2 q1 q2 tf2 => ?_)
      simp (disch := omega) only [w51_111, w51_114, ht, ↓neg_vM, ↓neg_vB, ↓neg_vS, ↓neg_vF, ↓neg_vO, ↓neg_vA, ↓neg_vN, lit_nI, nI_leI, nI_ltI, nI_eq, jm_in_nI, nI_clamp, nI_add, n_mul, pk_sub, n_le_t, n_le_f, n_lt_t, n_lt_f, n_eq_t, n_eq_f, true_and, and_true, ne_eq, not_false_eq_true, not_true_eq_false, min_n, max_n, dif_n, n_rem, n_div, or_nI, shl_nI, Option.toList_some, Option.toList_none, List.singleton_append, List.nil_append, if_true, if_false, or_true, true_or, or_false, false_or, and_false, false_and, Bool.false_eq_true, kl_ref]
      exact fin T2 ⟨q1, q2⟩ (fun o a1 a2 => by rw [tf2 o a1 a2, tf o a1 a2])
    · rw [if_neg z, rul, if_neg (fun q => z q.1)] at hz4
      simp (disch := omega) only [w51_81, w51_82, w51_83, w51_84, w51_85, w51_88, w51_89, w51_92, w51_95, w51_117, ht, ↓neg_vM, ↓neg_vB, ↓neg_vS, ↓neg_vF, ↓neg_vO, ↓neg_vA, ↓neg_vN, lit_nI, nI_leI, nI_ltI, nI_eq, jm_in_nI, nI_clamp, nI_add, n_mul, pk_sub, n_le_t, n_le_f, n_lt_t, n_lt_f, n_eq_t, n_eq_f, true_and, and_true, ne_eq, not_false_eq_true, not_true_eq_false, min_n, max_n, dif_n, n_rem, n_div, or_nI, shl_nI, Option.toList_some, Option.toList_none, List.singleton_append, List.nil_append, if_true, if_false, or_true, true_or, or_false, false_or, and_false, false_and, Bool.false_eq_true, h4, z, kl_ref]
      exact hz4 T ⟨hP, hR⟩ tf
  -- the hands, from what the head left
  have H : ∀ T u, CP b n (fP3 b n).1 (fP3 b n).2 T → ((fP3 b n).2 = 0 → RX 15 T (kL b n)) → offK S T → WQ L (d + 5) 51 44 [.ref 13, u] [] T Z := by
    intro T u hP hR tf
    obtain ⟨hG1, -⟩ := pS1_ok b n
    have h4 := hP.2.2.2
    have fin : ∀ T, CS b n (pS1 b n) T → offK S T → WQ L (d + 5) 51 46 [.ref 13, .int (nI 1)] [] T Z := fun T hC tf => c_hands6 hn hb 5 1 (pS1 b n) T (by omega) (by omega) hG1 hC tf R
    have hR4 := R
    unfold pS2 at hR4
    unfold pS1 at fin hR4
    by_cases z : (fP3 b n).2 = 0
    · rw [if_pos z] at fin
      rw [z] at hP h4
      have h2 : (fP2 b n).2 = 0 := (pB_z z).1
      have h3 := pN_z h2
      have hD : DV (kL b n) := by
        have e0 : kL b n 0 = 0 := kU_ne (by decide)
        have e1 : kL b n 1 = 0 := kU_ne (by decide)
        have e2 : kL b n 2 = nvl b n (fP1 b n).1 := kU_eq _ _ _
        have e3 : kL b n 3 = 0 := kU_ne (by decide)
        exact ⟨⟨by omega, by omega, by omega, by omega, fun h hh => by omega, fun r hr => by omega⟩, e3, fun h hh => kU_ne (by omega)⟩
      simp (disch := omega) only [w51_44, w51_45, w51_46, w51_47, w51_48, w51_51, w51_52, w51_55, w51_58, w51_59, w51_62, w51_63, w51_66, w51_68, w51_71, w51_72, ht, ↓neg_vM, ↓neg_vB, ↓neg_vS, ↓neg_vF, ↓neg_vO, ↓neg_vA, ↓neg_vN, lit_nI, nI_leI, nI_ltI, nI_eq, jm_in_nI, nI_clamp, nI_add, n_mul, pk_sub, n_le_t, n_le_f, n_lt_t, n_lt_f, n_eq_t, n_eq_f, true_and, and_true, ne_eq, not_false_eq_true, not_true_eq_false, min_n, max_n, dif_n, n_rem, n_div, or_nI, shl_nI, Option.toList_some, Option.toList_none, List.singleton_append, List.nil_append, if_true, if_false, or_true, true_or, or_false, false_or, and_false, false_and, Bool.false_eq_true, h4, kl_ref]
      refine c_readHand hP (hR z) hD hn l3.1 hb (fun T2 q1 q2 tf2 => ?_)
      simp (disch := omega) only [w51_75, w51_78, ht, ↓neg_vM, ↓neg_vB, ↓neg_vS, ↓neg_vF, ↓neg_vO, ↓neg_vA, ↓neg_vN, lit_nI, nI_leI, nI_ltI, nI_eq, jm_in_nI, nI_clamp, nI_add, n_mul, pk_sub, n_le_t, n_le_f, n_lt_t, n_lt_f, n_eq_t, n_eq_f, true_and, and_true, ne_eq, not_false_eq_true, not_true_eq_false, min_n, max_n, dif_n, n_rem, n_div, or_nI, shl_nI, Option.toList_some, Option.toList_none, List.singleton_append, List.nil_append, if_true, if_false, or_true, true_or, or_false, false_or, and_false, false_and, Bool.false_eq_true, kl_ref]
      exact fin T2 ⟨q1, q2⟩ (fun o a1 a2 => by rw [tf2 o a1 a2, tf o a1 a2])
    · rw [if_neg z, hnd, if_neg (fun q => z q.1)] at hR4
      simp (disch := omega) only [w51_44, w51_45, w51_46, w51_47, w51_48, w51_51, w51_52, w51_55, ht, ↓neg_vM, ↓neg_vB, ↓neg_vS, ↓neg_vF, ↓neg_vO, ↓neg_vA, ↓neg_vN, lit_nI, nI_leI, nI_ltI, nI_eq, jm_in_nI, nI_clamp, nI_add, n_mul, pk_sub, n_le_t, n_le_f, n_lt_t, n_lt_f, n_eq_t, n_eq_f, true_and, and_true, ne_eq, not_false_eq_true, not_true_eq_false, min_n, max_n, dif_n, n_rem, n_div, or_nI, shl_nI, Option.toList_some, Option.toList_none, List.singleton_append, List.nil_append, if_true, if_false, or_true, true_or, or_false, false_or, and_false, false_and, Bool.false_eq_true, h4, z, kl_ref]
      exact hR4 T _ ⟨hP, fun q => absurd q z⟩ tf
  simp (disch := omega) only [cl51, w51_0, w51_1, w51_2, w51_5, w51_6, w51_7, w51_10, w51_11, w51_14, w51_17, w51_18, w51_20, ht, hs, ↓neg_vM, ↓neg_vB, ↓neg_vS, ↓neg_vF, ↓neg_vO, ↓neg_vA, ↓neg_vN, lit_nI, nI_leI, nI_ltI, nI_eq, jm_in_nI, nI_clamp, nI_add, n_mul, pk_sub, n_le_t, n_le_f, n_lt_t, n_lt_f, n_eq_t, n_eq_f, true_and, and_true, ne_eq, not_false_eq_true, not_true_eq_false, min_n, max_n, dif_n, n_rem, n_div, or_nI, shl_nI, Option.toList_some, Option.toList_none, List.singleton_append, List.nil_append, if_true, if_false, or_true, true_or, or_false, false_or, and_false, false_and, Bool.false_eq_true, c_clear isC15]
  generalize hS0 : jm_upd (jm_upd (jm_upd (jm_upd (jm_upd (jm_upd S 13 3 (nI 0)) 13 4 (nI 0)) 15 0 (nI 0)) 15 1 (nI 0)) 15 2 (nI 0)) 15 3 (nI 0) = S0
  have h0 : CP b n 0 0 S0 := by
    rw [← hS0]
    refine ⟨?_, fun i hi => ?_, ?_, ?_⟩
    · simp (disch := omega) only [upd_at, row_at, n_eq_f, n_eq_t, and_true, true_and, and_false, false_and, and_self, if_true, if_false,  h1]
    · simp (disch := omega) only [upd_at, row_at, n_eq_f, n_eq_t, and_true, true_and, and_false, false_and, and_self, if_true, if_false,  h2 i hi]
    · simp (disch := omega) only [upd_at, row_at, n_eq_f, n_eq_t, and_true, true_and, and_false, false_and, and_self, if_true, if_false,  h1]
    · simp (disch := omega) only [upd_at, row_at, n_eq_f, n_eq_t, and_true, true_and, and_false, false_and, and_self, if_true, if_false,  h1]
  have z0 : S0 15 0 = nI 0 ∧ S0 15 1 = nI 0 ∧ S0 15 2 = nI 0 ∧ S0 15 3 = nI 0 := by
    rw [← hS0]
    simp (disch := omega) only [upd_at, row_at, n_eq_f, n_eq_t, and_true, true_and, and_false, false_and, and_self, if_true, if_false,  h1]
  have f0 : offK S S0 := fun o a1 a2 => by rw [← hS0, upd_ne (by omega), upd_ne (by omega), upd_ne (by omega), upd_ne (by omega), upd_ne (by omega), upd_ne (by omega)]
  refine c_readByte h0 hn (Nat.zero_le _) (by decide) hb (by decide) (fun T1 q1 f1 => ?_)
  simp (disch := omega) only [w51_23, w51_24, w51_27, w51_28, w51_30, w51_32, ht, hs, ↓neg_vM, ↓neg_vB, ↓neg_vS, ↓neg_vF, ↓neg_vO, ↓neg_vA, ↓neg_vN, lit_nI, nI_leI, nI_ltI, nI_eq, jm_in_nI, nI_clamp, nI_add, n_mul, pk_sub, n_le_t, n_le_f, n_lt_t, n_lt_f, n_eq_t, n_eq_f, true_and, and_true, ne_eq, not_false_eq_true, not_true_eq_false, min_n, max_n, dif_n, n_rem, n_div, or_nI, shl_nI, Option.toList_some, Option.toList_none, List.singleton_append, List.nil_append, if_true, if_false, or_true, true_or, or_false, false_or, and_false, false_and, Bool.false_eq_true]
  refine c_readNumber q1 hn l1.1 l1.2 hb (by decide) (by decide) (fun T2 v q2 hv f2 => ?_)
  simp (disch := omega) only [w51_35, w51_38, w51_39, w51_41, ht, hs, ↓neg_vM, ↓neg_vB, ↓neg_vS, ↓neg_vF, ↓neg_vO, ↓neg_vA, ↓neg_vN, lit_nI, nI_leI, nI_ltI, nI_eq, jm_in_nI, nI_clamp, nI_add, n_mul, pk_sub, n_le_t, n_le_f, n_lt_t, n_lt_f, n_eq_t, n_eq_f, true_and, and_true, ne_eq, not_false_eq_true, not_true_eq_false, min_n, max_n, dif_n, n_rem, n_div, or_nI, shl_nI, Option.toList_some, Option.toList_none, List.singleton_append, List.nil_append, if_true, if_false, or_true, true_or, or_false, false_or, and_false, false_and, Bool.false_eq_true]
  have q2' : CP b n (fP2 b n).1 (fP2 b n).2 (jm_upd T2 15 0 v) := CP_of q2 (upd_ne (by decide)) (upd_ne (by decide))
  refine c_readByte q2' hn l2.1 l2.2 hb (by decide) (fun T3 q3 f3 => ?_)
  simp only [Option.toList_none, List.nil_append]
  refine H T3 _ q3 (fun z => ?_) (fun o a1 a2 => by rw [f3 o a1, upd_ne (by omega), f2 o a1, f1 o a1, f0 o a1 a2])
  have ev : v = nI (nvl b n (fP1 b n).1) := hv (pB_z z).1
  have e0 : kL b n 0 = 0 := kU_ne (by decide)
  have e1 : kL b n 1 = 0 := kU_ne (by decide)
  have e2 : kL b n 2 = nvl b n (fP1 b n).1 := kU_eq _ _ _
  have e3 : kL b n 3 = 0 := kU_ne (by decide)
  unfold RX
  rw [e0, e1, e2, e3, f3 15 (by decide)]
  refine ⟨?_, ?_, ?_, ?_, fun h hh => absurd hh (by omega), fun r hr => absurd hr (by omega)⟩
  · rw [upd_at, if_pos ⟨rfl, rfl⟩, ev]
  · rw [upd_at, if_neg (by omega), f2 15 (by decide), f1 15 (by decide)]; exact z0.2.1
  · rw [upd_at, if_neg (by omega), f2 15 (by decide), f1 15 (by decide)]; exact z0.2.2.1
  · rw [upd_at, if_neg (by omega), f2 15 (by decide), f1 15 (by decide)]; exact z0.2.2.2
end
