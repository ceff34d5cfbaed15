/-! ===== turns of two ===== -/
def apT (k : kT) (t r h : Nat) : kT := if h < k 1 then kU k (4 + 2 * h + 1) (if t % 2 = 0 then r + 1 else 0) else k
def tvN (r m : Nat) : Nat → Nat → kT → Nat
  | 0, _, k => kBt (hoursA k m) r
  | j + 1, t, k => if t % 2 = 0 then max (max (max (tvN r m j (t + 1) (apT k t r 0)) (tvN r m j (t + 1) (apT k t r 2))) (tvN r m j (t + 1) (apT k t r 4))) (tvN r m j (t + 1) (apT k t r 6)) else min (min (tvN r m j (t + 1) (apT k t r 1)) (tvN r m j (t + 1) (apT k t r 3))) (tvN r m j (t + 1) (apT k t r 5))
def okT (r m : Nat) (k : kT) : Prop := KV k ∧ r < k 0 ∧ 0 < k 1 ∧ k 3 + m ≤ 100000
theorem apT_low {k : kT} {t r h i : Nat} (hi : i < 4) : apT k t r h i = k i := by
  unfold apT
  split
  · exact kU_ne (by omega)
  · rfl
theorem okT_ap {r m : Nat} {k : kT} (h : okT r m k) (t g : Nat) : okT r m (apT k t r g) := by
  obtain ⟨h1, h2, h3, h4⟩ := h
  refine ⟨?_, by rw [apT_low (by decide)]; exact h2, by rw [apT_low (by decide)]; exact h3, by rw [apT_low (by decide)]; exact h4⟩
  unfold apT
  have v1 := h1.2.1
  by_cases c : g < k 1
  · rw [if_pos c]
    by_cases c2 : t % 2 = 0
    · rw [if_pos c2]
      exact KV_U h1 (by omega) (fun _ _ _ => by omega) (fun _ _ _ => by omega) (fun _ _ _ => by omega) (fun _ _ _ => by omega) (fun _ _ _ => by omega) (fun _ _ _ => by omega)
    · rw [if_neg c2]
      exact KV_U h1 (by omega) (fun _ _ _ => by omega) (fun _ _ _ => by omega) (fun _ _ _ => by omega) (fun _ _ _ => by omega) (fun _ _ _ => by omega) (fun _ _ _ => by omega)
  · rw [if_neg c]; exact h1
theorem tvN_le {r m : Nat} : ∀ {j t : Nat} {k : kT}, okT r m k → tvN r m j t k ≤ 60
  | 0, t, k, h => by
    obtain ⟨h1, h2, h3, h4⟩ := h
    exact ((KV_hours h1 m h4).2.2.2.2.2 r (by rw [(hoursA_low k m).1]; exact h2)).2.2.1
  | j + 1, t, k, h => by
    have a0 := tvN_le (j := j) (t := t + 1) (okT_ap h t 0)
    have a2 := tvN_le (j := j) (t := t + 1) (okT_ap h t 2)
    have a4 := tvN_le (j := j) (t := t + 1) (okT_ap h t 4)
    have a6 := tvN_le (j := j) (t := t + 1) (okT_ap h t 6)
    have a1 := tvN_le (j := j) (t := t + 1) (okT_ap h t 1)
    rw [tvN]
    split <;> omega
/-- the class's loop over hands -/
def lpF (mx : Bool) (b : Nat → Nat) (n : Nat) : Nat → Nat → Nat → Nat
  | 0, _, f => f
  | g + 1, h, f => if h < n then lpF mx b n g (h + 2) (if mx = true then max f (b h) else min (b h) f) else f
theorem lpF_tv {r m j t : Nat} {k : kT} (h5 : k 1 ≤ 5) (he : t % 2 = 0) : lpF true (fun h => tvN r m j (t + 1) (apT k t r h)) (k 1) 3 0 (tvN r m j (t + 1) k) = tvN r m (j + 1) t k := by
  rw [tvN, if_pos he]
  have q : ∀ h, k 1 ≤ h → apT k t r h = k := fun h hh => by unfold apT; rw [if_neg (by omega)]
  rw [q 6 (by omega)]
  simp only [lpF, if_true, Nat.reduceAdd]
  by_cases c0 : 0 < k 1
  · rw [if_pos c0]
    by_cases c2 : 2 < k 1
    · rw [if_pos c2]
      by_cases c4 : 4 < k 1
      · rw [if_pos c4]
        omega
      · rw [if_neg c4, q 4 (by omega)]
        omega
    · rw [if_neg c2, q 4 (by omega), q 2 (by omega)]
      omega
  · rw [if_neg c0, q 4 (by omega), q 2 (by omega), q 0 (by omega)]
    omega
theorem lpF_tv1 {r m j t : Nat} {k : kT} (h5 : k 1 ≤ 5) (he : ¬ t % 2 = 0) : lpF false (fun h => tvN r m j (t + 1) (apT k t r h)) (k 1) 3 1 (tvN r m j (t + 1) k) = tvN r m (j + 1) t k := by
  rw [tvN, if_neg he]
  have q : ∀ h, k 1 ≤ h → apT k t r h = k := fun h hh => by unfold apT; rw [if_neg (by omega)]
  rw [q 5 (by omega)]
  simp only [lpF, Bool.false_eq_true, if_false, Nat.reduceAdd]
  by_cases c0 : 1 < k 1
  · rw [if_pos c0]
    by_cases c2 : 3 < k 1
    · rw [if_pos c2, if_neg (by omega)]
      omega
    · rw [if_neg c2, q 3 (by omega)]
      omega
  · rw [if_neg c0, q 3 (by omega), q 1 (by omega)]
    omega
theorem kU_back (k : kT) (i v : Nat) : kU (kU k i v) i (k i) = k := by
  funext x
  unfold kU
  by_cases e : x = i
  · rw [if_pos e, e]
  · rw [if_neg e, if_neg e]
/-- outside the guess and the plan nothing changes -/
def offP (S T : jm_I2) : Prop := ∀ o, (o < 83 ∨ 102 < o) → T o = S o
section
variable {xs : Nat → Int32} {L d : Nat} {S : jm_I2} {k : kT} {Z : Option Value → jm_I2 → Prop}
theorem c_out0 {r m t n : Nat} (hX : RX 93 S k) (ho : okT r m k) (hm : m ≤ 1000) (hn : n ≤ 4) (ht4 : n ≤ t) (ht5 : t ≤ 10) (hZ : ∀ T, RX 93 T k → offP S T → Z (some (.int (nI (tvN r m 0 t k)))) T) : CL L (d + 4) 39 [.ref 82, .int (nI r), .int (nI t), .int (nI n), .int (nI m)] S Z := by
  have ht := top_sh L
  have hs := camp_sh isC83
  have hl := camp_ll L isC83
  obtain ⟨hV, hr, hk1, h3⟩ := ho
  have v0 := hV.1
  simp (disch := omega) only [cl39, w39_0, w39_1, w39_2, w39_5, w39_6, w39_7, w39_10, w39_11, w39_14, w39_15, w39_18, w39_21, w39_22, w39_25, w39_27, w39_30, w39_31, w39_34, w39_37, w39_38, w39_39, ht, hs, ↓neg_vM, ↓neg_vB, ↓neg_vS, ↓neg_vF, ↓neg_vO, ↓neg_vA, ↓neg_vN, lit_nI, nI_leI, nI_ltI, nI_eq, jm_in_nI, nI_clamp, nI_add, n_mul, pk_sub, n_le_t, n_le_f, n_lt_t, n_lt_f, n_eq_t, n_eq_f, true_and, and_true, ne_eq, not_false_eq_true, not_true_eq_false, min_n, max_n, dif_n, n_rem, n_div, or_nI, shl_nI, Option.toList_some, Option.toList_none, List.singleton_append, List.nil_append, if_true, if_false, or_true, true_or, or_false, false_or, and_false, false_and, Bool.false_eq_true]
  refine c_become isC83 isC93 (by decide) hX hV (fun T1 tX1 tf1 => ?_)
  simp (disch := omega) only [w39_0, w39_1, w39_2, w39_5, w39_6, w39_7, w39_10, w39_11, w39_14, w39_15, w39_18, w39_21, w39_22, w39_25, w39_27, w39_30, w39_31, w39_34, w39_37, w39_38, w39_39, ht, hs, ↓neg_vM, ↓neg_vB, ↓neg_vS, ↓neg_vF, ↓neg_vO, ↓neg_vA, ↓neg_vN, lit_nI, nI_leI, nI_ltI, nI_eq, jm_in_nI, nI_clamp, nI_add, n_mul, pk_sub, n_le_t, n_le_f, n_lt_t, n_lt_f, n_eq_t, n_eq_f, true_and, and_true, ne_eq, not_false_eq_true, not_true_eq_false, min_n, max_n, dif_n, n_rem, n_div, or_nI, shl_nI, Option.toList_some, Option.toList_none, List.singleton_append, List.nil_append, if_true, if_false, or_true, true_or, or_false, false_or, and_false, false_and, Bool.false_eq_true]
  refine c_passHours isC83 tX1 hV hk1 h3 (fun T2 tX2 tf2 => ?_)
  have z2 := (tX2.2.2.2.2.2 r (by rw [(hoursA_low k m).1]; exact hr)).2.1
  have e := hZ T2 (RX_of hX (fun o h1 h2 => by rw [tf2 o (by omega), tf1 o (by omega)])) (fun o ho => by rw [tf2 o (by omega), tf1 o (by omega)])
  rw [tvN] at e
  simp (disch := omega) only [w39_0, w39_1, w39_2, w39_5, w39_6, w39_7, w39_10, w39_11, w39_14, w39_15, w39_18, w39_21, w39_22, w39_25, w39_27, w39_30, w39_31, w39_34, w39_37, w39_38, w39_39, ht, hs, hl, ↓neg_vM, ↓neg_vB, ↓neg_vS, ↓neg_vF, ↓neg_vO, ↓neg_vA, ↓neg_vN, lit_nI, nI_leI, nI_ltI, nI_eq, jm_in_nI, nI_clamp, nI_add, n_mul, pk_sub, n_le_t, n_le_f, n_lt_t, n_lt_f, n_eq_t, n_eq_f, true_and, and_true, ne_eq, not_false_eq_true, not_true_eq_false, min_n, max_n, dif_n, n_rem, n_div, or_nI, shl_nI, Option.toList_some, Option.toList_none, List.singleton_append, List.nil_append, if_true, if_false, or_true, true_or, or_false, false_or, and_false, false_and, Bool.false_eq_true, z2]
  exact e
set_option maxHeartbeats 8000000 in
theorem c_outcome {r m n : Nat} (hm : m ≤ 1000) (hn : n ≤ 4) : ∀ (j t : Nat) {d : Nat} {k : kT} {S : jm_I2} {Z : Option Value → jm_I2 → Prop}, t + j = n → RX 93 S k → okT r m k → (∀ T, RX 93 T k → offP S T → Z (some (.int (nI (tvN r m j t k)))) T) → CL L (d + 4 + j) 39 [.ref 82, .int (nI r), .int (nI t), .int (nI n), .int (nI m)] S Z
  | 0, t, d, k, S, Z, htj, hX, ho, hZ => c_out0 hX ho hm hn (by omega) (by omega) hZ
  | j + 1, t, d, k, S, Z, htj, hX, ho, hZ => by
    have ht := top_sh L
    have hs := camp_sh isC93
    have hl := camp_ll L isC93
    have hV := ho.1
    have v0 := hV.1
    have v1 := hV.2.1
    have hr := ho.2.1
    rw [show d + 4 + (j + 1) = d + 4 + j + 1 from rfl]
    have loop : ∀ (mx : Bool) (w : Nat), (mx = true ∧ w = 1 ∧ t % 2 = 0) ∨ (mx = false ∧ w = 0 ∧ ¬ t % 2 = 0) → ∀ g h f S1 u8 u9, k 1 ≤ h + 2 * g → h ≤ 6 → f ≤ 60 → RX 93 S1 k → offP S S1 → (∀ T, RX 93 T k → offP S T → Z (some (.int (nI (lpF mx (fun h => tvN r m j (t + 1) (apT k t r h)) (k 1) g h f)))) T) → WQ L (d + 4 + j + 1) 39 78 [.ref 82, .int (nI r), .int (nI t), .int (nI n), .int (nI m), .int (nI w), .int (nI f), .int (nI h), u8, u9] [] S1 Z := by
      intro mx w hmw g
      induction g with
      | zero =>
        intro h f S1 u8 u9 hg hh hf tX tf hZ2
        have x2 := tX.2.2.1
        rw [w39_78]
        simp (disch := omega) only [w39_80, w39_81, w39_84, w39_87, w39_178, w39_180, ht, hs, ↓neg_vM, ↓neg_vB, ↓neg_vS, ↓neg_vF, ↓neg_vO, ↓neg_vA, ↓neg_vN, lit_nI, nI_leI, nI_ltI, nI_eq, jm_in_nI, nI_clamp, nI_add, n_mul, pk_sub, n_le_t, n_le_f, n_lt_t, n_lt_f, n_eq_t, n_eq_f, true_and, and_true, ne_eq, not_false_eq_true, not_true_eq_false, min_n, max_n, dif_n, n_rem, n_div, or_nI, shl_nI, Option.toList_some, Option.toList_none, List.singleton_append, List.nil_append, if_true, if_false, or_true, true_or, or_false, false_or, and_false, false_and, Bool.false_eq_true, x2]
        exact hZ2 S1 tX tf
      | succ g ihg =>
        intro h f S1 u8 u9 hg hh hf tX tf hZ2
        have x2 := tX.2.2.1
        rw [w39_78]
        by_cases c : h < k 1
        · have z2 := (tX.2.2.2.2.1 h c).2
          have w2 := (hV.2.2.2.2.1 h c).2
          have eap : apT k t r h = kU k (4 + 2 * h + 1) (if t % 2 = 0 then r + 1 else 0) := by unfold apT; rw [if_pos c]
          have eP : kPl k h = k (4 + 2 * h + 1) := by unfold kPl; congr 1; omega
          have hb := tvN_le (j := j) (t := t + 1) (okT_ap ho t h)
          have back : ∀ T2, RX 93 T2 (apT k t r h) → RX 93 (jm_upd T2 (93 + 2) h (plv (kPl k h))) k := fun T2 tX2 => by
            have q := RX_Pl (b := kPl k h) (h0 := h) tX2 (by omega) (by rw [apT_low (by decide)]; exact v1)
            rw [eap, eP, kU_back] at q
            rw [eP]
            exact q
          rcases hmw with ⟨rfl, rfl, hte⟩ | ⟨rfl, rfl, hte⟩
          · simp (disch := omega) only [w39_80, w39_81, w39_84, w39_87, w39_90, w39_91, w39_94, w39_97, w39_99, w39_100, w39_102, w39_103, w39_106, w39_109, w39_111, w39_113, w39_116, w39_117, w39_120, w39_122, w39_123, w39_124, w39_125, w39_126, w39_127, w39_128, w39_129, w39_131, ht, hs, hl, ↓neg_vM, ↓neg_vB, ↓neg_vS, ↓neg_vF, ↓neg_vO, ↓neg_vA, ↓neg_vN, lit_nI, nI_leI, nI_ltI, nI_eq, jm_in_nI, nI_clamp, nI_add, n_mul, pk_sub, n_le_t, n_le_f, n_lt_t, n_lt_f, n_eq_t, n_eq_f, true_and, and_true, ne_eq, not_false_eq_true, not_true_eq_false, min_n, max_n, dif_n, n_rem, n_div, or_nI, shl_nI, Option.toList_some, Option.toList_none, List.singleton_append, List.nil_append, if_true, if_false, or_true, true_or, or_false, false_or, and_false, false_and, Bool.false_eq_true, x2, z2]
            rw [if_pos hte] at eap
            have tX1 : RX 93 (jm_upd S1 (93 + 2) h (plv (r + 1))) (apT k t r h) := by rw [eap]; exact RX_Pl tX (by omega) v1
            refine c_outcome hm hn j (t + 1) (d := d) (k := apT k t r h) (by omega) tX1 (okT_ap ho t h) (fun T2 tX2 tf2 => ?_)
            simp (disch := omega) only [w39_134, w39_136, w39_137, w39_140, w39_143, w39_145, w39_147, w39_148, w39_150, w39_153, w39_155, w39_157, w39_160, w39_163, w39_165, w39_167, w39_170, w39_172, w39_175, ht, hs, hl, ↓neg_vM, ↓neg_vB, ↓neg_vS, ↓neg_vF, ↓neg_vO, ↓neg_vA, ↓neg_vN, lit_nI, nI_leI, nI_ltI, nI_eq, jm_in_nI, nI_clamp, nI_add, n_mul, pk_sub, n_le_t, n_le_f, n_lt_t, n_lt_f, n_eq_t, n_eq_f, true_and, and_true, ne_eq, not_false_eq_true, not_true_eq_false, min_n, max_n, dif_n, n_rem, n_div, or_nI, shl_nI, Option.toList_some, Option.toList_none, List.singleton_append, List.nil_append, if_true, if_false, or_true, true_or, or_false, false_or, and_false, false_and, Bool.false_eq_true]
            refine ihg (h + 2) _ _ _ _ (by omega) (by omega) (by omega) (back T2 tX2) (fun o ho => ?_) (fun T tX3 tf3 => ?_)
            · rw [upd_ne (by omega), tf2 o ho, upd_ne (by omega), tf o ho]
            · have q := hZ2 T tX3 tf3
              rw [lpF, if_pos c, if_pos rfl] at q
              exact q
          · simp (disch := omega) only [w39_80, w39_81, w39_84, w39_87, w39_90, w39_91, w39_94, w39_97, w39_99, w39_100, w39_102, w39_103, w39_106, w39_109, w39_111, w39_113, w39_116, w39_117, w39_120, w39_122, w39_123, w39_124, w39_125, w39_126, w39_127, w39_128, w39_129, w39_131, ht, hs, hl, ↓neg_vM, ↓neg_vB, ↓neg_vS, ↓neg_vF, ↓neg_vO, ↓neg_vA, ↓neg_vN, lit_nI, nI_leI, nI_ltI, nI_eq, jm_in_nI, nI_clamp, nI_add, n_mul, pk_sub, n_le_t, n_le_f, n_lt_t, n_lt_f, n_eq_t, n_eq_f, true_and, and_true, ne_eq, not_false_eq_true, not_true_eq_false, min_n, max_n, dif_n, n_rem, n_div, or_nI, shl_nI, Option.toList_some, Option.toList_none, List.singleton_append, List.nil_append, if_true, if_false, or_true, true_or, or_false, false_or, and_false, false_and, Bool.false_eq_true, x2, z2]
            rw [if_neg hte] at eap
            have tX1 : RX 93 (jm_upd S1 (93 + 2) h (plv 0)) (apT k t r h) := by rw [eap]; exact RX_Pl tX (by omega) v1
            refine c_outcome hm hn j (t + 1) (d := d) (k := apT k t r h) (by omega) tX1 (okT_ap ho t h) (fun T2 tX2 tf2 => ?_)
            simp (disch := omega) only [w39_134, w39_136, w39_137, w39_140, w39_143, w39_145, w39_147, w39_148, w39_150, w39_153, w39_155, w39_157, w39_160, w39_163, w39_165, w39_167, w39_170, w39_172, w39_175, ht, hs, hl, ↓neg_vM, ↓neg_vB, ↓neg_vS, ↓neg_vF, ↓neg_vO, ↓neg_vA, ↓neg_vN, lit_nI, nI_leI, nI_ltI, nI_eq, jm_in_nI, nI_clamp, nI_add, n_mul, pk_sub, n_le_t, n_le_f, n_lt_t, n_lt_f, n_eq_t, n_eq_f, true_and, and_true, ne_eq, not_false_eq_true, not_true_eq_false, min_n, max_n, dif_n, n_rem, n_div, or_nI, shl_nI, Option.toList_some, Option.toList_none, List.singleton_append, List.nil_append, if_true, if_false, or_true, true_or, or_false, false_or, and_false, false_and, Bool.false_eq_true]
            refine ihg (h + 2) _ _ _ _ (by omega) (by omega) (by omega) (back T2 tX2) (fun o ho => ?_) (fun T tX3 tf3 => ?_)
            · rw [upd_ne (by omega), tf2 o ho, upd_ne (by omega), tf o ho]
            · have q := hZ2 T tX3 tf3
              rw [lpF, if_pos c, if_neg (by decide)] at q
              exact q
        · have q := hZ2 S1 tX tf
          rw [lpF, if_neg c] at q
          simp (disch := omega) only [w39_80, w39_81, w39_84, w39_87, w39_178, w39_180, ht, hs, ↓neg_vM, ↓neg_vB, ↓neg_vS, ↓neg_vF, ↓neg_vO, ↓neg_vA, ↓neg_vN, lit_nI, nI_leI, nI_ltI, nI_eq, jm_in_nI, nI_clamp, nI_add, n_mul, pk_sub, n_le_t, n_le_f, n_lt_t, n_lt_f, n_eq_t, n_eq_f, true_and, and_true, ne_eq, not_false_eq_true, not_true_eq_false, min_n, max_n, dif_n, n_rem, n_div, or_nI, shl_nI, Option.toList_some, Option.toList_none, List.singleton_append, List.nil_append, if_true, if_false, or_true, true_or, or_false, false_or, and_false, false_and, Bool.false_eq_true, x2]
          exact q
    have hf0 := tvN_le (j := j) (t := t + 1) ho
    have et : t - t / 2 * 2 = t % 2 := by omega
    by_cases he : t % 2 = 0
    · rw [cl39]
      simp (disch := omega) only [w39_0, w39_1, w39_2, w39_5, w39_6, w39_7, w39_40, w39_41, w39_42, w39_43, w39_46, w39_47, w39_50, w39_51, w39_53, w39_54, w39_55, w39_56, w39_57, w39_58, w39_59, w39_61, ht, ↓neg_vM, ↓neg_vB, ↓neg_vS, ↓neg_vF, ↓neg_vO, ↓neg_vA, ↓neg_vN, lit_nI, nI_leI, nI_ltI, nI_eq, jm_in_nI, nI_clamp, nI_add, n_mul, pk_sub, n_le_t, n_le_f, n_lt_t, n_lt_f, n_eq_t, n_eq_f, true_and, and_true, ne_eq, not_false_eq_true, not_true_eq_false, min_n, max_n, dif_n, n_rem, n_div, or_nI, shl_nI, Option.toList_some, Option.toList_none, List.singleton_append, List.nil_append, if_true, if_false, or_true, true_or, or_false, false_or, and_false, false_and, Bool.false_eq_true, et, he]
      refine c_outcome hm hn j (t + 1) (d := d) (by omega) hX ho (fun T tX tf => ?_)
      simp (disch := omega) only [w39_64, w39_66, w39_68, w39_71, w39_72, w39_75, w39_76, ht, ↓neg_vM, ↓neg_vB, ↓neg_vS, ↓neg_vF, ↓neg_vO, ↓neg_vA, ↓neg_vN, lit_nI, nI_leI, nI_ltI, nI_eq, jm_in_nI, nI_clamp, nI_add, n_mul, pk_sub, n_le_t, n_le_f, n_lt_t, n_lt_f, n_eq_t, n_eq_f, true_and, and_true, ne_eq, not_false_eq_true, not_true_eq_false, min_n, max_n, dif_n, n_rem, n_div, or_nI, shl_nI, Option.toList_some, Option.toList_none, List.singleton_append, List.nil_append, if_true, if_false, or_true, true_or, or_false, false_or, and_false, false_and, Bool.false_eq_true]
      refine loop true 1 (Or.inl ⟨rfl, rfl, he⟩) 3 0 _ _ _ _ (by omega) (by omega) hf0 tX tf (fun T2 tX2 tf2 => ?_)
      rw [lpF_tv v1 he]
      exact hZ T2 tX2 tf2
    · have he1 : t % 2 = 1 := by omega
      rw [cl39]
      simp (disch := omega) only [w39_0, w39_1, w39_2, w39_5, w39_6, w39_7, w39_40, w39_41, w39_42, w39_43, w39_46, w39_47, w39_50, w39_51, w39_53, w39_54, w39_55, w39_56, w39_57, w39_58, w39_59, w39_61, ht, ↓neg_vM, ↓neg_vB, ↓neg_vS, ↓neg_vF, ↓neg_vO, ↓neg_vA, ↓neg_vN, lit_nI, nI_leI, nI_ltI, nI_eq, jm_in_nI, nI_clamp, nI_add, n_mul, pk_sub, n_le_t, n_le_f, n_lt_t, n_lt_f, n_eq_t, n_eq_f, true_and, and_true, ne_eq, not_false_eq_true, not_true_eq_false, min_n, max_n, dif_n, n_rem, n_div, or_nI, shl_nI, Option.toList_some, Option.toList_none, List.singleton_append, List.nil_append, if_true, if_false, or_true, true_or, or_false, false_or, and_false, false_and, Bool.false_eq_true, et, he1]
      refine c_outcome hm hn j (t + 1) (d := d) (by omega) hX ho (fun T tX tf => ?_)
      simp (disch := omega) only [w39_64, w39_66, w39_68, w39_71, w39_72, w39_75, w39_76, ht, ↓neg_vM, ↓neg_vB, ↓neg_vS, ↓neg_vF, ↓neg_vO, ↓neg_vA, ↓neg_vN, lit_nI, nI_leI, nI_ltI, nI_eq, jm_in_nI, nI_clamp, nI_add, n_mul, pk_sub, n_le_t, n_le_f, n_lt_t, n_lt_f, n_eq_t, n_eq_f, true_and, and_true, ne_eq, not_false_eq_true, not_true_eq_false, min_n, max_n, dif_n, n_rem, n_div, or_nI, shl_nI, Option.toList_some, Option.toList_none, List.singleton_append, List.nil_append, if_true, if_false, or_true, true_or, or_false, false_or, and_false, false_and, Bool.false_eq_true]
      refine loop false 0 (Or.inr ⟨rfl, rfl, he⟩) 3 1 _ _ _ _ (by omega) (by omega) hf0 tX tf (fun T2 tX2 tf2 => ?_)
      rw [lpF_tv1 v1 he]
      exact hZ T2 tX2 tf2
end
