/-! ===== nights by draws ===== -/
def drA (k : kT) (x : Nat) : kT := if x % 3 = 0 then kU k (4 + 2 * (x % k 1) + 1) (x % k 0 + 1) else if x % 3 = 1 then kU k (4 + 2 * (x % k 1) + 1) 0 else k
def drB (k : kT) (r x : Nat) : kT := if kBt k r = 0 ∧ x % 5 = 0 then kU k (14 + 4 * r + 1) 9 else k
def drK (k : kT) (x : Nat) : kT := drB (drA k x) (x % k 0) x
def dnX (s : Nat) : Nat → Nat
  | 0 => s
  | i + 1 => dnX s i * 16807 % 2147483647
def dnK (k : kT) (s : Nat) : Nat → kT
  | 0 => k
  | i + 1 => hourA (drK (dnK k s i) (dnX s (i + 1)))
theorem dnX_lt {s : Nat} (hs : s ≤ 999999) : ∀ i, dnX s i < 2147483647
  | 0 => by show s < 2147483647; omega
  | i + 1 => Nat.mod_lt _ (by decide)
theorem drA_low {k : kT} {x i : Nat} (hi : i < 4) : drA k x i = k i := by
  unfold drA
  split
  · exact kU_ne (by omega)
  · split
    · exact kU_ne (by omega)
    · rfl
theorem drB_low {k : kT} {r x i : Nat} (hi : i < 4) : drB k r x i = k i := by
  unfold drB
  split
  · exact kU_ne (by omega)
  · rfl
theorem drK_low {k : kT} {x i : Nat} (hi : i < 4) : drK k x i = k i := by
  unfold drK
  rw [drB_low hi, drA_low hi]
theorem KV_drA {k : kT} (hV : KV k) (h0 : 0 < k 0) (h1 : 0 < k 1) (x : Nat) : KV (drA k x) := by
  have v1 := hV.2.1
  have m1 := Nat.mod_lt x h1
  have m0 := Nat.mod_lt x h0
  unfold drA
  split
  · exact KV_U hV (by omega) (fun _ _ _ => by omega) (fun _ _ _ => by omega) (fun _ _ _ => by omega) (fun _ _ _ => by omega) (fun _ _ _ => by omega) (fun _ _ _ => by omega)
  · split
    · exact KV_U hV (by omega) (fun _ _ _ => by omega) (fun _ _ _ => by omega) (fun _ _ _ => by omega) (fun _ _ _ => by omega) (fun _ _ _ => by omega) (fun _ _ _ => by omega)
    · exact hV
theorem KV_drB {k : kT} (hV : KV k) (r x : Nat) : KV (drB k r x) := by
  have v1 := hV.2.1
  unfold drB
  split
  · exact KV_U hV (by omega) (fun _ _ _ => by omega) (fun _ _ _ => by omega) (fun _ _ _ => by omega) (fun _ _ _ => by omega) (fun _ _ _ => by omega) (fun _ _ _ => by omega)
  · exact hV
theorem KV_drK {k : kT} (hV : KV k) (h0 : 0 < k 0) (h1 : 0 < k 1) (x : Nat) : KV (drK k x) := KV_drB (KV_drA hV h0 h1 x) _ x
theorem dnK_ok {k : kT} {s : Nat} (hV : KV k) (h0 : 0 < k 0) (h1 : 0 < k 1) : ∀ i, k 3 + i ≤ 100000 → KV (dnK k s i) ∧ dnK k s i 0 = k 0 ∧ dnK k s i 1 = k 1 ∧ dnK k s i 3 = k 3 + i
  | 0, _ => ⟨hV, rfl, rfl, rfl⟩
  | i + 1, h => by
    obtain ⟨a, b, c, e⟩ := dnK_ok (s := s) hV h0 h1 i (by omega)
    have l : ∀ j, j < 4 → drK (dnK k s i) (dnX s (i + 1)) j = dnK k s i j := fun j hj => drK_low hj
    refine ⟨KV_hour (KV_drK a (by omega) (by omega) _) (by rw [l 3 (by decide)]; omega), ?_, ?_, ?_⟩
    · show drK (dnK k s i) (dnX s (i + 1)) 0 = k 0
      rw [l 0 (by decide), b]
    · show drK (dnK k s i) (dnX s (i + 1)) 1 = k 1
      rw [l 1 (by decide), c]
    · show drK (dnK k s i) (dnX s (i + 1)) 3 + 1 = k 3 + (i + 1)
      rw [l 3 (by decide), e]
      omega
section
variable {xs : Nat → Int32} {L d : Nat} {S : jm_I2} {k : kT} {Z : Option Value → jm_I2 → Prop}
theorem c_draw2 {r x : Nat} {u : Value} {T : jm_I2} (tX : RX 83 T k) (hV : KV k) (hr : r < k 0) (hx : x < 2 ^ 31) (hZ : ∀ T2, RX 83 T2 (drB k r x) → offC 83 T T2 → Z none T2) : WQ L (d + 1) 49 93 [.ref 82, .long (lN x), .null, u, .int (nI r)] [] T Z := by
  have ht := top_sh L
  have hs := camp_sh isC83
  have hl := camp_ll L isC83
  have v0 := hV.1
  have v1 := hV.2.1
  have e5 : lN x - lN x / lN 5 * lN 5 = lN (x % 5) := pk_lRem (by omega) (by decide) (by decide)
  unfold drB at hZ
  by_cases c : 0 < kBt k r
  · rw [if_neg (by omega)] at hZ
    simp (disch := omega) only [w49_93, w49_94, w49_97, w49_99, w49_102, w49_105, w49_106, w49_109, w49_110, w49_111, w49_112, w49_115, w49_116, w49_119, w49_122, w49_124, w49_126, w49_127, ht, hs, hl, ↓neg_vM, ↓neg_vB, ↓neg_vS, ↓neg_vF, ↓neg_vO, ↓neg_vA, ↓neg_vN, lit_nI, nI_leI, nI_ltI, nI_eq, jm_in_nI, nI_clamp, nI_add, n_mul, pk_sub, n_le_t, n_le_f, n_lt_t, n_lt_f, n_eq_t, n_eq_f, true_and, and_true, ne_eq, not_false_eq_true, not_true_eq_false, min_n, max_n, dif_n, n_rem, n_div, or_nI, shl_nI, Option.toList_some, Option.toList_none, List.singleton_append, List.nil_append, if_true, if_false, or_true, true_or, or_false, false_or, and_false, false_and, Bool.false_eq_true, c_holds isC83 tX hV hr, c]
    exact hZ T tX (fun o _ => rfl)
  · by_cases c2 : x % 5 = 0
    · rw [if_pos (by omega)] at hZ
      simp (disch := omega) only [w49_93, w49_94, w49_97, w49_99, w49_102, w49_105, w49_106, w49_109, w49_110, w49_111, w49_112, w49_115, w49_116, w49_119, w49_122, w49_124, w49_126, w49_127, ht, hs, hl, ↓neg_vM, ↓neg_vB, ↓neg_vS, ↓neg_vF, ↓neg_vO, ↓neg_vA, ↓neg_vN, lit_nI, nI_leI, nI_ltI, nI_eq, jm_in_nI, nI_clamp, nI_add, n_mul, pk_sub, n_le_t, n_le_f, n_lt_t, n_lt_f, n_eq_t, n_eq_f, true_and, and_true, ne_eq, not_false_eq_true, not_true_eq_false, min_n, max_n, dif_n, n_rem, n_div, or_nI, shl_nI, Option.toList_some, Option.toList_none, List.singleton_append, List.nil_append, if_true, if_false, or_true, true_or, or_false, false_or, and_false, false_and, Bool.false_eq_true, c_holds isC83 tX hV hr, c, lit_lN, e5, lg_eq0, lN_eq, c2]
      exact hZ _ (RX_Bt tX v1) (fun o ho => upd_ne (by omega))
    · rw [if_neg (by omega)] at hZ
      simp (disch := omega) only [w49_93, w49_94, w49_97, w49_99, w49_102, w49_105, w49_106, w49_109, w49_110, w49_111, w49_112, w49_115, w49_116, w49_119, w49_122, w49_124, w49_126, w49_127, ht, hs, hl, ↓neg_vM, ↓neg_vB, ↓neg_vS, ↓neg_vF, ↓neg_vO, ↓neg_vA, ↓neg_vN, lit_nI, nI_leI, nI_ltI, nI_eq, jm_in_nI, nI_clamp, nI_add, n_mul, pk_sub, n_le_t, n_le_f, n_lt_t, n_lt_f, n_eq_t, n_eq_f, true_and, and_true, ne_eq, not_false_eq_true, not_true_eq_false, min_n, max_n, dif_n, n_rem, n_div, or_nI, shl_nI, Option.toList_some, Option.toList_none, List.singleton_append, List.nil_append, if_true, if_false, or_true, true_or, or_false, false_or, and_false, false_and, Bool.false_eq_true, c_holds isC83 tX hV hr, c, lit_lN, e5, lg_eq0, lN_eq, c2]
      exact hZ T tX (fun o _ => rfl)
theorem c_draw {x : Nat} (hX : RX 83 S k) (hV : KV k) (h0 : 0 < k 0) (h1 : 0 < k 1) (hx : x < 2 ^ 31) (hZ : ∀ T, RX 83 T (drK k x) → offC 83 S T → Z none T) : CL L (d + 1) 49 [.ref 82, .long (lN x)] S Z := by
  have ht := top_sh L
  have hs := camp_sh isC83
  have hl := camp_ll L isC83
  have v0 := hV.1
  have v1 := hV.2.1
  have m1 := Nat.mod_lt x h1
  have m0 := Nat.mod_lt x h0
  have x2 := hX.2.2.1
  have x3 := hX.2.2.2.1
  have e1 : lN x - lN x / lN (k 1) * lN (k 1) = lN (x % k 1) := pk_lRem (by omega) h1 (by omega)
  have e0 : lN x - lN x / lN (k 0) * lN (k 0) = lN (x % k 0) := pk_lRem (by omega) h0 (by omega)
  have e3 : lN x - lN x / lN 3 * lN 3 = lN (x % 3) := pk_lRem (by omega) (by decide) (by decide)
  have hVa := KV_drA hV h0 h1 x
  have l0 : drA k x 0 = k 0 := drA_low (by decide)
  have m3 := Nat.mod_lt x (show 0 < 3 by decide)
  unfold drK at hZ
  by_cases c0 : x % 3 = 0
  · have ea : drA k x = kU k (4 + 2 * (x % k 1) + 1) (x % k 0 + 1) := by unfold drA; rw [if_pos c0]
    simp (disch := omega) only [cl49, w49_0, w49_1, w49_4, w49_7, w49_8, w49_11, w49_12, w49_15, w49_18, w49_19, w49_22, w49_23, w49_24, w49_25, w49_28, w49_31, w49_32, w49_33, w49_34, w49_35, w49_36, w49_37, w49_40, w49_43, w49_44, w49_45, w49_46, w49_48, w49_49, w49_52, w49_53, w49_54, w49_55, w49_58, w49_59, w49_62, w49_65, w49_66, w49_68, w49_69, ht, hs, hl, ↓neg_vM, ↓neg_vB, ↓neg_vS, ↓neg_vF, ↓neg_vO, ↓neg_vA, ↓neg_vN, lit_nI, nI_leI, nI_ltI, nI_eq, jm_in_nI, nI_clamp, nI_add, n_mul, pk_sub, n_le_t, n_le_f, n_lt_t, n_lt_f, n_eq_t, n_eq_f, true_and, and_true, ne_eq, not_false_eq_true, not_true_eq_false, min_n, max_n, dif_n, n_rem, n_div, or_nI, shl_nI, Option.toList_some, Option.toList_none, List.singleton_append, List.nil_append, if_true, if_false, or_true, true_or, or_false, false_or, and_false, false_and, Bool.false_eq_true, x2, x3, lit_lN, nI_l, e1, e0, e3, lg_eq0, lN_eq, lN_i, c0, kl_null, kl_int, kl_long]
    exact c_draw2 (k := drA k x) (by rw [ea]; exact RX_Pl (b := x % k 0 + 1) hX (by omega) v1) hVa (by rw [l0]; exact m0) hx (fun T2 tX2 tf2 => hZ T2 tX2 (fun o ho => by rw [tf2 o ho, upd_ne (by omega)]))
  · by_cases c1 : x % 3 = 1
    · have ea : drA k x = kU k (4 + 2 * (x % k 1) + 1) 0 := by unfold drA; rw [if_neg c0, if_pos c1]
      simp (disch := omega) only [cl49, w49_0, w49_1, w49_4, w49_7, w49_8, w49_11, w49_12, w49_15, w49_18, w49_19, w49_22, w49_23, w49_24, w49_25, w49_28, w49_31, w49_32, w49_33, w49_34, w49_35, w49_36, w49_37, w49_40, w49_43, w49_44, w49_45, w49_46, w49_48, w49_49, w49_52, w49_53, w49_54, w49_55, w49_58, w49_59, w49_62, w49_65, w49_66, w49_68, w49_69, w49_72, w49_73, w49_76, w49_77, w49_78, w49_79, w49_82, w49_83, w49_86, w49_89, w49_90, w49_92, ht, hs, hl, ↓neg_vM, ↓neg_vB, ↓neg_vS, ↓neg_vF, ↓neg_vO, ↓neg_vA, ↓neg_vN, lit_nI, nI_leI, nI_ltI, nI_eq, jm_in_nI, nI_clamp, nI_add, n_mul, pk_sub, n_le_t, n_le_f, n_lt_t, n_lt_f, n_eq_t, n_eq_f, true_and, and_true, ne_eq, not_false_eq_true, not_true_eq_false, min_n, max_n, dif_n, n_rem, n_div, or_nI, shl_nI, Option.toList_some, Option.toList_none, List.singleton_append, List.nil_append, if_true, if_false, or_true, true_or, or_false, false_or, and_false, false_and, Bool.false_eq_true, x2, x3, lit_lN, nI_l, e1, e0, e3, lg_eq0, lN_eq, lN_i, c0, c1, kl_null, kl_int, kl_long]
      exact c_draw2 (k := drA k x) (by rw [ea]; exact RX_Pl (b := 0) hX (by omega) v1) hVa (by rw [l0]; exact m0) hx (fun T2 tX2 tf2 => hZ T2 tX2 (fun o ho => by rw [tf2 o ho, upd_ne (by omega)]))
    · have ea : drA k x = k := by unfold drA; rw [if_neg c0, if_neg c1]
      simp (disch := omega) only [cl49, w49_0, w49_1, w49_4, w49_7, w49_8, w49_11, w49_12, w49_15, w49_18, w49_19, w49_22, w49_23, w49_24, w49_25, w49_28, w49_31, w49_32, w49_33, w49_34, w49_35, w49_36, w49_37, w49_40, w49_43, w49_44, w49_45, w49_46, w49_48, w49_49, w49_52, w49_53, w49_54, w49_55, w49_58, w49_59, w49_62, w49_65, w49_66, w49_68, w49_69, w49_72, w49_73, w49_76, w49_77, w49_78, w49_79, w49_82, w49_83, w49_86, w49_89, w49_90, w49_92, ht, hs, hl, ↓neg_vM, ↓neg_vB, ↓neg_vS, ↓neg_vF, ↓neg_vO, ↓neg_vA, ↓neg_vN, lit_nI, nI_leI, nI_ltI, nI_eq, jm_in_nI, nI_clamp, nI_add, n_mul, pk_sub, n_le_t, n_le_f, n_lt_t, n_lt_f, n_eq_t, n_eq_f, true_and, and_true, ne_eq, not_false_eq_true, not_true_eq_false, min_n, max_n, dif_n, n_rem, n_div, or_nI, shl_nI, Option.toList_some, Option.toList_none, List.singleton_append, List.nil_append, if_true, if_false, or_true, true_or, or_false, false_or, and_false, false_and, Bool.false_eq_true, x2, x3, lit_lN, nI_l, e1, e0, e3, lg_eq0, lN_eq, lN_i, c0, c1, kl_null, kl_int, kl_long]
      exact c_draw2 (k := drA k x) (by rw [ea]; exact hX) hVa (by rw [l0]; exact m0) hx (fun T2 tX2 tf2 => hZ T2 tX2 tf2)
theorem c_drawnNights {n s : Nat} (hX : RX 25 S k) (hV : KV k) (h0 : 0 < k 0) (h1 : 0 < k 1) (h3 : k 3 ≤ 999) (hn : n ≤ 60) (hs9 : s ≤ 999999) (hZ : ∀ T, RX 83 T (dnK k s n) → offC 83 S T → Z (some (.ref 83)) T) : CL L (d + 4) 48 [.ref 82, .ref 25, .int (nI n), .int (nI s)] S Z := by
  have ht := top_sh L
  have hs := camp_sh isC83
  have key : ∀ i, i ≤ n → ∀ T, RX 83 T (dnK k s i) → offC 83 S T → WQ L (d + 4) 48 15 [.ref 82, .ref 25, .int (nI n), .int (nI s), .long (lN (dnX s i)), .null, .int (nI i)] [] T Z := by
    apply down_ind
    · intro T tX tf
      rw [w48_15]
      simp (disch := omega) only [w48_17, w48_18, w48_52, w48_53, w48_56, ht, hs, ↓neg_vM, ↓neg_vB, ↓neg_vS, ↓neg_vF, ↓neg_vO, ↓neg_vA, ↓neg_vN, lit_nI, nI_leI, nI_ltI, nI_eq, jm_in_nI, nI_clamp, nI_add, n_mul, pk_sub, n_le_t, n_le_f, n_lt_t, n_lt_f, n_eq_t, n_eq_f, true_and, and_true, ne_eq, not_false_eq_true, not_true_eq_false, min_n, max_n, dif_n, n_rem, n_div, or_nI, shl_nI, Option.toList_some, Option.toList_none, List.singleton_append, List.nil_append, if_true, if_false, or_true, true_or, or_false, false_or, and_false, false_and, Bool.false_eq_true]
      exact hZ T tX tf
    · intro i hi ih T tX tf
      have hx := dnX_lt hs9 i
      have hx2 := dnX_lt hs9 (i + 1)
      obtain ⟨a, b, c, e⟩ := dnK_ok (s := s) hV h0 h1 i (by omega)
      have er : lN (dnX s i * 16807) - lN (dnX s i * 16807) / lN 2147483647 * lN 2147483647 = lN (dnX s (i + 1)) := pk_lRem (by omega) (by decide) (by decide)
      rw [w48_15]
      simp (disch := omega) only [w48_17, w48_18, w48_21, w48_23, w48_26, w48_27, w48_30, w48_31, w48_33, w48_34, w48_36, ht, hs, ↓neg_vM, ↓neg_vB, ↓neg_vS, ↓neg_vF, ↓neg_vO, ↓neg_vA, ↓neg_vN, lit_nI, nI_leI, nI_ltI, nI_eq, jm_in_nI, nI_clamp, nI_add, n_mul, pk_sub, n_le_t, n_le_f, n_lt_t, n_lt_f, n_eq_t, n_eq_f, true_and, and_true, ne_eq, not_false_eq_true, not_true_eq_false, min_n, max_n, dif_n, n_rem, n_div, or_nI, shl_nI, Option.toList_some, Option.toList_none, List.singleton_append, List.nil_append, if_true, if_false, or_true, true_or, or_false, false_or, and_false, false_and, Bool.false_eq_true, lit_lN, lN_mul, er, lN_eq, kl_null, kl_int, kl_long]
      refine c_draw tX a (by omega) (by omega) (by omega) (fun T2 tX2 tf2 => ?_)
      simp (disch := omega) only [w48_39, w48_40, w48_43, ht, hs, ↓neg_vM, ↓neg_vB, ↓neg_vS, ↓neg_vF, ↓neg_vO, ↓neg_vA, ↓neg_vN, lit_nI, nI_leI, nI_ltI, nI_eq, jm_in_nI, nI_clamp, nI_add, n_mul, pk_sub, n_le_t, n_le_f, n_lt_t, n_lt_f, n_eq_t, n_eq_f, true_and, and_true, ne_eq, not_false_eq_true, not_true_eq_false, min_n, max_n, dif_n, n_rem, n_div, or_nI, shl_nI, Option.toList_some, Option.toList_none, List.singleton_append, List.nil_append, if_true, if_false, or_true, true_or, or_false, false_or, and_false, false_and, Bool.false_eq_true]
      refine c_passHour isC83 tX2 (KV_drK a (by omega) (by omega) _) (by rw [drK_low (by decide)]; omega) (fun T3 tX3 tf3 => ?_)
      simp (disch := omega) only [w48_46, w48_49, ht, hs, ↓neg_vM, ↓neg_vB, ↓neg_vS, ↓neg_vF, ↓neg_vO, ↓neg_vA, ↓neg_vN, lit_nI, nI_leI, nI_ltI, nI_eq, jm_in_nI, nI_clamp, nI_add, n_mul, pk_sub, n_le_t, n_le_f, n_lt_t, n_lt_f, n_eq_t, n_eq_f, true_and, and_true, ne_eq, not_false_eq_true, not_true_eq_false, min_n, max_n, dif_n, n_rem, n_div, or_nI, shl_nI, Option.toList_some, Option.toList_none, List.singleton_append, List.nil_append, if_true, if_false, or_true, true_or, or_false, false_or, and_false, false_and, Bool.false_eq_true, kl_null, kl_int, kl_long]
      exact ih T3 tX3 (fun o ho => by rw [tf3 o ho, tf2 o ho, tf o ho])
  simp (disch := omega) only [cl48, w48_0, w48_1, w48_4, w48_5, ht, hs, ↓neg_vM, ↓neg_vB, ↓neg_vS, ↓neg_vF, ↓neg_vO, ↓neg_vA, ↓neg_vN, lit_nI, nI_leI, nI_ltI, nI_eq, jm_in_nI, nI_clamp, nI_add, n_mul, pk_sub, n_le_t, n_le_f, n_lt_t, n_lt_f, n_eq_t, n_eq_f, true_and, and_true, ne_eq, not_false_eq_true, not_true_eq_false, min_n, max_n, dif_n, n_rem, n_div, or_nI, shl_nI, Option.toList_some, Option.toList_none, List.singleton_append, List.nil_append, if_true, if_false, or_true, true_or, or_false, false_or, and_false, false_and, Bool.false_eq_true]
  refine c_become isC83 isC25 (by decide) hX hV (fun T1 tX1 tf1 => ?_)
  simp (disch := omega) only [w48_8, w48_9, w48_10, w48_12, w48_13, ht, hs, ↓neg_vM, ↓neg_vB, ↓neg_vS, ↓neg_vF, ↓neg_vO, ↓neg_vA, ↓neg_vN, lit_nI, nI_leI, nI_ltI, nI_eq, jm_in_nI, nI_clamp, nI_add, n_mul, pk_sub, n_le_t, n_le_f, n_lt_t, n_lt_f, n_eq_t, n_eq_f, true_and, and_true, ne_eq, not_false_eq_true, not_true_eq_false, min_n, max_n, dif_n, n_rem, n_div, or_nI, shl_nI, Option.toList_some, Option.toList_none, List.singleton_append, List.nil_append, if_true, if_false, or_true, true_or, or_false, false_or, and_false, false_and, Bool.false_eq_true, nI_l, kl_null, kl_int, kl_long]
  exact key 0 (Nat.zero_le _) T1 tX1 tf1
theorem r_draw2 {r x n s w i : Nat} {u7 : Value} {T : jm_I2} (tM : RM 134 T k) (hV : KV k) (hr : r < k 0) (hx : x < 2 ^ 31) (h3 : k 3 + 1 ≤ 100000) (hi : i ≤ 60) (hZ : ∀ U, RM 134 U (hourA (drB k r x)) → (∀ o, o ≠ 134 → o ≠ 137 → o ≠ 138 → U o = T o) → WQ L (d + 9) 205 63 [.ref 128, .int (nI n), .int (nI s), .int (nI w), .long (lN x), .null, .int (nI (i + 1)), u7, .int (nI r)] [] U Z) : WQ L (d + 9) 205 147 [.ref 128, .int (nI n), .int (nI s), .int (nI w), .long (lN x), .null, .int (nI i), u7, .int (nI r)] [] T Z := by
  have hm := mod_sh L
  have v0 := hV.1
  have b3 := (hV.2.2.2.2.2 r hr).2.2.1
  have e5 : lN x - lN x / lN 5 * lN 5 = lN (x % 5) := pk_lRem (by omega) (by decide) (by decide)
  have hVb := KV_drB hV r x
  have fin : ∀ T1, RM 134 T1 (drB k r x) → (∀ o, o ≠ 134 → T1 o = T o) → WQ L (d + 9) 205 183 [.ref 128, .int (nI n), .int (nI s), .int (nI w), .long (lN x), .null, .int (nI i), u7, .int (nI r)] [] T1 Z := fun T1 tM1 tf1 => by
    simp (disch := omega) only [w205_183, w205_184, w205_185, w205_188, hm, ↓neg_vM, ↓neg_vB, ↓neg_vS, ↓neg_vF, ↓neg_vO, ↓neg_vA, ↓neg_vN, lit_nI, nI_leI, nI_ltI, nI_eq, jm_in_nI, nI_clamp, nI_add, n_mul, pk_sub, n_le_t, n_le_f, n_lt_t, n_lt_f, n_eq_t, n_eq_f, true_and, and_true, ne_eq, not_false_eq_true, not_true_eq_false, min_n, max_n, dif_n, n_rem, n_div, or_nI, shl_nI, Option.toList_some, Option.toList_none, List.singleton_append, List.nil_append, if_true, if_false, or_true, true_or, or_false, false_or, and_false, false_and, Bool.false_eq_true]
    refine r_hour isR134 tM1 hVb (fun U uM uf => ?_)
    simp (disch := omega) only [w205_191, w205_194, hm, ↓neg_vM, ↓neg_vB, ↓neg_vS, ↓neg_vF, ↓neg_vO, ↓neg_vA, ↓neg_vN, lit_nI, nI_leI, nI_ltI, nI_eq, jm_in_nI, nI_clamp, nI_add, n_mul, pk_sub, n_le_t, n_le_f, n_lt_t, n_lt_f, n_eq_t, n_eq_f, true_and, and_true, ne_eq, not_false_eq_true, not_true_eq_false, min_n, max_n, dif_n, n_rem, n_div, or_nI, shl_nI, Option.toList_some, Option.toList_none, List.singleton_append, List.nil_append, if_true, if_false, or_true, true_or, or_false, false_or, and_false, false_and, Bool.false_eq_true, kl_null, kl_int, kl_long]
    exact hZ U uM (fun o a b c => by rw [uf o a b c, tf1 o a])
  unfold drB at fin
  by_cases c : kBt k r = 0
  · by_cases c2 : x % 5 = 0
    · rw [if_pos ⟨c, c2⟩] at fin
      simp (disch := omega) only [w205_147, w205_148, w205_151, w205_153, w205_154, w205_157, w205_160, w205_162, w205_165, w205_166, w205_167, w205_168, w205_171, w205_172, w205_175, w205_177, w205_178, w205_180, hm, ↓neg_vM, ↓neg_vB, ↓neg_vS, ↓neg_vF, ↓neg_vO, ↓neg_vA, ↓neg_vN, lit_nI, nI_leI, nI_ltI, nI_eq, jm_in_nI, nI_clamp, nI_add, n_mul, pk_sub, n_le_t, n_le_f, n_lt_t, n_lt_f, n_eq_t, n_eq_f, true_and, and_true, ne_eq, not_false_eq_true, not_true_eq_false, min_n, max_n, dif_n, n_rem, n_div, or_nI, shl_nI, Option.toList_some, Option.toList_none, List.singleton_append, List.nil_append, if_true, if_false, or_true, true_or, or_false, false_or, and_false, false_and, Bool.false_eq_true, r_of1 isR134 tM, c, lit_lN, e5, lg_eq0, lN_eq, c2, r_be isR134]
      exact fin _ (RM_upd tM) (fun o ho => upd_ne ho)
    · rw [if_neg (fun q => c2 q.2)] at fin
      simp (disch := omega) only [w205_147, w205_148, w205_151, w205_153, w205_154, w205_157, w205_160, w205_162, w205_165, w205_166, w205_167, w205_168, w205_171, w205_172, w205_175, w205_177, w205_178, w205_180, hm, ↓neg_vM, ↓neg_vB, ↓neg_vS, ↓neg_vF, ↓neg_vO, ↓neg_vA, ↓neg_vN, lit_nI, nI_leI, nI_ltI, nI_eq, jm_in_nI, nI_clamp, nI_add, n_mul, pk_sub, n_le_t, n_le_f, n_lt_t, n_lt_f, n_eq_t, n_eq_f, true_and, and_true, ne_eq, not_false_eq_true, not_true_eq_false, min_n, max_n, dif_n, n_rem, n_div, or_nI, shl_nI, Option.toList_some, Option.toList_none, List.singleton_append, List.nil_append, if_true, if_false, or_true, true_or, or_false, false_or, and_false, false_and, Bool.false_eq_true, r_of1 isR134 tM, c, lit_lN, e5, lg_eq0, lN_eq, c2]
      exact fin T tM (fun o _ => rfl)
  · rw [if_neg (fun q => c q.1)] at fin
    simp (disch := omega) only [w205_147, w205_148, w205_151, w205_153, w205_154, w205_157, w205_160, w205_162, w205_165, w205_166, w205_167, w205_168, w205_171, w205_172, w205_175, w205_177, w205_178, w205_180, hm, ↓neg_vM, ↓neg_vB, ↓neg_vS, ↓neg_vF, ↓neg_vO, ↓neg_vA, ↓neg_vN, lit_nI, nI_leI, nI_ltI, nI_eq, jm_in_nI, nI_clamp, nI_add, n_mul, pk_sub, n_le_t, n_le_f, n_lt_t, n_lt_f, n_eq_t, n_eq_f, true_and, and_true, ne_eq, not_false_eq_true, not_true_eq_false, min_n, max_n, dif_n, n_rem, n_div, or_nI, shl_nI, Option.toList_some, Option.toList_none, List.singleton_append, List.nil_append, if_true, if_false, or_true, true_or, or_false, false_or, and_false, false_and, Bool.false_eq_true, r_of1 isR134 tM, c]
    exact fin T tM (fun o _ => rfl)
set_option maxHeartbeats 8000000 in
theorem r_drawn {n s w : Nat} {T : jm_I2} (hM : RM 132 T k) (hV : KV k) (h0 : 0 < k 0) (h1 : 0 < k 1) (h3 : k 3 ≤ 999) (hn : n ≤ 60) (hs9 : s ≤ 999999) (hw : w ≤ 1) (hZ : ∀ U, (∀ o, o ≠ 134 → o ≠ 137 → o ≠ 138 → U o = T o) → Z (some (.int (nI (if w = 0 then bset (kHd (dnK k s n)) (dnK k s n 0) else sumB (dnK k s n) (dnK k s n 0))))) U) : WQ L (d + 9) 205 52 [.ref 128, .int (nI n), .int (nI s), .int (nI w), .null, .null, .null, .null, .null] [] T Z := by
  have hm := mod_sh L
  have v0 := hV.1
  have v1 := hV.2.1
  have key : ∀ i, i ≤ n → ∀ T1 u7 u8, RM 134 T1 (dnK k s i) → (∀ o, o ≠ 134 → o ≠ 137 → o ≠ 138 → T1 o = T o) → WQ L (d + 9) 205 63 [.ref 128, .int (nI n), .int (nI s), .int (nI w), .long (lN (dnX s i)), .null, .int (nI i), u7, u8] [] T1 Z := by
    apply down_ind
    · intro T1 u7 u8 tM tf
      have e := hZ T1 tf
      have hVn := (dnK_ok (s := s) hV h0 h1 n (by omega)).1
      rw [w205_63]
      by_cases c : w = 0
      · rw [if_pos c] at e
        simp (disch := omega) only [w205_65, w205_66, w205_197, w205_198, w205_201, w205_202, w205_205, w205_208, w205_211, w205_212, w205_215, w205_218, hm, ↓neg_vM, ↓neg_vB, ↓neg_vS, ↓neg_vF, ↓neg_vO, ↓neg_vA, ↓neg_vN, lit_nI, nI_leI, nI_ltI, nI_eq, jm_in_nI, nI_clamp, nI_add, n_mul, pk_sub, n_le_t, n_le_f, n_lt_t, n_lt_f, n_eq_t, n_eq_f, true_and, and_true, ne_eq, not_false_eq_true, not_true_eq_false, min_n, max_n, dif_n, n_rem, n_div, or_nI, shl_nI, Option.toList_some, Option.toList_none, List.singleton_append, List.nil_append, if_true, if_false, or_true, true_or, or_false, false_or, and_false, false_and, Bool.false_eq_true, c, r_holding isR134 tM hVn]
        exact e
      · rw [if_neg c] at e
        simp (disch := omega) only [w205_65, w205_66, w205_197, w205_198, w205_201, w205_202, w205_205, w205_208, w205_211, w205_212, w205_215, w205_218, hm, ↓neg_vM, ↓neg_vB, ↓neg_vS, ↓neg_vF, ↓neg_vO, ↓neg_vA, ↓neg_vN, lit_nI, nI_leI, nI_ltI, nI_eq, jm_in_nI, nI_clamp, nI_add, n_mul, pk_sub, n_le_t, n_le_f, n_lt_t, n_lt_f, n_eq_t, n_eq_f, true_and, and_true, ne_eq, not_false_eq_true, not_true_eq_false, min_n, max_n, dif_n, n_rem, n_div, or_nI, shl_nI, Option.toList_some, Option.toList_none, List.singleton_append, List.nil_append, if_true, if_false, or_true, true_or, or_false, false_or, and_false, false_and, Bool.false_eq_true, c, r_allBeat isR134 tM hVn]
        exact e
    · intro i hi ih T1 u7 u8 tM tf
      have hx := dnX_lt hs9 i
      have hx2 := dnX_lt hs9 (i + 1)
      obtain ⟨a, b, c, e⟩ := dnK_ok (s := s) hV h0 h1 i (by omega)
      have er : lN (dnX s i * 16807) - lN (dnX s i * 16807) / lN 2147483647 * lN 2147483647 = lN (dnX s (i + 1)) := pk_lRem (by omega) (by decide) (by decide)
      have ih' : ∀ U u7 u8, RM 134 U (hourA (drK (dnK k s i) (dnX s (i + 1)))) → (∀ o, o ≠ 134 → o ≠ 137 → o ≠ 138 → U o = T o) → WQ L (d + 9) 205 63 [.ref 128, .int (nI n), .int (nI s), .int (nI w), .long (lN (dnX s (i + 1))), .null, .int (nI (i + 1)), u7, u8] [] U Z := fun U u7 u8 q1 q2 => ih U u7 u8 q1 q2
      clear ih
      have g1 : T1 134 1 = nI (k 1) := by rw [tM 1 (by decide), c]
      have g0 : T1 134 0 = nI (k 0) := by rw [tM 0 (by decide), b]
      unfold drK drA at ih'
      rw [b, c] at ih'
      have hVa := KV_drA a (by omega) (by omega) (dnX s (i + 1))
      unfold drA at hVa
      rw [b, c] at hVa
      generalize dnX s (i + 1) = x at er hx2 ih' hVa
      generalize hK : dnK k s i = K at tM a b c e ih' hVa
      have m1 := Nat.mod_lt x h1
      have m0 := Nat.mod_lt x h0
      have m3 := Nat.mod_lt x (show 0 < 3 by decide)
      have e1 : lN x - lN x / lN (k 1) * lN (k 1) = lN (x % k 1) := pk_lRem (by omega) h1 (by omega)
      have e0 : lN x - lN x / lN (k 0) * lN (k 0) = lN (x % k 0) := pk_lRem (by omega) h0 (by omega)
      have e3 : lN x - lN x / lN 3 * lN 3 = lN (x % 3) := pk_lRem (by omega) (by decide) (by decide)
      rw [w205_63]
      by_cases c0 : x % 3 = 0
      · rw [if_pos c0] at ih' hVa
        simp (disch := omega) only [w205_65, w205_66, w205_69, w205_71, w205_74, w205_75, w205_78, w205_79, w205_81, w205_83, w205_84, w205_87, w205_88, w205_89, w205_90, w205_91, w205_92, w205_94, w205_96, w205_97, w205_100, w205_101, w205_102, w205_103, w205_104, w205_105, w205_107, w205_109, w205_112, w205_113, w205_116, w205_117, w205_120, w205_121, w205_124, w205_126, w205_128, w205_131, w205_132, w205_133, w205_134, w205_137, w205_139, w205_142, w205_144, hm, ↓neg_vM, ↓neg_vB, ↓neg_vS, ↓neg_vF, ↓neg_vO, ↓neg_vA, ↓neg_vN, lit_nI, nI_leI, nI_ltI, nI_eq, jm_in_nI, nI_clamp, nI_add, n_mul, pk_sub, n_le_t, n_le_f, n_lt_t, n_lt_f, n_eq_t, n_eq_f, true_and, and_true, ne_eq, not_false_eq_true, not_true_eq_false, min_n, max_n, dif_n, n_rem, n_div, or_nI, shl_nI, Option.toList_some, Option.toList_none, List.singleton_append, List.nil_append, if_true, if_false, or_true, true_or, or_false, false_or, and_false, false_and, Bool.false_eq_true, g1, g0, lit_lN, nI_l, lN_mul, er, e1, e0, e3, lg_eq0, lg_ge, lN_lt, lN_eq, lN_i, c0, r_plays isR134, kl_null, kl_int, kl_long]
        exact r_draw2 (RM_upd tM) hVa (by rw [kU_ne (by omega), b]; exact m0) (by omega) (by rw [kU_ne (by omega)]; omega) (by omega) (fun U uM uf => ih' U _ _ uM (fun o x y z => by rw [uf o x y z, upd_ne x, tf o x y z]))
      · by_cases c1 : x % 3 = 1
        · rw [if_neg c0, if_pos c1] at ih' hVa
          simp (disch := omega) only [w205_65, w205_66, w205_69, w205_71, w205_74, w205_75, w205_78, w205_79, w205_81, w205_83, w205_84, w205_87, w205_88, w205_89, w205_90, w205_91, w205_92, w205_94, w205_96, w205_97, w205_100, w205_101, w205_102, w205_103, w205_104, w205_105, w205_107, w205_109, w205_112, w205_113, w205_116, w205_117, w205_120, w205_121, w205_124, w205_126, w205_128, w205_131, w205_132, w205_133, w205_134, w205_137, w205_139, w205_142, w205_144, hm, ↓neg_vM, ↓neg_vB, ↓neg_vS, ↓neg_vF, ↓neg_vO, ↓neg_vA, ↓neg_vN, lit_nI, nI_leI, nI_ltI, nI_eq, jm_in_nI, nI_clamp, nI_add, n_mul, pk_sub, n_le_t, n_le_f, n_lt_t, n_lt_f, n_eq_t, n_eq_f, true_and, and_true, ne_eq, not_false_eq_true, not_true_eq_false, min_n, max_n, dif_n, n_rem, n_div, or_nI, shl_nI, Option.toList_some, Option.toList_none, List.singleton_append, List.nil_append, if_true, if_false, or_true, true_or, or_false, false_or, and_false, false_and, Bool.false_eq_true, g1, g0, lit_lN, nI_l, lN_mul, er, e1, e0, e3, lg_eq0, lg_ge, lN_lt, lN_eq, lN_i, c1, r_playsN isR134, kl_null, kl_int, kl_long]
          exact r_draw2 (RM_upd tM) hVa (by rw [kU_ne (by omega), b]; exact m0) (by omega) (by rw [kU_ne (by omega)]; omega) (by omega) (fun U uM uf => ih' U _ _ uM (fun o x y z => by rw [uf o x y z, upd_ne x, tf o x y z]))
        · rw [if_neg c0, if_neg c1] at ih' hVa
          simp (disch := omega) only [w205_65, w205_66, w205_69, w205_71, w205_74, w205_75, w205_78, w205_79, w205_81, w205_83, w205_84, w205_87, w205_88, w205_89, w205_90, w205_91, w205_92, w205_94, w205_96, w205_97, w205_100, w205_101, w205_102, w205_103, w205_104, w205_105, w205_107, w205_109, w205_112, w205_113, w205_116, w205_117, w205_120, w205_121, w205_124, w205_126, w205_128, w205_131, w205_132, w205_133, w205_134, w205_137, w205_139, w205_142, w205_144, hm, ↓neg_vM, ↓neg_vB, ↓neg_vS, ↓neg_vF, ↓neg_vO, ↓neg_vA, ↓neg_vN, lit_nI, nI_leI, nI_ltI, nI_eq, jm_in_nI, nI_clamp, nI_add, n_mul, pk_sub, n_le_t, n_le_f, n_lt_t, n_lt_f, n_eq_t, n_eq_f, true_and, and_true, ne_eq, not_false_eq_true, not_true_eq_false, min_n, max_n, dif_n, n_rem, n_div, or_nI, shl_nI, Option.toList_some, Option.toList_none, List.singleton_append, List.nil_append, if_true, if_false, or_true, true_or, or_false, false_or, and_false, false_and, Bool.false_eq_true, g1, g0, lit_lN, nI_l, lN_mul, er, e1, e0, e3, lg_eq0, lg_ge, lN_lt, lN_eq, lN_i, kl_null, kl_int, kl_long]
          exact r_draw2 tM hVa (by rw [b]; exact m0) (by omega) (by omega) (by omega) (fun U uM uf => ih' U _ _ uM (fun o x y z => by rw [uf o x y z, tf o x y z]))
  simp (disch := omega) only [w205_52, w205_53, w205_56, w205_57, w205_58, w205_60, w205_61, hm, ↓neg_vM, ↓neg_vB, ↓neg_vS, ↓neg_vF, ↓neg_vO, ↓neg_vA, ↓neg_vN, lit_nI, nI_leI, nI_ltI, nI_eq, jm_in_nI, nI_clamp, nI_add, n_mul, pk_sub, n_le_t, n_le_f, n_lt_t, n_lt_f, n_eq_t, n_eq_f, true_and, and_true, ne_eq, not_false_eq_true, not_true_eq_false, min_n, max_n, dif_n, n_rem, n_div, or_nI, shl_nI, Option.toList_some, Option.toList_none, List.singleton_append, List.nil_append, if_true, if_false, or_true, true_or, or_false, false_or, and_false, false_and, Bool.false_eq_true, nI_l, r_layThen hM, kl_null, kl_int, kl_long]
  exact key 0 (Nat.zero_le _) _ _ _ RM_fill (fun o a _ _ => fillS_ne a)
set_option maxHeartbeats 8000000 in
theorem p_drawn {v w b : Int32} (hI : InvK xs S k) : CL L (d + 9) 108 [.ref 0, .int v, .int w, .int b] S (Zx xs L (d + 9) 205 [.ref 128, .int v, .int w, .int b]) := by
  have ht := top_sh L
  have hm := mod_sh L
  have hs := camp_sh isC83
  obtain ⟨hX, hM, hV, h999, h01⟩ := hI.2.2.2.1
  have hM4 : RM 132 (jm_upd S 128 0 (nI 0)) k := RM_of hM (upd_ne (by decide))
  have v0 := hV.1
  by_cases h : k 0 = 0
  · simp (disch := omega) only [w108_0, w108_1, w108_4, w108_7, w108_9, w108_10, w108_11, w108_12, w108_14, w108_17, w108_20, w108_21, w108_22, w108_25, w108_28, w108_31, w108_32, w108_33, w108_34, w108_37, w108_40, w108_42, cl108, ht, ↓neg_vM, ↓neg_vB, ↓neg_vS, ↓neg_vF, ↓neg_vO, ↓neg_vA, ↓neg_vN, lit_nI, nI_leI, nI_ltI, nI_eq, jm_in_nI, nI_clamp, nI_add, n_mul, pk_sub, n_le_t, n_le_f, n_lt_t, n_lt_f, n_eq_t, n_eq_f, true_and, and_true, ne_eq, not_false_eq_true, not_true_eq_false, min_n, max_n, dif_n, n_rem, n_div, or_nI, shl_nI, Option.toList_some, Option.toList_none, List.singleton_append, List.nil_append, if_true, if_false, or_true, true_or, or_false, false_or, and_false, false_and, Bool.false_eq_true, Zx_some, c_noCamp hX hV, h]
    simp (disch := omega) only [w205_0, w205_1, w205_2, w205_5, w205_6, w205_9, w205_12, w205_14, w205_15, w205_16, w205_17, w205_18, w205_21, w205_24, w205_27, w205_28, w205_29, w205_30, w205_33, w205_36, w205_39, w205_40, w205_41, w205_42, w205_43, w205_46, w205_49, w205_51, cl205, hm, ↓neg_vM, ↓neg_vB, ↓neg_vS, ↓neg_vF, ↓neg_vO, ↓neg_vA, ↓neg_vN, lit_nI, nI_leI, nI_ltI, nI_eq, jm_in_nI, nI_clamp, nI_add, n_mul, pk_sub, n_le_t, n_le_f, n_lt_t, n_lt_f, n_eq_t, n_eq_f, true_and, and_true, ne_eq, not_false_eq_true, not_true_eq_false, min_n, max_n, dif_n, n_rem, n_div, or_nI, shl_nI, Option.toList_some, Option.toList_none, List.singleton_append, List.nil_append, if_true, if_false, or_true, true_or, or_false, false_or, and_false, false_and, Bool.false_eq_true, Zm_some, r_isThere hM4 v0, h]
    exact ⟨k, InvK_same hI Same_thrown⟩
  · by_cases h1 : nI 0 ≤ v ∧ v ≤ nI 60
    · by_cases h2 : nI 1 ≤ w ∧ w ≤ nI 999999
      · by_cases h3 : nI 0 ≤ b ∧ b ≤ nI 1
        · obtain ⟨n, -, hn, rfl⟩ := btw (by decide) h1 (by decide)
          obtain ⟨s, hs1, hs9, rfl⟩ := btw (by decide) h2 (by decide)
          obtain ⟨w, -, hw, rfl⟩ := btw (by decide) h3 (by decide)
          clear h1 h2 h3
          have hk1 := h01 (by omega)
          simp (disch := omega) only [w108_0, w108_1, w108_4, w108_7, w108_9, w108_10, w108_11, w108_12, w108_14, w108_17, w108_20, w108_21, w108_22, w108_25, w108_28, w108_31, w108_32, w108_33, w108_34, w108_37, w108_40, w108_42, w108_43, w108_44, w108_47, w108_48, w108_51, w108_52, w108_53, cl108, ht, ↓neg_vM, ↓neg_vB, ↓neg_vS, ↓neg_vF, ↓neg_vO, ↓neg_vA, ↓neg_vN, lit_nI, nI_leI, nI_ltI, nI_eq, jm_in_nI, nI_clamp, nI_add, n_mul, pk_sub, n_le_t, n_le_f, n_lt_t, n_lt_f, n_eq_t, n_eq_f, true_and, and_true, ne_eq, not_false_eq_true, not_true_eq_false, min_n, max_n, dif_n, n_rem, n_div, or_nI, shl_nI, Option.toList_some, Option.toList_none, List.singleton_append, List.nil_append, if_true, if_false, or_true, true_or, or_false, false_or, and_false, false_and, Bool.false_eq_true, c_noCamp hX hV, h, c_withinP]
          refine c_drawnNights hX hV (by omega) hk1 h999 hn hs9 (fun T tX tf => ?_)
          have hVn := (dnK_ok (s := s) hV (by omega) hk1 n (by omega)).1
          have hM5 : RM 132 (jm_upd T 128 0 (nI 0)) k := RM_of hM (by rw [upd_ne (by decide), tf _ (by decide)])
          have R : CL L (d + 9) 205 [.ref 128, .int (nI n), .int (nI s), .int (nI w)] T (Zm xs (nI (if w = 0 then bset (kHd (dnK k s n)) (dnK k s n 0) else sumB (dnK k s n) (dnK k s n 0)))) := by
            simp (disch := omega) only [cl205, w205_0, w205_1, w205_2, w205_5, w205_6, w205_9, w205_12, w205_14, w205_15, w205_16, w205_17, w205_18, w205_21, w205_24, w205_27, w205_28, w205_29, w205_30, w205_33, w205_36, w205_39, w205_40, w205_41, w205_42, w205_43, w205_46, w205_49, w205_51, hm, ↓neg_vM, ↓neg_vB, ↓neg_vS, ↓neg_vF, ↓neg_vO, ↓neg_vA, ↓neg_vN, lit_nI, nI_leI, nI_ltI, nI_eq, jm_in_nI, nI_clamp, nI_add, n_mul, pk_sub, n_le_t, n_le_f, n_lt_t, n_lt_f, n_eq_t, n_eq_f, true_and, and_true, ne_eq, not_false_eq_true, not_true_eq_false, min_n, max_n, dif_n, n_rem, n_div, or_nI, shl_nI, Option.toList_some, Option.toList_none, List.singleton_append, List.nil_append, if_true, if_false, or_true, true_or, or_false, false_or, and_false, false_and, Bool.false_eq_true, r_isThere hM5 v0, h, lit_lN, nI_l, r_in, lN_le]
            refine r_drawn hM5 hV (by omega) hk1 h999 hn hs9 hw (fun U uf => ?_)
            rw [Zm_some]
            refine ⟨rfl, k, InvK_same hI (Same_q (fun o ho h1 => ?_) (fun i hi => ?_))⟩
            · unfold scr at ho
              rw [uf o (by omega) (by omega) (by omega), upd_ne h1, tf o (by omega)]
            · rw [uf 128 (by omega) (by omega) (by omega), upd_at, if_neg (fun q => hi q.2), tf 128 (by omega)]
          by_cases cw : w = 0
          · rw [if_pos cw] at R
            subst cw
            simp (disch := omega) only [w108_56, w108_58, w108_59, w108_62, w108_64, w108_67, w108_70, w108_72, w108_75, ht, hs, ↓neg_vM, ↓neg_vB, ↓neg_vS, ↓neg_vF, ↓neg_vO, ↓neg_vA, ↓neg_vN, lit_nI, nI_leI, nI_ltI, nI_eq, jm_in_nI, nI_clamp, nI_add, n_mul, pk_sub, n_le_t, n_le_f, n_lt_t, n_lt_f, n_eq_t, n_eq_f, true_and, and_true, ne_eq, not_false_eq_true, not_true_eq_false, min_n, max_n, dif_n, n_rem, n_div, or_nI, shl_nI, Option.toList_some, Option.toList_none, List.singleton_append, List.nil_append, if_true, if_false, or_true, true_or, or_false, false_or, and_false, false_and, Bool.false_eq_true, c_holding isC83 tX hVn, Zx_some]
            exact R
          · rw [if_neg cw] at R
            simp (disch := omega) only [w108_56, w108_58, w108_59, w108_62, w108_64, w108_67, w108_70, w108_72, w108_75, ht, hs, ↓neg_vM, ↓neg_vB, ↓neg_vS, ↓neg_vF, ↓neg_vO, ↓neg_vA, ↓neg_vN, lit_nI, nI_leI, nI_ltI, nI_eq, jm_in_nI, nI_clamp, nI_add, n_mul, pk_sub, n_le_t, n_le_f, n_lt_t, n_lt_f, n_eq_t, n_eq_f, true_and, and_true, ne_eq, not_false_eq_true, not_true_eq_false, min_n, max_n, dif_n, n_rem, n_div, or_nI, shl_nI, Option.toList_some, Option.toList_none, List.singleton_append, List.nil_append, if_true, if_false, or_true, true_or, or_false, false_or, and_false, false_and, Bool.false_eq_true, c_allBeat isC83 tX hVn, cw, Zx_some]
            exact R
        · simp (disch := omega) only [w108_0, w108_1, w108_4, w108_7, w108_9, w108_10, w108_11, w108_12, w108_14, w108_17, w108_20, w108_21, w108_22, w108_25, w108_28, w108_31, w108_32, w108_33, w108_34, w108_37, w108_40, w108_42, cl108, ht, ↓neg_vM, ↓neg_vB, ↓neg_vS, ↓neg_vF, ↓neg_vO, ↓neg_vA, ↓neg_vN, lit_nI, nI_leI, nI_ltI, nI_eq, jm_in_nI, nI_clamp, nI_add, n_mul, pk_sub, n_le_t, n_le_f, n_lt_t, n_lt_f, n_eq_t, n_eq_f, true_and, and_true, ne_eq, not_false_eq_true, not_true_eq_false, min_n, max_n, dif_n, n_rem, n_div, or_nI, shl_nI, Option.toList_some, Option.toList_none, List.singleton_append, List.nil_append, if_true, if_false, or_true, true_or, or_false, false_or, and_false, false_and, Bool.false_eq_true, Zx_some, c_noCamp hX hV, h, c_withinP, h1, h2, h3]
          simp (disch := omega) only [w205_0, w205_1, w205_2, w205_5, w205_6, w205_9, w205_12, w205_14, w205_15, w205_16, w205_17, w205_18, w205_21, w205_24, w205_27, w205_28, w205_29, w205_30, w205_33, w205_36, w205_39, w205_40, w205_41, w205_42, w205_43, w205_46, w205_49, w205_51, cl205, hm, ↓neg_vM, ↓neg_vB, ↓neg_vS, ↓neg_vF, ↓neg_vO, ↓neg_vA, ↓neg_vN, lit_nI, nI_leI, nI_ltI, nI_eq, jm_in_nI, nI_clamp, nI_add, n_mul, pk_sub, n_le_t, n_le_f, n_lt_t, n_lt_f, n_eq_t, n_eq_f, true_and, and_true, ne_eq, not_false_eq_true, not_true_eq_false, min_n, max_n, dif_n, n_rem, n_div, or_nI, shl_nI, Option.toList_some, Option.toList_none, List.singleton_append, List.nil_append, if_true, if_false, or_true, true_or, or_false, false_or, and_false, false_and, Bool.false_eq_true, Zm_some, r_isThere hM4 v0, h, lit_lN, r_in, lx_le, xl_le, h1, h2, h3]
          exact ⟨k, InvK_same hI Same_thrown⟩
      · simp (disch := omega) only [w108_0, w108_1, w108_4, w108_7, w108_9, w108_10, w108_11, w108_12, w108_14, w108_17, w108_20, w108_21, w108_22, w108_25, w108_28, w108_31, w108_32, w108_33, w108_34, w108_37, w108_40, w108_42, cl108, ht, ↓neg_vM, ↓neg_vB, ↓neg_vS, ↓neg_vF, ↓neg_vO, ↓neg_vA, ↓neg_vN, lit_nI, nI_leI, nI_ltI, nI_eq, jm_in_nI, nI_clamp, nI_add, n_mul, pk_sub, n_le_t, n_le_f, n_lt_t, n_lt_f, n_eq_t, n_eq_f, true_and, and_true, ne_eq, not_false_eq_true, not_true_eq_false, min_n, max_n, dif_n, n_rem, n_div, or_nI, shl_nI, Option.toList_some, Option.toList_none, List.singleton_append, List.nil_append, if_true, if_false, or_true, true_or, or_false, false_or, and_false, false_and, Bool.false_eq_true, Zx_some, c_noCamp hX hV, h, c_withinP, h1, h2]
        simp (disch := omega) only [w205_0, w205_1, w205_2, w205_5, w205_6, w205_9, w205_12, w205_14, w205_15, w205_16, w205_17, w205_18, w205_21, w205_24, w205_27, w205_28, w205_29, w205_30, w205_33, w205_36, w205_39, w205_40, w205_41, w205_42, w205_43, w205_46, w205_49, w205_51, cl205, hm, ↓neg_vM, ↓neg_vB, ↓neg_vS, ↓neg_vF, ↓neg_vO, ↓neg_vA, ↓neg_vN, lit_nI, nI_leI, nI_ltI, nI_eq, jm_in_nI, nI_clamp, nI_add, n_mul, pk_sub, n_le_t, n_le_f, n_lt_t, n_lt_f, n_eq_t, n_eq_f, true_and, and_true, ne_eq, not_false_eq_true, not_true_eq_false, min_n, max_n, dif_n, n_rem, n_div, or_nI, shl_nI, Option.toList_some, Option.toList_none, List.singleton_append, List.nil_append, if_true, if_false, or_true, true_or, or_false, false_or, and_false, false_and, Bool.false_eq_true, Zm_some, r_isThere hM4 v0, h, lit_lN, r_in, lx_le, xl_le, h1, h2]
        exact ⟨k, InvK_same hI Same_thrown⟩
    · simp (disch := omega) only [w108_0, w108_1, w108_4, w108_7, w108_9, w108_10, w108_11, w108_12, w108_14, w108_17, w108_20, w108_21, w108_22, w108_25, w108_28, w108_31, w108_32, w108_33, w108_34, w108_37, w108_40, w108_42, cl108, ht, ↓neg_vM, ↓neg_vB, ↓neg_vS, ↓neg_vF, ↓neg_vO, ↓neg_vA, ↓neg_vN, lit_nI, nI_leI, nI_ltI, nI_eq, jm_in_nI, nI_clamp, nI_add, n_mul, pk_sub, n_le_t, n_le_f, n_lt_t, n_lt_f, n_eq_t, n_eq_f, true_and, and_true, ne_eq, not_false_eq_true, not_true_eq_false, min_n, max_n, dif_n, n_rem, n_div, or_nI, shl_nI, Option.toList_some, Option.toList_none, List.singleton_append, List.nil_append, if_true, if_false, or_true, true_or, or_false, false_or, and_false, false_and, Bool.false_eq_true, Zx_some, c_noCamp hX hV, h, c_withinP, h1]
      simp (disch := omega) only [w205_0, w205_1, w205_2, w205_5, w205_6, w205_9, w205_12, w205_14, w205_15, w205_16, w205_17, w205_18, w205_21, w205_24, w205_27, w205_28, w205_29, w205_30, w205_33, w205_36, w205_39, w205_40, w205_41, w205_42, w205_43, w205_46, w205_49, w205_51, cl205, hm, ↓neg_vM, ↓neg_vB, ↓neg_vS, ↓neg_vF, ↓neg_vO, ↓neg_vA, ↓neg_vN, lit_nI, nI_leI, nI_ltI, nI_eq, jm_in_nI, nI_clamp, nI_add, n_mul, pk_sub, n_le_t, n_le_f, n_lt_t, n_lt_f, n_eq_t, n_eq_f, true_and, and_true, ne_eq, not_false_eq_true, not_true_eq_false, min_n, max_n, dif_n, n_rem, n_div, or_nI, shl_nI, Option.toList_some, Option.toList_none, List.singleton_append, List.nil_append, if_true, if_false, or_true, true_or, or_false, false_or, and_false, false_and, Bool.false_eq_true, Zm_some, r_isThere hM4 v0, h, lit_lN, r_in, lx_le, xl_le, h1]
      exact ⟨k, InvK_same hI Same_thrown⟩
end
