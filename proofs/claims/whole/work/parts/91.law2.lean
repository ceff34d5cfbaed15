theorem and63 (x : Int32) : ∃ t, t < 64 ∧ x &&& nI 63 = nI t := by
  refine ⟨(x.toBitVec &&& BitVec.ofNat 32 63).toNat, ?_, ?_⟩
  · rw [BitVec.toNat_and]
    exact Nat.lt_of_le_of_lt Nat.and_le_right (by decide)
  · apply Int32.toBitVec_inj.mp
    show x.toBitVec &&& BitVec.ofNat 32 63 = BitVec.ofNat 32 (x.toBitVec &&& BitVec.ofNat 32 63).toNat
    rw [BitVec.ofNat_toNat, BitVec.setWidth_eq]
theorem law_sw : ∀ t, t < 64 → jm_sw (nI t) [(0, 204), (1, 247), (2, 290), (3, 353), (4, 376), (5, 399), (6, 412), (7, 425), (8, 438), (9, 461), (10, 494), (11, 527), (12, 560), (13, 593), (14, 626), (15, 659), (16, 682), (17, 715), (18, 748), (19, 771), (20, 794), (21, 817), (22, 860), (23, 893), (24, 926), (25, 949), (26, 992), (27, 1025), (28, 1088), (29, 1151), (30, 1205), (31, 1248), (32, 1271), (33, 1294), (34, 1317), (35, 1350), (36, 1383), (37, 1406), (38, 1429)] 1442 = if t < 39 then ([204, 247, 290, 353, 376, 399, 412, 425, 438, 461, 494, 527, 560, 593, 626, 659, 682, 715, 748, 771, 794, 817, 860, 893, 926, 949, 992, 1025, 1088, 1151, 1205, 1248, 1271, 1294, 1317, 1350, 1383, 1406, 1429] : List Nat).getD t 0 else 1442 := by decide +kernel
section
variable {xs : Nat → Int32} {L : Nat} {S : jm_I2} {Z : Option Value → jm_I2 → Prop} {i : Nat}
theorem law_disp {t : Nat} (ht39 : t < 39) (hi : i + 6 ≤ L) (hL : L ≤ 384) (hI : Inv xs S) (hZ : ∀ T, Inv xs T → WQ (L + 1) 100 223 1442 [.ref jx_S, .ref 0, .ref 128, .int (nI i)] [] T Z) : WQ (L + 1) 100 223 (([204, 247, 290, 353, 376, 399, 412, 425, 438, 461, 494, 527, 560, 593, 626, 659, 682, 715, 748, 771, 794, 817, 860, 893, 926, 949, 992, 1025, 1088, 1151, 1205, 1248, 1271, 1294, 1317, 1350, 1383, 1406, 1429] : List Nat).getD t 0) [.ref jx_S, .ref 0, .ref 128, .int (nI i)] [] S Z := by
      match t, ht39 with
      | 0, _ => exact law_row hi hL hI hZ
      | 1, _ => exact law_set hi hL hI hZ
      | 2, _ => exact law_copy hi hL hI hZ
      | 3, _ => exact law_drop hi hL hI hZ
      | 4, _ => exact law_feed hi hL hI hZ
      | 5, _ => exact law_camp hi hL hI hZ
      | 6, _ => exact law_fault hi hL hI hZ
      | 7, _ => exact law_undo hi hL hI hZ
      | 8, _ => exact law_hours hi hL hI hZ
      | 9, _ => exact law_give hi hL hI hZ
      | 10, _ => exact law_play hi hL hI hZ
      | 11, _ => exact law_soup hi hL hI hZ
      | 12, _ => exact law_bars hi hL hI hZ
      | 13, _ => exact law_rule hi hL hI hZ
      | 14, _ => exact law_hand hi hL hI hZ
      | 15, _ => exact law_stand hi hL hI hZ
      | 16, _ => exact law_ahead hi hL hI hZ
      | 17, _ => exact law_strong hi hL hI hZ
      | 18, _ => exact law_barred hi hL hI hZ
      | 19, _ => exact law_when hi hL hI hZ
      | 20, _ => exact law_first hi hL hI hZ
      | 21, _ => exact law_hands hi hL hI hZ
      | 22, _ => exact law_rota hi hL hI hZ
      | 23, _ => exact law_cover hi hL hI hZ
      | 24, _ => exact law_fall hi hL hI hZ
      | 25, _ => exact law_byTurns hi hL hI hZ
      | 26, _ => exact law_share hi hL hI hZ
      | 27, _ => exact law_who hi hL hI hZ
      | 28, _ => exact law_felt hi hL hI hZ
      | 29, _ => exact law_sleep hi hL hI hZ
      | 30, _ => exact law_drawn hi hL hI hZ
      | 31, _ => exact law_image hi hL hI hZ
      | 32, _ => exact law_restore hi hL hI hZ
      | 33, _ => exact law_kind hi hL hI hZ
      | 34, _ => exact law_as hi hL hI hZ
      | 35, _ => exact law_ask hi hL hI hZ
      | 36, _ => exact law_trace hi hL hI hZ
      | 37, _ => exact law_count hi hL hI hZ
      | 38, _ => exact law_status hi hL hI hZ
      | q + 39, h => exact absurd h (by omega)
theorem law_step (hi : i + 6 ≤ L) (hL : L ≤ 384) (hI : Inv xs S) (hZ : ∀ T, Inv xs T → WQ (L + 1) 100 223 1442 [.ref jx_S, .ref 0, .ref 128, .int (nI i)] [] T Z) : WQ (L + 1) 100 223 18 [.ref jx_S, .ref 0, .ref 128, .int (nI i)] [] S Z := by
  have hS := sh_S L
  have sx : S jx_S = xs := hI.choose_spec.1.1
  obtain ⟨t, ht, et⟩ := and63 (xs i)
  have sw := law_sw t ht
  simp (disch := omega) only [w223_18, w223_19, w223_20, w223_21, w223_23, w223_24, w223_27, w223_28, w223_29, w223_30, w223_32, hS, ↓neg_vM, ↓neg_vB, ↓neg_vS, ↓neg_vF, ↓neg_vO, ↓neg_vA, ↓neg_vN, lit_nI, nI_leI, nI_ltI, nI_eq, jm_in_nI, nI_clamp, nI_add, n_mul, pk_sub, n_le_t, n_le_f, n_lt_t, n_lt_f, n_eq_t, n_eq_f, true_and, and_true, ne_eq, not_false_eq_true, not_true_eq_false, min_n, max_n, dif_n, n_rem, n_div, or_nI, shl_nI, Option.toList_some, Option.toList_none, List.singleton_append, List.nil_append, if_true, if_false, or_true, true_or, or_false, false_or, and_false, false_and, Bool.false_eq_true, sx, et]
  rw [w223_33]
  rw [show jm_sw (nI t) [(0, 204), (1, 247), (2, 290), (3, 353), (4, 376), (5, 399), (6, 412), (7, 425), (8, 438), (9, 461), (10, 494), (11, 527), (12, 560), (13, 593), (14, 626), (15, 659), (16, 682), (17, 715), (18, 748), (19, 771), (20, 794), (21, 817), (22, 860), (23, 893), (24, 926), (25, 949), (26, 992), (27, 1025), (28, 1088), (29, 1151), (30, 1205), (31, 1248), (32, 1271), (33, 1294), (34, 1317), (35, 1350), (36, 1383), (37, 1406), (38, 1429)] 1442 = _ from sw]
  by_cases c : t < 39
  · rw [if_pos c]
    exact law_disp c hi hL hI hZ
  · rw [if_neg c]
    exact hZ S hI
theorem law_loop (hL : L ≤ 384) : ∀ (m i : Nat) (S : jm_I2), L < i + 6 + 6 * m → i ≤ 1000 → Inv xs S → WQ (L + 1) 100 223 18 [.ref jx_S, .ref 0, .ref 128, .int (nI i)] [] S (fun r _ => r = some (.int 1)) := by
  have hS := sh_S L
  have ex : ∀ (i : Nat) (S : jm_I2), L < i + 6 → i ≤ 1000 → WQ (L + 1) 100 223 18 [.ref jx_S, .ref 0, .ref 128, .int (nI i)] [] S (fun r _ => r = some (.int 1)) := fun i S h hi => by
    have c24 : (nI L - nI 6 < nI i) = True := eq_true (by
      rw [Int32.lt_iff_toInt_lt, sub_toInt (by omega) (by decide), nI_toInt (by omega)]
      omega)
    simp (disch := omega) only [w223_18, w223_19, w223_20, w223_21, w223_23, w223_24, w223_1448, w223_1449, hS, lit_nI, true_and, c24, if_true, nI_eq, n_eq_t, n_eq_f, or_true, true_or, false_or]
  intro m
  induction m with
  | zero =>
    intro i S h hi hI
    exact ex i S (by omega) hi
  | succ m ih =>
    intro i S h hi hI
    by_cases c : L < i + 6
    · exact ex i S c hi
    · refine law_step (by omega) hL hI (fun T hT => ?_)
      simp (disch := omega) only [w223_1442, w223_1445, ↓neg_vM, ↓neg_vB, ↓neg_vS, ↓neg_vF, ↓neg_vO, ↓neg_vA, ↓neg_vN, lit_nI, nI_leI, nI_ltI, nI_eq, jm_in_nI, nI_clamp, nI_add, n_mul, pk_sub, n_le_t, n_le_f, n_lt_t, n_lt_f, n_eq_t, n_eq_f, true_and, and_true, ne_eq, not_false_eq_true, not_true_eq_false, min_n, max_n, dif_n, n_rem, n_div, or_nI, shl_nI, Option.toList_some, Option.toList_none, List.singleton_append, List.nil_append, if_true, if_false, or_true, true_or, or_false, false_or, and_false, false_and, Bool.false_eq_true, kl_ref]
      exact ih (i + 6) T (by omega) (by omega) hT
theorem ini_Inv (h : jm_ini xs S) : Inv xs S := by
  obtain ⟨h1, h2, h3⟩ := h
  have z : ∀ o k, o < 144 → k < jm_sz o → o ≠ 12 → o ≠ 129 → S o k = nI 0 := fun o k ho hk n1 n2 => by
    rw [h3 o ho k hk, if_neg (by omega)]
    rfl
  have zm : ∀ k, k < 8 → S 12 k = vM ∧ S 129 k = vM := fun k hk => by
    have s12 : jm_sz 12 = 8 := by decide +kernel
    have s129 : jm_sz 129 = 8 := by decide +kernel
    rw [h3 12 (by decide) k (by omega), h3 129 (by decide) k (by omega), if_pos (Or.inl rfl), if_pos (Or.inr rfl)]
    exact ⟨rfl, rfl⟩
  have sz : jm_sz 0 = 10 ∧ jm_sz 13 = 5 ∧ jm_sz 25 = 13 ∧ jm_sz 36 = 13 ∧ jm_sz 46 = 13 ∧ jm_sz 56 = 3 ∧ jm_sz 126 = 2 ∧ jm_sz 128 = 27 ∧ jm_sz 132 = 34 ∧ jm_sz 141 = 2 := by decide +kernel
  obtain ⟨s0, s13, s25, s36, s46, s56, s126, s128, s132, s141⟩ := sz
  have hV0 : KV (fun _ => 0) := ⟨Nat.zero_le _, Nat.zero_le _, Nat.zero_le _, Nat.zero_le _, fun h hh => absurd hh (Nat.not_lt_zero _), fun r hr => absurd hr (Nat.not_lt_zero _)⟩
  have hG0 : KG (fun _ => 0) := ⟨hV0, Nat.zero_le _, fun q => absurd q (Nat.lt_irrefl _)⟩
  have rx : ∀ c, c < 144 → jm_sz c = 13 → c ≠ 12 → c ≠ 129 → RX c S (fun _ => 0) := fun c hc hs n1 n2 => ⟨z c 0 hc (by omega) n1 n2, z c 1 hc (by omega) n1 n2, z c 2 hc (by omega) n1 n2, z c 3 hc (by omega) n1 n2, fun h hh => absurd hh (Nat.not_lt_zero _), fun r hr => absurd hr (Nat.not_lt_zero _)⟩
  refine ⟨fun _ => 0, ⟨h1, h2⟩, fun r hr => Or.inl (zm r hr), ⟨0, by decide, z 13 1 (by decide) (by omega) (by decide) (by decide), z 128 11 (by decide) (by omega) (by decide) (by decide), fun i hi => absurd hi (Nat.not_lt_zero _)⟩, ⟨rx 25 (by decide) s25 (by decide) (by decide), fun i hi => z 132 i (by decide) (by omega) (by decide) (by decide), hG0⟩, ⟨0, 0, fun _ => fun _ => 0, by decide, by decide, trivial, z 56 2 (by decide) (by omega) (by decide) (by decide), z 56 1 (by decide) (by omega) (by decide) (by decide), z 128 9 (by decide) (by omega) (by decide) (by decide), fun q hq => absurd hq (Nat.not_lt_zero _)⟩, ⟨⟨fun _ => 0, hG0, rx 36 (by decide) s36 (by decide) (by decide), Or.inl ⟨rfl, z 141 0 (by decide) (by omega) (by decide) (by decide)⟩⟩, ⟨fun _ => 0, hG0, rx 46 (by decide) s46 (by decide) (by decide), Or.inl ⟨rfl, z 141 1 (by decide) (by omega) (by decide) (by decide)⟩⟩⟩, ⟨0, by decide, z 126 1 (by decide) (by omega) (by decide) (by decide), z 128 26 (by decide) (by omega) (by decide) (by decide), fun i hi => absurd hi (Nat.not_lt_zero _)⟩, ?_, ?_⟩
  · show S 0 8 = S 128 18
    rw [z 0 8 (by decide) (by omega) (by decide) (by decide), z 128 18 (by decide) (by omega) (by decide) (by decide)]
  · show S 0 9 = S 128 1
    rw [z 0 9 (by decide) (by omega) (by decide) (by decide), z 128 1 (by decide) (by omega) (by decide) (by decide)]
end
theorem law_goal : jm_goal := jm_goal_of (fun L xs hL S hS => law_loop hL 100 0 S (by omega) (by decide) (ini_Inv hS))
