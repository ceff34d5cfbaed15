/-! ===== rota: the class ===== -/
theorem rot_sh (L : Nat) : jm_kd 104 = 5 ∧ jm_kd 105 = 2 ∧ jm_kd 115 = 9 ∧ jm_kd 116 = 12 ∧ jm_kd 122 = 9 ∧ jm_kd 123 = 9 ∧ jm_kd 124 = 9 ∧ jm_kd 125 = 9 ∧ jm_rf 104 0 = 105 ∧ jm_rf 104 1 = 115 ∧ jm_rf 104 3 = 116 ∧ jm_rf 104 4 = 122 ∧ jm_rf 104 5 = 123 ∧ jm_rf 104 6 = 124 ∧ jm_rf 104 8 = 125 ∧ jm_ll L 115 = 5 ∧ jm_ll L 122 = 32 ∧ jm_ll L 123 = 5 ∧ jm_ll L 124 = 5 ∧ jm_ll L 125 = 5 ∧ jm_lw 9 115 = 5 ∧ jm_lw 9 122 = 32 ∧ jm_lw 9 123 = 5 ∧ jm_lw 9 124 = 5 ∧ jm_lw 9 125 = 5 ∧ jm_lq 116 = 5 := by
  have h1 := sh_kd
  have h2 := sh_ll L
  have h3 := sh_lw
  have h4 := sh_rf
  have h5 := sh_lq
  simp only [h1, h2, h3, h4, h5, and_self]
theorem sw_sh0 : ∀ s, s < 5 → jm_rf 116 s = 117 + s ∧ jm_ll 0 (117 + s) = 32 ∧ jm_lw 9 (117 + s) = 32 := by decide +kernel
theorem sw_sh (L : Nat) {s : Nat} (h : s < 5) : jm_rf 116 s = 117 + s ∧ jm_ll L (117 + s) = 32 ∧ jm_lw 9 (117 + s) = 32 := by
  obtain ⟨a, b, c⟩ := sw_sh0 s h
  exact ⟨a, (ll_of (by show 117 + s ≠ 1000000; omega)).trans b, c⟩
theorem fl_sh (L : Nat) : jm_la L 123 = 5 ∧ jm_ha L 123 = true ∧ jm_la L 124 = 5 ∧ jm_ha L 124 = true := ⟨(la_of (by decide)).trans (by decide +kernel), (ha_of (by decide)).trans (by decide +kernel), (la_of (by decide)).trans (by decide +kernel), (ha_of (by decide)).trans (by decide +kernel)⟩
def offT (S T : jm_I2) : Prop := ∀ o, (o < 104 ∨ 125 < o) → T o = S o
def offW (S T : jm_I2) : Prop := ∀ o, ¬ (105 ≤ o ∧ o ≤ 114) → ¬ (117 ≤ o ∧ o ≤ 122) → T o = S o
/-- what a hand plays in a way, as the class has it -/
def wyI (x : Nat) : Int32 := if x = 0 then vM else nI (x - 1)
def ixI (i : Nat) : Int32 := if i = 0 then vM else nI (i - 1)
theorem add_vM (j : Nat) : nI j + vM = ixI j := by
  cases j with
  | zero => rfl
  | succ m =>
    show nI (m + 1) + vM = nI m
    rw [← nI_add m 1, Int32.add_assoc, show nI 1 + vM = 0 from rfl, Int32.add_zero]
theorem wyI_1 (x : Nat) : wyI x + nI 1 = nI x := by
  unfold wyI
  by_cases c : x = 0
  · rw [if_pos c, c]; rfl
  · rw [if_neg c, nI_add, show x - 1 + 1 = x by omega]
theorem sC_le {k : kT} (h : k 0 ≤ 5) : sC k ≤ 5 := Nat.le_trans (cnt_le _ _) h
theorem onQ_le {k : kT} {r s : Nat} (hr : r < k 0 ∨ s = 0) (h : Nat) : onQ r s h ≤ k 0 := by
  unfold onQ
  rcases hr with hr | hr
  · split <;> omega
  · rw [hr, Nat.zero_testBit, if_neg (by decide)]
    exact Nat.zero_le _
def kN (k : kT) (n r s : Nat) : kT := hoursA (plK k (onQ r s) (k 1)) n
theorem kN_ok {k : kT} {n r s : Nat} (hV : KV k) (h3 : k 3 ≤ 999) (hn : n ≤ 60) (hr : r < k 0 ∨ s = 0) : KV (kN k n r s) ∧ kN k n r s 0 = k 0 ∧ ∀ x, kKd (kN k n r s) x = kKd k x := by
  have hVp := KV_pl (n := k 1) hV (fun h _ => onQ_le (s := s) hr h)
  refine ⟨KV_hours hVp n (by rw [plK_low _ _ _ (by omega)]; omega), ?_, fun x => ?_⟩
  · unfold kN
    rw [(hoursA_low _ n).1, plK_low _ _ _ (by omega)]
  · unfold kN
    rw [hoursA_Kd, plK_Kd]
theorem lw_eq {k : kT} {n r s : Nat} (hV : KV k) (h3 : k 3 ≤ 999) (hn : n ≤ 60) (hr : r < k 0 ∨ s = 0) : sumP (wo (kN k n r s)) (fun x => !isSg (kN k n r s) x) (kN k n r s 0) = lwV k n r s := by
  obtain ⟨-, e0, ek⟩ := kN_ok hV h3 hn hr
  have e : (fun x => !isSg (kN k n r s) x) = (fun x => !isSg k x) := by
    funext x
    unfold isSg
    rw [ek]
  rw [e0, e]
  rfl
section
variable {xs : Nat → Int32} {L d : Nat} {S : jm_I2} {k : kT} {Z : Option Value → jm_I2 → Prop}
theorem c_listSongs (hX : RX 25 S k) (hV : KV k) (hZ : ∀ T, T 104 2 = nI (sC k) → (∀ s, s < sC k → T 115 s = nI (sl k s)) → (∀ o, o ≠ 104 → o ≠ 115 → T o = S o) → Z none T) : CL L d 62 [.ref 104, .ref 25] S Z := by
  have ht := rot_sh L
  have hs := camp_sh isC25
  have hl := camp_ll L isC25
  have v0 := hV.1
  have key : ∀ i, i ≤ k 0 → ∀ T, T 104 2 = nI (cnt (isSg k) i) → (∀ s, s < cnt (isSg k) i → T 115 s = nI (sl k s)) → (∀ o, o ≠ 104 → o ≠ 115 → T o = S o) → WQ L d 62 7 [.ref 104, .ref 25, .int (nI i)] [] T Z := by
    apply down_ind
    · intro T t1 t2 tf
      have x3 : T 25 3 = nI (k 0) := by rw [tf 25 (by decide) (by decide)]; exact hX.2.2.2.1
      rw [w62_7]
      simp (disch := omega) only [w62_8, w62_9, w62_12, w62_51, ht, hs, ↓neg_vM, ↓neg_vB, ↓neg_vS, ↓neg_vF, ↓neg_vO, ↓neg_vA, ↓neg_vN, lit_nI, nI_leI, nI_ltI, nI_eq, jm_in_nI, nI_clamp, nI_add, n_mul, pk_sub, n_le_t, n_le_f, n_lt_t, n_lt_f, n_eq_t, n_eq_f, true_and, and_true, ne_eq, not_false_eq_true, not_true_eq_false, min_n, max_n, dif_n, n_rem, n_div, or_nI, shl_nI, Option.toList_some, Option.toList_none, List.singleton_append, List.nil_append, if_true, if_false, or_true, true_or, or_false, false_or, and_false, false_and, Bool.false_eq_true, x3]
      exact hZ T t1 t2 tf
    · intro i hi ih T t1 t2 tf
      have x3 : T 25 3 = nI (k 0) := by rw [tf 25 (by decide) (by decide)]; exact hX.2.2.2.1
      have z1 : T (25 + 3) i = nI (kKd k i) := by rw [tf (25 + 3) (by decide) (by decide)]; exact (hX.2.2.2.2.2 i hi).1
      have b2 := (hV.2.2.2.2.2 i hi).2.1
      have hc := cnt_le (isSg k) i
      rw [w62_7]
      by_cases c : kKd k i < 4
      · have ec : isSg k i = true := decide_eq_true c
        rw [cnt, if_pos ec] at ih
        simp (disch := omega) only [w62_8, w62_9, w62_12, w62_15, w62_16, w62_19, w62_20, w62_21, w62_22, w62_25, w62_26, w62_29, w62_30, w62_33, w62_34, w62_35, w62_36, w62_37, w62_40, w62_41, w62_42, w62_45, w62_48, ht, hs, hl, ↓neg_vM, ↓neg_vB, ↓neg_vS, ↓neg_vF, ↓neg_vO, ↓neg_vA, ↓neg_vN, lit_nI, nI_leI, nI_ltI, nI_eq, jm_in_nI, nI_clamp, nI_add, n_mul, pk_sub, n_le_t, n_le_f, n_lt_t, n_lt_f, n_eq_t, n_eq_f, true_and, and_true, ne_eq, not_false_eq_true, not_true_eq_false, min_n, max_n, dif_n, n_rem, n_div, or_nI, shl_nI, Option.toList_some, Option.toList_none, List.singleton_append, List.nil_append, if_true, if_false, or_true, true_or, or_false, false_or, and_false, false_and, Bool.false_eq_true, x3, z1, t1, upd_at, kl_ref]
        refine ih _ (by simp (disch := omega) only [upd_at, row_at, n_eq_f, n_eq_t, and_true, true_and, and_false, false_and, and_self, if_true, if_false,  t1]) (fun s hs' => ?_) (fun o h1 h2 => by rw [upd_ne h1, upd_ne h2, tf o h1 h2])
        rw [upd_ne (by decide), upd_at]
        by_cases e : s = cnt (isSg k) i
        · rw [if_pos ⟨rfl, e⟩, e]
          unfold sl
          rw [slF_of hi ec]
        · rw [if_neg (fun q => e q.2)]
          exact t2 s (by omega)
      · have ec : isSg k i = false := decide_eq_false c
        rw [cnt, if_neg (by rw [ec]; decide), Nat.add_zero] at ih
        simp (disch := omega) only [w62_8, w62_9, w62_12, w62_15, w62_16, w62_19, w62_20, w62_21, w62_22, w62_25, w62_26, w62_29, w62_30, w62_33, w62_34, w62_35, w62_36, w62_37, w62_40, w62_41, w62_42, w62_45, w62_48, ht, hs, hl, ↓neg_vM, ↓neg_vB, ↓neg_vS, ↓neg_vF, ↓neg_vO, ↓neg_vA, ↓neg_vN, lit_nI, nI_leI, nI_ltI, nI_eq, jm_in_nI, nI_clamp, nI_add, n_mul, pk_sub, n_le_t, n_le_f, n_lt_t, n_lt_f, n_eq_t, n_eq_f, true_and, and_true, ne_eq, not_false_eq_true, not_true_eq_false, min_n, max_n, dif_n, n_rem, n_div, or_nI, shl_nI, Option.toList_some, Option.toList_none, List.singleton_append, List.nil_append, if_true, if_false, or_true, true_or, or_false, false_or, and_false, false_and, Bool.false_eq_true, x3, z1, kl_ref]
        exact ih T t1 t2 tf
  simp (disch := omega) only [cl62, w62_0, w62_1, w62_2, w62_5, w62_6, ht, ↓neg_vM, ↓neg_vB, ↓neg_vS, ↓neg_vF, ↓neg_vO, ↓neg_vA, ↓neg_vN, lit_nI, nI_leI, nI_ltI, nI_eq, jm_in_nI, nI_clamp, nI_add, n_mul, pk_sub, n_le_t, n_le_f, n_lt_t, n_lt_f, n_eq_t, n_eq_f, true_and, and_true, ne_eq, not_false_eq_true, not_true_eq_false, min_n, max_n, dif_n, n_rem, n_div, or_nI, shl_nI, Option.toList_some, Option.toList_none, List.singleton_append, List.nil_append, if_true, if_false, or_true, true_or, or_false, false_or, and_false, false_and, Bool.false_eq_true, kl_ref]
  exact key 0 (Nat.zero_le _) _ (by simp (disch := omega) only [upd_at, row_at, n_eq_f, n_eq_t, and_true, true_and, and_false, false_and, and_self, if_true, if_false,  hX.1]; rfl) (fun s hs' => absurd hs' (by show ¬ s < 0; omega)) (fun o h1 _ => upd_ne h1)
theorem c_letAlone {r s : Nat} {v : Int32} (hX : RX 25 S k) (hV : KV k) (hs64 : s < 64) (hv : ∀ h, s.testBit h = true → v = nI r) (hZ : ∀ T, RX 105 T (plK k (onQ r s) (k 1)) → offC 105 S T → Z none T) : CL L (d + 2) 64 [.ref 104, .ref 25, .int v, .int (nI s)] S Z := by
  have ht := rot_sh L
  have hs := camp_sh isC105
  have hl := camp_ll L isC105
  have v1 := hV.2.1
  have key : ∀ i, i ≤ k 1 → ∀ T, RX 105 T (plK k (onQ r s) i) → offC 105 S T → WQ L (d + 2) 64 11 [.ref 104, .ref 25, .int v, .int (nI s), .int (nI i)] [] T Z := by
    apply down_ind
    · intro T tX tf
      have x2 := tX.2.2.1
      rw [plK_low _ _ _ (by omega)] at x2
      rw [w64_11]
      simp (disch := omega) only [w64_13, w64_14, w64_17, w64_20, w64_54, ht, hs, ↓neg_vM, ↓neg_vB, ↓neg_vS, ↓neg_vF, ↓neg_vO, ↓neg_vA, ↓neg_vN, lit_nI, nI_leI, nI_ltI, nI_eq, jm_in_nI, nI_clamp, nI_add, n_mul, pk_sub, n_le_t, n_le_f, n_lt_t, n_lt_f, n_eq_t, n_eq_f, true_and, and_true, ne_eq, not_false_eq_true, not_true_eq_false, min_n, max_n, dif_n, n_rem, n_div, or_nI, shl_nI, Option.toList_some, Option.toList_none, List.singleton_append, List.nil_append, if_true, if_false, or_true, true_or, or_false, false_or, and_false, false_and, Bool.false_eq_true, x2]
      exact hZ T tX tf
    · intro i hi ih T tX tf
      have x2 := tX.2.2.1
      rw [plK_low _ _ _ (by omega)] at x2
      rw [w64_11]
      by_cases c : s.testBit i = true
      · have e : onQ r s i = r + 1 := if_pos c
        have ev := hv i c
        simp (disch := omega) only [w64_13, w64_14, w64_17, w64_20, w64_23, w64_24, w64_27, w64_30, w64_32, w64_33, w64_35, w64_36, w64_37, w64_38, w64_41, w64_42, w64_45, w64_47, w64_48, w64_51, ht, hs, hl, ↓neg_vM, ↓neg_vB, ↓neg_vS, ↓neg_vF, ↓neg_vO, ↓neg_vA, ↓neg_vN, lit_nI, nI_leI, nI_ltI, nI_eq, jm_in_nI, nI_clamp, nI_add, n_mul, pk_sub, n_le_t, n_le_f, n_lt_t, n_lt_f, n_eq_t, n_eq_f, true_and, and_true, ne_eq, not_false_eq_true, not_true_eq_false, min_n, max_n, dif_n, n_rem, n_div, or_nI, shl_nI, Option.toList_some, Option.toList_none, List.singleton_append, List.nil_append, if_true, if_false, or_true, true_or, or_false, false_or, and_false, false_and, Bool.false_eq_true, x2, shr_n5, c, ev, kl_int]
        rw [← ev]
        refine ih _ ?_ (fun o ho => by rw [upd_ne (by omega), tf o ho])
        rw [plK_S _ _ (by omega), e, ev]
        exact RX_Pl (b := r + 1) tX (by omega) (by rw [plK_low _ _ _ (by omega)]; exact v1)
      · have e : onQ r s i = 0 := if_neg c
        simp (disch := omega) only [w64_13, w64_14, w64_17, w64_20, w64_23, w64_24, w64_27, w64_30, w64_32, w64_33, w64_35, w64_36, w64_37, w64_38, w64_41, w64_42, w64_45, w64_47, w64_48, w64_51, ht, hs, hl, ↓neg_vM, ↓neg_vB, ↓neg_vS, ↓neg_vF, ↓neg_vO, ↓neg_vA, ↓neg_vN, lit_nI, nI_leI, nI_ltI, nI_eq, jm_in_nI, nI_clamp, nI_add, n_mul, pk_sub, n_le_t, n_le_f, n_lt_t, n_lt_f, n_eq_t, n_eq_f, true_and, and_true, ne_eq, not_false_eq_true, not_true_eq_false, min_n, max_n, dif_n, n_rem, n_div, or_nI, shl_nI, Option.toList_some, Option.toList_none, List.singleton_append, List.nil_append, if_true, if_false, or_true, true_or, or_false, false_or, and_false, false_and, Bool.false_eq_true, x2, shr_n5, c, kl_int]
        refine ih _ ?_ (fun o ho => by rw [upd_ne (by omega), tf o ho])
        rw [plK_S _ _ (by omega), e]
        exact RX_Pl (b := 0) tX (by omega) (by rw [plK_low _ _ _ (by omega)]; exact v1)
  simp (disch := omega) only [cl64, w64_0, w64_1, w64_4, w64_5, ht, hs, ↓neg_vM, ↓neg_vB, ↓neg_vS, ↓neg_vF, ↓neg_vO, ↓neg_vA, ↓neg_vN, lit_nI, nI_leI, nI_ltI, nI_eq, jm_in_nI, nI_clamp, nI_add, n_mul, pk_sub, n_le_t, n_le_f, n_lt_t, n_lt_f, n_eq_t, n_eq_f, true_and, and_true, ne_eq, not_false_eq_true, not_true_eq_false, min_n, max_n, dif_n, n_rem, n_div, or_nI, shl_nI, Option.toList_some, Option.toList_none, List.singleton_append, List.nil_append, if_true, if_false, or_true, true_or, or_false, false_or, and_false, false_and, Bool.false_eq_true]
  refine c_become isC105 isC25 (by decide) hX hV (fun T1 tX1 tf1 => ?_)
  simp (disch := omega) only [w64_8, w64_9, ht, ↓neg_vM, ↓neg_vB, ↓neg_vS, ↓neg_vF, ↓neg_vO, ↓neg_vA, ↓neg_vN, lit_nI, nI_leI, nI_ltI, nI_eq, jm_in_nI, nI_clamp, nI_add, n_mul, pk_sub, n_le_t, n_le_f, n_lt_t, n_lt_f, n_eq_t, n_eq_f, true_and, and_true, ne_eq, not_false_eq_true, not_true_eq_false, min_n, max_n, dif_n, n_rem, n_div, or_nI, shl_nI, Option.toList_some, Option.toList_none, List.singleton_append, List.nil_append, if_true, if_false, or_true, true_or, or_false, false_or, and_false, false_and, Bool.false_eq_true, kl_int]
  exact key 0 (Nat.zero_le _) T1 (by rw [plK_0]; exact tX1) tf1
theorem c_worthOf {r : Nat} {K : kT} {T : jm_I2} (tX : RX 105 T K) (hV : KV K) (hr : r < K 0) : CL L (d + 1) 65 [.ref 104, .int (nI r)] T Z ↔ Z (some (.int (nI (wo K r)))) T := by
  have ht := rot_sh L
  have hs := camp_sh isC105
  have hl := camp_ll L isC105
  have v0 := hV.1
  have z2 := (tX.2.2.2.2.2 r hr).2.1
  unfold wo
  by_cases c : 0 < kBt K r
  · simp (disch := omega) only [cl65, w65_0, w65_1, w65_4, w65_7, w65_8, w65_9, w65_10, w65_13, w65_14, w65_17, w65_20, w65_23, w65_26, w65_27, w65_28, ht, hs, hl, ↓neg_vM, ↓neg_vB, ↓neg_vS, ↓neg_vF, ↓neg_vO, ↓neg_vA, ↓neg_vN, lit_nI, nI_leI, nI_ltI, nI_eq, jm_in_nI, nI_clamp, nI_add, n_mul, pk_sub, n_le_t, n_le_f, n_lt_t, n_lt_f, n_eq_t, n_eq_f, true_and, and_true, ne_eq, not_false_eq_true, not_true_eq_false, min_n, max_n, dif_n, n_rem, n_div, or_nI, shl_nI, Option.toList_some, Option.toList_none, List.singleton_append, List.nil_append, if_true, if_false, or_true, true_or, or_false, false_or, and_false, false_and, Bool.false_eq_true, z2, c_holds isC105 tX hV hr, c]
  · simp (disch := omega) only [cl65, w65_0, w65_1, w65_4, w65_7, w65_8, w65_9, w65_10, w65_13, w65_14, w65_17, w65_20, w65_23, w65_26, w65_27, w65_28, ht, hs, hl, ↓neg_vM, ↓neg_vB, ↓neg_vS, ↓neg_vF, ↓neg_vO, ↓neg_vA, ↓neg_vN, lit_nI, nI_leI, nI_ltI, nI_eq, jm_in_nI, nI_clamp, nI_add, n_mul, pk_sub, n_le_t, n_le_f, n_lt_t, n_lt_f, n_eq_t, n_eq_f, true_and, and_true, ne_eq, not_false_eq_true, not_true_eq_false, min_n, max_n, dif_n, n_rem, n_div, or_nI, shl_nI, Option.toList_some, Option.toList_none, List.singleton_append, List.nil_append, if_true, if_false, or_true, true_or, or_false, false_or, and_false, false_and, Bool.false_eq_true, z2, c_holds isC105 tX hV hr, c]
theorem c_worthOfLost {K : kT} {T : jm_I2} (tX : RX 105 T K) (hV : KV K) : CL L (d + 2) 66 [.ref 104] T Z ↔ Z (some (.int (nI (sumP (wo K) (fun x => !isSg K x) (K 0))))) T := by
  have ht := rot_sh L
  have hs := camp_sh isC105
  have hl := camp_ll L isC105
  have v0 := hV.1
  have x3 := tX.2.2.2.1
  have key : ∀ i, i ≤ K 0 → (WQ L (d + 2) 66 4 [.ref 104, .int (nI (sumP (wo K) (fun x => !isSg K x) i)), .int (nI i)] [] T Z ↔ Z (some (.int (nI (sumP (wo K) (fun x => !isSg K x) (K 0))))) T) := by
    apply down_ind
    · rw [w66_4]
      simp (disch := omega) only [w66_5, w66_6, w66_9, w66_12, w66_46, w66_47, ht, hs, ↓neg_vM, ↓neg_vB, ↓neg_vS, ↓neg_vF, ↓neg_vO, ↓neg_vA, ↓neg_vN, lit_nI, nI_leI, nI_ltI, nI_eq, jm_in_nI, nI_clamp, nI_add, n_mul, pk_sub, n_le_t, n_le_f, n_lt_t, n_lt_f, n_eq_t, n_eq_f, true_and, and_true, ne_eq, not_false_eq_true, not_true_eq_false, min_n, max_n, dif_n, n_rem, n_div, or_nI, shl_nI, Option.toList_some, Option.toList_none, List.singleton_append, List.nil_append, if_true, if_false, or_true, true_or, or_false, false_or, and_false, false_and, Bool.false_eq_true, x3]
    · intro i hi ih
      have z1 := (tX.2.2.2.2.2 i hi).1
      have b2 := (hV.2.2.2.2.2 i hi).2.1
      rw [← ih, w66_4, sumP]
      by_cases c : kKd K i < 4
      · have ec : isSg K i = true := decide_eq_true c
        simp (disch := omega) only [w66_5, w66_6, w66_9, w66_12, w66_15, w66_16, w66_17, w66_20, w66_23, w66_24, w66_25, w66_26, w66_29, w66_30, w66_31, w66_34, w66_37, w66_38, w66_39, w66_40, w66_43, ht, hs, hl, ↓neg_vM, ↓neg_vB, ↓neg_vS, ↓neg_vF, ↓neg_vO, ↓neg_vA, ↓neg_vN, lit_nI, nI_leI, nI_ltI, nI_eq, jm_in_nI, nI_clamp, nI_add, n_mul, pk_sub, n_le_t, n_le_f, n_lt_t, n_lt_f, n_eq_t, n_eq_f, true_and, and_true, ne_eq, not_false_eq_true, not_true_eq_false, min_n, max_n, dif_n, n_rem, n_div, or_nI, shl_nI, Option.toList_some, Option.toList_none, List.singleton_append, List.nil_append, if_true, if_false, or_true, true_or, or_false, false_or, and_false, false_and, Bool.false_eq_true, x3, z1, ec, Bool.not_true, kl_ref, kl_int]
      · have ec : isSg K i = false := decide_eq_false c
        simp (disch := omega) only [w66_5, w66_6, w66_9, w66_12, w66_15, w66_16, w66_17, w66_20, w66_23, w66_24, w66_25, w66_26, w66_29, w66_30, w66_31, w66_34, w66_37, w66_38, w66_39, w66_40, w66_43, ht, hs, hl, ↓neg_vM, ↓neg_vB, ↓neg_vS, ↓neg_vF, ↓neg_vO, ↓neg_vA, ↓neg_vN, lit_nI, nI_leI, nI_ltI, nI_eq, jm_in_nI, nI_clamp, nI_add, n_mul, pk_sub, n_le_t, n_le_f, n_lt_t, n_lt_f, n_eq_t, n_eq_f, true_and, and_true, ne_eq, not_false_eq_true, not_true_eq_false, min_n, max_n, dif_n, n_rem, n_div, or_nI, shl_nI, Option.toList_some, Option.toList_none, List.singleton_append, List.nil_append, if_true, if_false, or_true, true_or, or_false, false_or, and_false, false_and, Bool.false_eq_true, x3, z1, ec, Bool.not_false, c_worthOf tX hV, kl_ref, kl_int]
  simp (disch := omega) only [cl66, w66_0, w66_1, w66_2, w66_3, ↓neg_vM, ↓neg_vB, ↓neg_vS, ↓neg_vF, ↓neg_vO, ↓neg_vA, ↓neg_vN, lit_nI, nI_leI, nI_ltI, nI_eq, jm_in_nI, nI_clamp, nI_add, n_mul, pk_sub, n_le_t, n_le_f, n_lt_t, n_lt_f, n_eq_t, n_eq_f, true_and, and_true, ne_eq, not_false_eq_true, not_true_eq_false, min_n, max_n, dif_n, n_rem, n_div, or_nI, shl_nI, Option.toList_some, Option.toList_none, List.singleton_append, List.nil_append, if_true, if_false, or_true, true_or, or_false, false_or, and_false, false_and, Bool.false_eq_true, kl_ref, kl_int]
  exact key 0 (Nat.zero_le _)
/-- what is worked out -/
def WO (k : kT) (n : Nat) (T : jm_I2) : Prop := (∀ s, s < sC k → ∀ x, x < 2 ^ k 1 → T (117 + s) x = nI (swV k n (sl k s) x)) ∧ ∀ x, x < 2 ^ k 1 → (0 < sC k ∨ x = 0) → T 122 x = nI (lwV k n (sl k (sC k - 1)) x)
set_option maxHeartbeats 8000000 in
theorem c_workOut {n : Nat} (hX : RX 25 S k) (hV : KV k) (hk1 : 0 < k 1) (h3 : k 3 ≤ 999) (hn : n ≤ 60) (hc : S 104 2 = nI (sC k)) (hsl : ∀ s, s < sC k → S 115 s = nI (sl k s)) (hZ : ∀ T, WO k n T → offW S T → Z none T) : CL L (d + 4) 63 [.ref 104, .ref 25, .int (nI n)] S Z := by
  have ht := rot_sh L
  have hs := camp_sh isC25
  have v0 := hV.1
  have v1 := hV.2.1
  have c5 := sC_le v0
  have hp32 := pow_le32 v1
  have outer : ∀ i, i ≤ sC k → ∀ T u4, (∀ s, s < i → ∀ x, x < 2 ^ k 1 → T (117 + s) x = nI (swV k n (sl k s) x)) → (0 < i → ∀ x, x < 2 ^ k 1 → T 122 x = nI (lwV k n (sl k (i - 1)) x)) → (i = 0 → T 122 0 = nI (lwV k n (sl k (sC k - 1)) 0)) → offW S T → WQ L (d + 4) 63 28 [.ref 104, .ref 25, .int (nI n), .int (nI i), u4] [] T Z := by
    apply down_ind
    · intro T u4 t1 t2 t3 tf
      have ec : T 104 2 = nI (sC k) := by rw [tf 104 (by omega) (by omega)]; exact hc
      rw [w63_28]
      simp (disch := omega) only [w63_29, w63_30, w63_33, w63_113, ht, ↓neg_vM, ↓neg_vB, ↓neg_vS, ↓neg_vF, ↓neg_vO, ↓neg_vA, ↓neg_vN, lit_nI, nI_leI, nI_ltI, nI_eq, jm_in_nI, nI_clamp, nI_add, n_mul, pk_sub, n_le_t, n_le_f, n_lt_t, n_lt_f, n_eq_t, n_eq_f, true_and, and_true, ne_eq, not_false_eq_true, not_true_eq_false, min_n, max_n, dif_n, n_rem, n_div, or_nI, shl_nI, Option.toList_some, Option.toList_none, List.singleton_append, List.nil_append, if_true, if_false, or_true, true_or, or_false, false_or, and_false, false_and, Bool.false_eq_true, ec]
      refine hZ T ⟨t1, fun x hx h => ?_⟩ tf
      by_cases c : 0 < sC k
      · exact t2 c x hx
      · have e : x = 0 := by omega
        rw [e]
        exact t3 (by omega)
    · intro i hi ih T u4 t1 t2 t3 tf
      have ec : T 104 2 = nI (sC k) := by rw [tf 104 (by omega) (by omega)]; exact hc
      have hw := sw_sh L (show i < 5 by omega)
      obtain ⟨hsr, hsk⟩ := sl_ok (k := k) hi
      have inner : ∀ x, x ≤ 2 ^ k 1 → ∀ T, (∀ s, s < i → ∀ x, x < 2 ^ k 1 → T (117 + s) x = nI (swV k n (sl k s) x)) → (∀ y, y < x → T (117 + i) y = nI (swV k n (sl k i) y)) → (∀ y, y < x → T 122 y = nI (lwV k n (sl k i) y)) → offW S T → WQ L (d + 4) 63 39 [.ref 104, .ref 25, .int (nI n), .int (nI i), .int (nI x)] [] T Z := by
        apply down_ind
        · intro T t1 t2 t3 tf
          have x2 : T 25 2 = nI (k 1) := by rw [tf 25 (by omega) (by omega)]; exact hX.2.2.1
          rw [w63_39]
          simp (disch := omega) only [w63_41, w63_42, w63_43, w63_46, w63_47, w63_107, w63_110, ht, hs, ↓neg_vM, ↓neg_vB, ↓neg_vS, ↓neg_vF, ↓neg_vO, ↓neg_vA, ↓neg_vN, lit_nI, nI_leI, nI_ltI, nI_eq, jm_in_nI, nI_clamp, nI_add, n_mul, pk_sub, n_le_t, n_le_f, n_lt_t, n_lt_f, n_eq_t, n_eq_f, true_and, and_true, ne_eq, not_false_eq_true, not_true_eq_false, min_n, max_n, dif_n, n_rem, n_div, or_nI, shl_nI, Option.toList_some, Option.toList_none, List.singleton_append, List.nil_append, if_true, if_false, or_true, true_or, or_false, false_or, and_false, false_and, Bool.false_eq_true, x2, kl_int]
          refine ih T _ (fun s hs' x hx => ?_) (fun _ x hx => ?_) (fun q => absurd q (by omega)) tf
          · by_cases e : s = i
            · rw [e]; exact t2 x hx
            · exact t1 s (by omega) x hx
          · rw [Nat.add_sub_cancel]
            exact t3 x hx
        · intro x hx ihx T t1 t2 t3 tf
          have x2 : T 25 2 = nI (k 1) := by rw [tf 25 (by omega) (by omega)]; exact hX.2.2.1
          have es : T 115 i = nI (sl k i) := by rw [tf 115 (by omega) (by omega)]; exact hsl i hi
          rw [w63_39]
          simp (disch := omega) only [w63_41, w63_42, w63_43, w63_46, w63_47, w63_50, w63_51, w63_52, w63_53, w63_56, w63_57, w63_58, w63_60, ht, hs, ↓neg_vM, ↓neg_vB, ↓neg_vS, ↓neg_vF, ↓neg_vO, ↓neg_vA, ↓neg_vN, lit_nI, nI_leI, nI_ltI, nI_eq, jm_in_nI, nI_clamp, nI_add, n_mul, pk_sub, n_le_t, n_le_f, n_lt_t, n_lt_f, n_eq_t, n_eq_f, true_and, and_true, ne_eq, not_false_eq_true, not_true_eq_false, min_n, max_n, dif_n, n_rem, n_div, or_nI, shl_nI, Option.toList_some, Option.toList_none, List.singleton_append, List.nil_append, if_true, if_false, or_true, true_or, or_false, false_or, and_false, false_and, Bool.false_eq_true, x2, es]
          have tX : RX 25 T k := RX_of hX (fun o a b => tf o (by omega) (by omega))
          have hVp := KV_pl (n := k 1) hV (fun h _ => onQ_le (s := x) (Or.inl hsr) h)
          refine c_letAlone (r := sl k i) (s := x) tX hV (by omega) (fun _ _ => rfl) (fun T1 tX1 tf1 => ?_)
          simp (disch := omega) only [w63_63, w63_64, w63_67, w63_68, ht, ↓neg_vM, ↓neg_vB, ↓neg_vS, ↓neg_vF, ↓neg_vO, ↓neg_vA, ↓neg_vN, lit_nI, nI_leI, nI_ltI, nI_eq, jm_in_nI, nI_clamp, nI_add, n_mul, pk_sub, n_le_t, n_le_f, n_lt_t, n_lt_f, n_eq_t, n_eq_f, true_and, and_true, ne_eq, not_false_eq_true, not_true_eq_false, min_n, max_n, dif_n, n_rem, n_div, or_nI, shl_nI, Option.toList_some, Option.toList_none, List.singleton_append, List.nil_append, if_true, if_false, or_true, true_or, or_false, false_or, and_false, false_and, Bool.false_eq_true]
          refine c_passHours isC105 tX1 hVp (by rw [plK_low _ _ _ (by omega)]; exact hk1) (by rw [plK_low _ _ _ (by omega)]; omega) (fun T2 tX2' tf2' => ?_)
          have tX2 : RX 105 T2 (kN k n (sl k i) x) := tX2'
          have tf2 : offC 105 T T2 := fun o ho => by rw [tf2' o ho, tf1 o ho]
          obtain ⟨hVn, e0, ek⟩ := kN_ok (s := x) hV h3 hn (Or.inl hsr)
          have es2 : T2 115 i = nI (sl k i) := by rw [tf2 115 (by omega)]; exact es
          have tX3 : ∀ {v : Int32}, RX 105 (jm_upd T2 (117 + i) x v) (kN k n (sl k i) x) := fun {v} => RX_of tX2 (fun o a b => upd_ne (by omega))
          have el := lw_eq (r := sl k i) (s := x) hV h3 hn (Or.inl hsr)
          simp (disch := omega) only [w63_71, w63_72, w63_75, w63_76, w63_77, w63_79, w63_80, w63_81, w63_84, w63_85, w63_86, w63_89, w63_90, w63_91, w63_94, w63_96, w63_97, w63_100, w63_101, w63_104, ht, hw, ↓neg_vM, ↓neg_vB, ↓neg_vS, ↓neg_vF, ↓neg_vO, ↓neg_vA, ↓neg_vN, lit_nI, nI_leI, nI_ltI, nI_eq, jm_in_nI, nI_clamp, nI_add, n_mul, pk_sub, n_le_t, n_le_f, n_lt_t, n_lt_f, n_eq_t, n_eq_f, true_and, and_true, ne_eq, not_false_eq_true, not_true_eq_false, min_n, max_n, dif_n, n_rem, n_div, or_nI, shl_nI, Option.toList_some, Option.toList_none, List.singleton_append, List.nil_append, if_true, if_false, or_true, true_or, or_false, false_or, and_false, false_and, Bool.false_eq_true, es2, c_worthOf tX2 hVn, e0, c_worthOfLost tX3 hVn, kl_int]
          rw [← e0, el]
          refine ihx _ (fun s hs' y hy => ?_) (fun y hy => ?_) (fun y hy => ?_) (fun o h1 h2 => ?_)
          · rw [upd_ne (by omega), upd_ne (by omega), tf2 _ (by omega)]
            exact t1 s hs' y hy
          · rw [upd_ne (by omega), upd_at]
            by_cases e : y = x
            · rw [if_pos ⟨rfl, e⟩, e]; rfl
            · rw [if_neg (fun q => e q.2), tf2 _ (by omega)]
              exact t2 y (by omega)
          · rw [upd_at]
            by_cases e : y = x
            · rw [if_pos ⟨rfl, e⟩, e]
            · rw [if_neg (fun q => e q.2), upd_ne (by omega), tf2 _ (by omega)]
              exact t3 y (by omega)
          · rw [upd_ne (by omega), upd_ne (by omega), tf2 o (by omega), tf o h1 h2]
      rw [w63_28]
      simp (disch := omega) only [w63_29, w63_30, w63_33, w63_36, w63_37, ht, ↓neg_vM, ↓neg_vB, ↓neg_vS, ↓neg_vF, ↓neg_vO, ↓neg_vA, ↓neg_vN, lit_nI, nI_leI, nI_ltI, nI_eq, jm_in_nI, nI_clamp, nI_add, n_mul, pk_sub, n_le_t, n_le_f, n_lt_t, n_lt_f, n_eq_t, n_eq_f, true_and, and_true, ne_eq, not_false_eq_true, not_true_eq_false, min_n, max_n, dif_n, n_rem, n_div, or_nI, shl_nI, Option.toList_some, Option.toList_none, List.singleton_append, List.nil_append, if_true, if_false, or_true, true_or, or_false, false_or, and_false, false_and, Bool.false_eq_true, ec, kl_int]
      exact inner 0 (Nat.zero_le _) T t1 (fun y hy => absurd hy (by omega)) (fun y hy => absurd hy (by omega)) tf
  -- the first trial
  have tX0 : RX 25 S k := hX
  have hVp := KV_pl (n := k 1) hV (fun h _ => onQ_le (r := sl k (sC k - 1)) (s := 0) (Or.inr rfl) h)
  simp (disch := omega) only [cl63, w63_0, w63_1, w63_2, w63_4, w63_5, ht, ↓neg_vM, ↓neg_vB, ↓neg_vS, ↓neg_vF, ↓neg_vO, ↓neg_vA, ↓neg_vN, lit_nI, nI_leI, nI_ltI, nI_eq, jm_in_nI, nI_clamp, nI_add, n_mul, pk_sub, n_le_t, n_le_f, n_lt_t, n_lt_f, n_eq_t, n_eq_f, true_and, and_true, ne_eq, not_false_eq_true, not_true_eq_false, min_n, max_n, dif_n, n_rem, n_div, or_nI, shl_nI, Option.toList_some, Option.toList_none, List.singleton_append, List.nil_append, if_true, if_false, or_true, true_or, or_false, false_or, and_false, false_and, Bool.false_eq_true]
  refine c_letAlone (r := sl k (sC k - 1)) (s := 0) tX0 hV (by decide) (fun h q => absurd q (by rw [Nat.zero_testBit]; decide)) (fun T1 tX1 tf1 => ?_)
  simp (disch := omega) only [w63_8, w63_9, w63_12, w63_13, ht, ↓neg_vM, ↓neg_vB, ↓neg_vS, ↓neg_vF, ↓neg_vO, ↓neg_vA, ↓neg_vN, lit_nI, nI_leI, nI_ltI, nI_eq, jm_in_nI, nI_clamp, nI_add, n_mul, pk_sub, n_le_t, n_le_f, n_lt_t, n_lt_f, n_eq_t, n_eq_f, true_and, and_true, ne_eq, not_false_eq_true, not_true_eq_false, min_n, max_n, dif_n, n_rem, n_div, or_nI, shl_nI, Option.toList_some, Option.toList_none, List.singleton_append, List.nil_append, if_true, if_false, or_true, true_or, or_false, false_or, and_false, false_and, Bool.false_eq_true]
  refine c_passHours isC105 tX1 hVp (by rw [plK_low _ _ _ (by omega)]; exact hk1) (by rw [plK_low _ _ _ (by omega)]; omega) (fun T2 tX2' tf2' => ?_)
  have tX2 : RX 105 T2 (kN k n (sl k (sC k - 1)) 0) := tX2'
  obtain ⟨hVn, e0, ek⟩ := kN_ok (r := sl k (sC k - 1)) (s := 0) hV h3 hn (Or.inr rfl)
  have el := lw_eq (r := sl k (sC k - 1)) (s := 0) hV h3 hn (Or.inr rfl)
  simp (disch := omega) only [w63_16, w63_17, w63_20, w63_21, w63_22, w63_25, w63_26, w63_27, ht, ↓neg_vM, ↓neg_vB, ↓neg_vS, ↓neg_vF, ↓neg_vO, ↓neg_vA, ↓neg_vN, lit_nI, nI_leI, nI_ltI, nI_eq, jm_in_nI, nI_clamp, nI_add, n_mul, pk_sub, n_le_t, n_le_f, n_lt_t, n_lt_f, n_eq_t, n_eq_f, true_and, and_true, ne_eq, not_false_eq_true, not_true_eq_false, min_n, max_n, dif_n, n_rem, n_div, or_nI, shl_nI, Option.toList_some, Option.toList_none, List.singleton_append, List.nil_append, if_true, if_false, or_true, true_or, or_false, false_or, and_false, false_and, Bool.false_eq_true, c_worthOfLost tX2 hVn, kl_int]
  rw [el]
  exact outer 0 (Nat.zero_le _) _ _ (fun s hs' => absurd hs' (by omega)) (fun q => absurd q (by omega)) (fun _ => by rw [upd_at, if_pos ⟨rfl, rfl⟩]) (fun o h1 h2 => by rw [upd_ne (by omega), tf2' o (by omega), tf1 o (by omega)])
/-- the way at hand -/
def WY (k : kT) (d : Nat → Nat) (T : jm_I2) : Prop := ∀ h, h < k 1 → T 123 h = wyI (d h)
theorem c_keepWay {e : Nat → Nat} (hk5 : k 1 ≤ 5) (hk0 : k 0 ≤ 5) (hd : ∀ h, h < k 1 → e h < sC k + 1) (hw : WY k e S) (hsl : ∀ s, s < sC k → S 115 s = nI (sl k s)) (hZ : ∀ T, (∀ h, h < k 1 → T 125 h = plv (encF k (e h))) → (∀ o, o ≠ 125 → T o = S o) → Z none T) : CL L d 68 [.ref 104, .int (nI (k 1))] S Z := by
  have ht := rot_sh L
  have c5 := sC_le hk0
  have key : ∀ i, i ≤ k 1 → ∀ T, (∀ h, h < i → T 125 h = plv (encF k (e h))) → (∀ o, o ≠ 125 → T o = S o) → WQ L d 68 2 [.ref 104, .int (nI (k 1)), .int (nI i)] [] T Z := by
    apply down_ind
    · intro T t1 tf
      rw [w68_2]
      simp (disch := omega) only [w68_3, w68_4, w68_44, ht, ↓neg_vM, ↓neg_vB, ↓neg_vS, ↓neg_vF, ↓neg_vO, ↓neg_vA, ↓neg_vN, lit_nI, nI_leI, nI_ltI, nI_eq, jm_in_nI, nI_clamp, nI_add, n_mul, pk_sub, n_le_t, n_le_f, n_lt_t, n_lt_f, n_eq_t, n_eq_f, true_and, and_true, ne_eq, not_false_eq_true, not_true_eq_false, min_n, max_n, dif_n, n_rem, n_div, or_nI, shl_nI, Option.toList_some, Option.toList_none, List.singleton_append, List.nil_append, if_true, if_false, or_true, true_or, or_false, false_or, and_false, false_and, Bool.false_eq_true]
      exact hZ T t1 tf
    · intro i hi ih T t1 tf
      have ew : T 123 i = wyI (e i) := by rw [tf 123 (by decide)]; exact hw i hi
      have hdi := hd i hi
      rw [w68_2]
      by_cases c : e i = 0
      · have ew' : T 123 i = vM := by rw [ew, c]; rfl
        have ep : plv (encF k (e i)) = vN := by rw [c]; rfl
        simp (disch := omega) only [w68_3, w68_4, w68_7, w68_8, w68_11, w68_12, w68_13, w68_16, w68_17, w68_18, w68_21, w68_23, w68_26, w68_27, w68_30, w68_31, w68_34, w68_35, w68_36, w68_37, w68_38, w68_41, ht, ↓neg_vM, ↓neg_vB, ↓neg_vS, ↓neg_vF, ↓neg_vO, ↓neg_vA, ↓neg_vN, lit_nI, nI_leI, nI_ltI, nI_eq, jm_in_nI, nI_clamp, nI_add, n_mul, pk_sub, n_le_t, n_le_f, n_lt_t, n_lt_f, n_eq_t, n_eq_f, true_and, and_true, ne_eq, not_false_eq_true, not_true_eq_false, min_n, max_n, dif_n, n_rem, n_div, or_nI, shl_nI, Option.toList_some, Option.toList_none, List.singleton_append, List.nil_append, if_true, if_false, or_true, true_or, or_false, false_or, and_false, false_and, Bool.false_eq_true, ew', le_vM, kl_int]
        refine ih _ (fun h hh => ?_) (fun o ho => by rw [upd_ne ho, tf o ho])
        rw [upd_at]
        by_cases q : h = i
        · rw [if_pos ⟨rfl, q⟩, q, ep]
        · rw [if_neg (fun x => q x.2)]
          exact t1 h (by omega)
      · have ew' : T 123 i = nI (e i - 1) := by rw [ew]; exact if_neg c
        have es : T 115 (e i - 1) = nI (sl k (e i - 1)) := by rw [tf 115 (by decide)]; exact hsl _ (by omega)
        have ep : plv (encF k (e i)) = nI (sl k (e i - 1)) := by unfold encF; rw [if_neg c]; rfl
        simp (disch := omega) only [w68_3, w68_4, w68_7, w68_8, w68_11, w68_12, w68_13, w68_16, w68_17, w68_18, w68_21, w68_23, w68_26, w68_27, w68_30, w68_31, w68_34, w68_35, w68_36, w68_37, w68_38, w68_41, ht, ↓neg_vM, ↓neg_vB, ↓neg_vS, ↓neg_vF, ↓neg_vO, ↓neg_vA, ↓neg_vN, lit_nI, nI_leI, nI_ltI, nI_eq, jm_in_nI, nI_clamp, nI_add, n_mul, pk_sub, n_le_t, n_le_f, n_lt_t, n_lt_f, n_eq_t, n_eq_f, true_and, and_true, ne_eq, not_false_eq_true, not_true_eq_false, min_n, max_n, dif_n, n_rem, n_div, or_nI, shl_nI, Option.toList_some, Option.toList_none, List.singleton_append, List.nil_append, if_true, if_false, or_true, true_or, or_false, false_or, and_false, false_and, Bool.false_eq_true, ew', es, kl_int]
        refine ih _ (fun h hh => ?_) (fun o ho => by rw [upd_ne ho, tf o ho])
        rw [upd_at]
        by_cases q : h = i
        · rw [if_pos ⟨rfl, q⟩, q, ep]
        · rw [if_neg (fun x => q x.2)]
          exact t1 h (by omega)
  simp (disch := omega) only [cl68, w68_0, w68_1, ↓neg_vM, ↓neg_vB, ↓neg_vS, ↓neg_vF, ↓neg_vO, ↓neg_vA, ↓neg_vN, lit_nI, nI_leI, nI_ltI, nI_eq, jm_in_nI, nI_clamp, nI_add, n_mul, pk_sub, n_le_t, n_le_f, n_lt_t, n_lt_f, n_eq_t, n_eq_f, true_and, and_true, ne_eq, not_false_eq_true, not_true_eq_false, min_n, max_n, dif_n, n_rem, n_div, or_nI, shl_nI, Option.toList_some, Option.toList_none, List.singleton_append, List.nil_append, if_true, if_false, or_true, true_or, or_false, false_or, and_false, false_and, Bool.false_eq_true, kl_int]
  exact key 0 (Nat.zero_le _) S (fun h hh => absurd hh (by omega)) (fun o _ => rfl)
def plP (d : Nat → Nat) (h : Nat) : Bool := decide (d h ≠ 0)
theorem vC_eq (k : kT) (n : Nat) (d : Nat → Nat) : vC k n d = lwV k n (sl k (sC k - 1)) (bset (plP d) (k 1)) + sumN (fun s => swV k n (sl k s) (bset (fun h => decide (d h = s + 1)) (k 1))) (sC k) := rfl
set_option maxHeartbeats 8000000 in
theorem c_weigh {n : Nat} {e : Nat → Nat} {x : Int32} (hV : KV k) (hd : ∀ h, h < k 1 → e h < sC k + 1) (hw : WY k e S) (hc : S 104 2 = nI (sC k)) (hsl : ∀ s, s < sC k → S 115 s = nI (sl k s)) (hO : WO k n S) (hx : S 104 7 = x) (hU : x < nI (vC k n e) → ∀ T, T 104 7 = nI (vC k n e) → (∀ h, h < k 1 → T 125 h = plv (encF k (e h))) → (∀ o, o ≠ 104 → o ≠ 124 → o ≠ 125 → T o = S o) → T 104 2 = S 104 2 → Z none T) (hS : ¬ x < nI (vC k n e) → ∀ T, (∀ o, o ≠ 124 → T o = S o) → Z none T) : CL L (d + 1) 67 [.ref 104, .int (nI (k 1))] S Z := by
  have ht := rot_sh L
  have hf := fl_sh L
  have v0 := hV.1
  have v1 := hV.2.1
  have c5 := sC_le v0
  have hp32 := pow_le32 v1
  -- the sum, from the sets
  have snd : ∀ T, (∀ s, s < 5 → T 124 s = nI (bset (fun h => decide (e h = s + 1)) (k 1))) → (∀ o, o ≠ 124 → T o = S o) → ∀ i, i ≤ sC k → ∀ P : Int32, WQ L (d + 1) 67 65 [.ref 104, .int (nI (k 1)), .int P, .int (nI (lwV k n (sl k (sC k - 1)) (bset (plP e) (k 1)) + sumN (fun s => swV k n (sl k s) (bset (fun h => decide (e h = s + 1)) (k 1))) i)), .int (nI i)] [] T Z := by
    intro T t1 tf
    have ec : T 104 2 = nI (sC k) := by rw [tf 104 (by decide)]; exact hc
    have e7 : T 104 7 = x := by rw [tf 104 (by decide)]; exact hx
    apply down_ind
    · intro P
      rw [w67_65]
      by_cases c : x < nI (vC k n e)
      · have hu := hU c
        rw [vC_eq] at hu c
        simp (disch := omega) only [w67_67, w67_68, w67_71, w67_98, w67_99, w67_100, w67_103, w67_106, w67_107, w67_108, w67_111, w67_112, w67_113, ht, ↓neg_vM, ↓neg_vB, ↓neg_vS, ↓neg_vF, ↓neg_vO, ↓neg_vA, ↓neg_vN, lit_nI, nI_leI, nI_ltI, nI_eq, jm_in_nI, nI_clamp, nI_add, n_mul, pk_sub, n_le_t, n_le_f, n_lt_t, n_lt_f, n_eq_t, n_eq_f, true_and, and_true, ne_eq, not_false_eq_true, not_true_eq_false, min_n, max_n, dif_n, n_rem, n_div, or_nI, shl_nI, Option.toList_some, Option.toList_none, List.singleton_append, List.nil_append, if_true, if_false, or_true, true_or, or_false, false_or, and_false, false_and, Bool.false_eq_true, ec, e7, ← Int32.not_lt, c, kl_int]
        refine c_keepWay v1 v0 hd (S := _) ?_ ?_ (fun T2 q1 q2 => ?_)
        · intro h hh
          rw [upd_ne (by decide), tf 123 (by decide)]
          exact hw h hh
        · intro s hs'
          rw [upd_ne (by decide), tf 115 (by decide)]
          exact hsl s hs'
        · simp (disch := omega) only [w67_116, ht, ↓neg_vM, ↓neg_vB, ↓neg_vS, ↓neg_vF, ↓neg_vO, ↓neg_vA, ↓neg_vN, lit_nI, nI_leI, nI_ltI, nI_eq, jm_in_nI, nI_clamp, nI_add, n_mul, pk_sub, n_le_t, n_le_f, n_lt_t, n_lt_f, n_eq_t, n_eq_f, true_and, and_true, ne_eq, not_false_eq_true, not_true_eq_false, min_n, max_n, dif_n, n_rem, n_div, or_nI, shl_nI, Option.toList_some, Option.toList_none, List.singleton_append, List.nil_append, if_true, if_false, or_true, true_or, or_false, false_or, and_false, false_and, Bool.false_eq_true]
          refine hu T2 (by rw [q2 104 (by decide), upd_at, if_pos ⟨rfl, rfl⟩]) q1 (fun o h1 h2 h3 => by rw [q2 o h3, upd_ne h1, tf o h2]) ?_
          rw [q2 104 (by decide), upd_at, if_neg (by omega), tf 104 (by decide)]
      · have hs2 := hS c
        rw [vC_eq] at c
        simp (disch := omega) only [w67_67, w67_68, w67_71, w67_98, w67_99, w67_100, w67_103, w67_116, ht, ↓neg_vM, ↓neg_vB, ↓neg_vS, ↓neg_vF, ↓neg_vO, ↓neg_vA, ↓neg_vN, lit_nI, nI_leI, nI_ltI, nI_eq, jm_in_nI, nI_clamp, nI_add, n_mul, pk_sub, n_le_t, n_le_f, n_lt_t, n_lt_f, n_eq_t, n_eq_f, true_and, and_true, ne_eq, not_false_eq_true, not_true_eq_false, min_n, max_n, dif_n, n_rem, n_div, or_nI, shl_nI, Option.toList_some, Option.toList_none, List.singleton_append, List.nil_append, if_true, if_false, or_true, true_or, or_false, false_or, and_false, false_and, Bool.false_eq_true, ec, e7, ← Int32.not_lt, c, kl_int]
        exact hs2 T tf
    · intro i hi ih P
      have hw5 := sw_sh L (show i < 5 by omega)
      have eb := t1 i (by omega)
      have hbl := bset_lt (fun h => decide (e h = i + 1)) (k 1)
      have es : T (117 + i) (bset (fun h => decide (e h = i + 1)) (k 1)) = nI (swV k n (sl k i) (bset (fun h => decide (e h = i + 1)) (k 1))) := by
        rw [tf _ (by omega)]
        exact hO.1 i hi _ hbl
      have ih' := ih P
      rw [sumN, ← Nat.add_assoc] at ih'
      rw [w67_65]
      simp (disch := omega) only [w67_67, w67_68, w67_71, w67_74, w67_75, w67_76, w67_79, w67_81, w67_82, w67_83, w67_86, w67_88, w67_89, w67_90, w67_91, w67_92, w67_95, ht, hw5, ↓neg_vM, ↓neg_vB, ↓neg_vS, ↓neg_vF, ↓neg_vO, ↓neg_vA, ↓neg_vN, lit_nI, nI_leI, nI_ltI, nI_eq, jm_in_nI, nI_clamp, nI_add, n_mul, pk_sub, n_le_t, n_le_f, n_lt_t, n_lt_f, n_eq_t, n_eq_f, true_and, and_true, ne_eq, not_false_eq_true, not_true_eq_false, min_n, max_n, dif_n, n_rem, n_div, or_nI, shl_nI, Option.toList_some, Option.toList_none, List.singleton_append, List.nil_append, if_true, if_false, or_true, true_or, or_false, false_or, and_false, false_and, Bool.false_eq_true, ec, eb, es, kl_int]
      exact ih'
  -- the sets
  have fst : ∀ i, i ≤ k 1 → ∀ T u4, (∀ s, s < 5 → T 124 s = nI (bset (fun h => decide (e h = s + 1)) i)) → (∀ o, o ≠ 124 → T o = S o) → WQ L (d + 1) 67 12 [.ref 104, .int (nI (k 1)), .int (nI (bset (plP e) i)), .int (nI i), u4] [] T Z := by
    apply down_ind
    · intro T u4 t1 tf
      have hbl := bset_lt (plP e) (k 1)
      have el : T 122 (bset (plP e) (k 1)) = nI (lwV k n (sl k (sC k - 1)) (bset (plP e) (k 1))) := by
        rw [tf 122 (by decide)]
        refine hO.2 _ hbl ?_
        by_cases c : 0 < sC k
        · exact Or.inl c
        · right
          refine nat_zero_of hbl (fun y hy => ?_)
          rw [bset_bit, show plP e y = false from decide_eq_false (fun q => q (by have := hd y hy; omega)), Bool.and_false]
      rw [w67_12]
      simp (disch := omega) only [w67_13, w67_14, w67_55, w67_56, w67_59, w67_60, w67_61, w67_62, w67_63, ht, ↓neg_vM, ↓neg_vB, ↓neg_vS, ↓neg_vF, ↓neg_vO, ↓neg_vA, ↓neg_vN, lit_nI, nI_leI, nI_ltI, nI_eq, jm_in_nI, nI_clamp, nI_add, n_mul, pk_sub, n_le_t, n_le_f, n_lt_t, n_lt_f, n_eq_t, n_eq_f, true_and, and_true, ne_eq, not_false_eq_true, not_true_eq_false, min_n, max_n, dif_n, n_rem, n_div, or_nI, shl_nI, Option.toList_some, Option.toList_none, List.singleton_append, List.nil_append, if_true, if_false, or_true, true_or, or_false, false_or, and_false, false_and, Bool.false_eq_true, el, kl_int]
      exact snd T t1 tf 0 (Nat.zero_le _) _
    · intro i hi ih T u4 t1 tf
      have ew : T 123 i = wyI (e i) := by rw [tf 123 (by decide)]; exact hw i hi
      have hdi := hd i hi
      rw [w67_12]
      by_cases c : e i = 0
      · have ew' : T 123 i = vM := by rw [ew, c]; rfl
        have eP : bset (plP e) (i + 1) = bset (plP e) i := by rw [bset_F (p := plP e) (decide_eq_false (fun q => q c)), Nat.or_zero]
        rw [eP] at ih
        simp (disch := omega) only [w67_13, w67_14, w67_17, w67_18, w67_21, w67_22, w67_23, w67_25, w67_27, w67_30, w67_31, w67_34, w67_36, w67_37, w67_38, w67_39, w67_40, w67_41, w67_42, w67_43, w67_44, w67_45, w67_46, w67_47, w67_48, w67_49, w67_52, ht, ↓neg_vM, ↓neg_vB, ↓neg_vS, ↓neg_vF, ↓neg_vO, ↓neg_vA, ↓neg_vN, lit_nI, nI_leI, nI_ltI, nI_eq, jm_in_nI, nI_clamp, nI_add, n_mul, pk_sub, n_le_t, n_le_f, n_lt_t, n_lt_f, n_eq_t, n_eq_f, true_and, and_true, ne_eq, not_false_eq_true, not_true_eq_false, min_n, max_n, dif_n, n_rem, n_div, or_nI, shl_nI, Option.toList_some, Option.toList_none, List.singleton_append, List.nil_append, if_true, if_false, or_true, true_or, or_false, false_or, and_false, false_and, Bool.false_eq_true, ew', vM_lt0, kl_int]
        refine ih T _ (fun s hs' => ?_) tf
        rw [bset_F (p := fun h => decide (e h = s + 1)) (decide_eq_false (by omega)), Nat.or_zero]
        exact t1 s hs'
      · have ew' : T 123 i = nI (e i - 1) := by rw [ew]; exact if_neg c
        have es := t1 (e i - 1) (by omega)
        have eP : bset (plP e) (i + 1) = bset (plP e) i ||| 2 ^ i := bset_T (p := plP e) (decide_eq_true c)
        rw [eP] at ih
        simp (disch := omega) only [w67_13, w67_14, w67_17, w67_18, w67_21, w67_22, w67_23, w67_25, w67_27, w67_30, w67_31, w67_34, w67_36, w67_37, w67_38, w67_39, w67_40, w67_41, w67_42, w67_43, w67_44, w67_45, w67_46, w67_47, w67_48, w67_49, w67_52, ht, ↓neg_vM, ↓neg_vB, ↓neg_vS, ↓neg_vF, ↓neg_vO, ↓neg_vA, ↓neg_vN, lit_nI, nI_leI, nI_ltI, nI_eq, jm_in_nI, nI_clamp, nI_add, n_mul, pk_sub, n_le_t, n_le_f, n_lt_t, n_lt_f, n_eq_t, n_eq_f, true_and, and_true, ne_eq, not_false_eq_true, not_true_eq_false, min_n, max_n, dif_n, n_rem, n_div, or_nI, shl_nI, Option.toList_some, Option.toList_none, List.singleton_append, List.nil_append, if_true, if_false, or_true, true_or, or_false, false_or, and_false, false_and, Bool.false_eq_true, ew', es, kl_int]
        refine ih _ _ (fun s hs' => ?_) (fun o ho => by rw [upd_ne ho, tf o ho])
        rw [upd_at]
        by_cases q : s = e i - 1
        · rw [if_pos ⟨rfl, q⟩, bset_T (p := fun h => decide (e h = s + 1)) (decide_eq_true (by omega)), q]
        · rw [if_neg (fun z => q z.2), bset_F (p := fun h => decide (e h = s + 1)) (decide_eq_false (by omega)), Nat.or_zero]
          exact t1 s hs'
  simp (disch := omega) only [cl67, w67_0, w67_1, w67_4, w67_5, ht, ↓neg_vM, ↓neg_vB, ↓neg_vS, ↓neg_vF, ↓neg_vO, ↓neg_vA, ↓neg_vN, lit_nI, nI_leI, nI_ltI, nI_eq, jm_in_nI, nI_clamp, nI_add, n_mul, pk_sub, n_le_t, n_le_f, n_lt_t, n_lt_f, n_eq_t, n_eq_f, true_and, and_true, ne_eq, not_false_eq_true, not_true_eq_false, min_n, max_n, dif_n, n_rem, n_div, or_nI, shl_nI, Option.toList_some, Option.toList_none, List.singleton_append, List.nil_append, if_true, if_false, or_true, true_or, or_false, false_or, and_false, false_and, Bool.false_eq_true, c_fill (n := 5) (a := 124) (by decide) ht.2.2.2.2.2.2.2.2.2.2.2.2.2.2.2.2.2.2.2.2.2.2.2.1 hf.2.2.1 hf.2.2.2]
  simp (disch := omega) only [w67_8, w67_9, w67_10, w67_11, ht, ↓neg_vM, ↓neg_vB, ↓neg_vS, ↓neg_vF, ↓neg_vO, ↓neg_vA, ↓neg_vN, lit_nI, nI_leI, nI_ltI, nI_eq, jm_in_nI, nI_clamp, nI_add, n_mul, pk_sub, n_le_t, n_le_f, n_lt_t, n_lt_f, n_eq_t, n_eq_f, true_and, and_true, ne_eq, not_false_eq_true, not_true_eq_false, min_n, max_n, dif_n, n_rem, n_div, or_nI, shl_nI, Option.toList_some, Option.toList_none, List.singleton_append, List.nil_append, if_true, if_false, or_true, true_or, or_false, false_or, and_false, false_and, Bool.false_eq_true, kl_int]
  exact fst 0 (Nat.zero_le _) _ _ (fun s hs' => by rw [row_at, if_pos rfl, if_pos hs']; rfl) (fun o ho => row_ne ho)
set_option maxHeartbeats 8000000 in
theorem c_nextWay {e : Nat → Nat} (hV : KV k) (hk1 : 0 < k 1) (hd : ∀ h, h < k 1 → e h < sC k + 1) (hw : WY k e S) (hc : S 104 2 = nI (sC k)) (hU : ∀ T g, (∀ h, h < k 1 → g h < sC k + 1) → rk (sC k + 1) g (k 1) = rk (sC k + 1) e (k 1) + 1 → WY k g T → (∀ o, o ≠ 123 → T o = S o) → Z none T) (hE : (∀ h, h < k 1 → e h = sC k) → ∀ T, (∀ o, o ≠ 123 → T o = S o) → Z none T) : CL L d 69 [.ref 104, .int (nI (k 1))] S Z := by
  have ht := rot_sh L
  have v0 := hV.1
  have v1 := hV.2.1
  have c5 := sC_le v0
  have key : ∀ i, i ≤ k 1 → ∀ T g, (∀ h, h < i → g h = e h) → (∀ h, i ≤ h → h < k 1 → e h = sC k ∧ g h = 0) → WY k g T → (∀ o, o ≠ 123 → T o = S o) → WQ L d 69 4 [.ref 104, .int (nI (k 1)), .int (ixI i)] [] T Z := by
    intro i
    induction i with
    | zero =>
      intro _ T g h1 h2 hg tf
      have e0 : ixI 0 = vM := rfl
      rw [w69_4, e0]
      simp (disch := omega) only [w69_5, w69_45, ht, ↓neg_vM, ↓neg_vB, ↓neg_vS, ↓neg_vF, ↓neg_vO, ↓neg_vA, ↓neg_vN, lit_nI, nI_leI, nI_ltI, nI_eq, jm_in_nI, nI_clamp, nI_add, n_mul, pk_sub, n_le_t, n_le_f, n_lt_t, n_lt_f, n_eq_t, n_eq_f, true_and, and_true, ne_eq, not_false_eq_true, not_true_eq_false, min_n, max_n, dif_n, n_rem, n_div, or_nI, shl_nI, Option.toList_some, Option.toList_none, List.singleton_append, List.nil_append, if_true, if_false, or_true, true_or, or_false, false_or, and_false, false_and, Bool.false_eq_true, vM_lt0]
      exact hE (fun h hh => (h2 h (Nat.zero_le _) hh).1) T tf
    | succ j ih =>
      intro hj T g h1 h2 hg tf
      have e0 : ixI (j + 1) = nI j := rfl
      have ec : T 104 2 = nI (sC k) := by rw [tf 104 (by decide)]; exact hc
      have ew : T 123 j = wyI (e j) := by rw [hg j (by omega), h1 j (by omega)]
      have hdj := hd j (by omega)
      have e1 := wyI_1 (e j)
      rw [w69_4, e0]
      by_cases c : e j < sC k
      · simp (disch := omega) only [w69_5, w69_8, w69_9, w69_12, w69_13, w69_14, w69_15, w69_16, w69_17, w69_18, w69_19, w69_22, w69_23, w69_24, w69_25, w69_28, w69_31, ht, ↓neg_vM, ↓neg_vB, ↓neg_vS, ↓neg_vF, ↓neg_vO, ↓neg_vA, ↓neg_vN, lit_nI, nI_leI, nI_ltI, nI_eq, jm_in_nI, nI_clamp, nI_add, n_mul, pk_sub, n_le_t, n_le_f, n_lt_t, n_lt_f, n_eq_t, n_eq_f, true_and, and_true, ne_eq, not_false_eq_true, not_true_eq_false, min_n, max_n, dif_n, n_rem, n_div, or_nI, shl_nI, Option.toList_some, Option.toList_none, List.singleton_append, List.nil_append, if_true, if_false, or_true, true_or, or_false, false_or, and_false, false_and, Bool.false_eq_true, ew, e1, upd_at, ec]
        refine hU _ (fun h => if h = j then e j + 1 else g h) (fun h hh => ?_) ?_ (fun h hh => ?_) (fun o ho => by rw [upd_ne ho, tf o ho])
        · try dsimp only
          by_cases q : h = j
          · rw [if_pos q]; omega
          · rw [if_neg q]
            by_cases q2 : h < j
            · rw [h1 h (by omega)]; exact hd h hh
            · rw [(h2 h (by omega) hh).2]; omega
        · refine rk_next (i := j) (k 1) (by omega) (fun h hh => by (try dsimp only); rw [if_neg (by omega), h1 h (by omega)]) (if_pos rfl) (fun h a b => ⟨(h2 h (by omega) b).1, ?_⟩)
          try dsimp only
          rw [if_neg (by omega)]
          exact (h2 h (by omega) b).2
        · try dsimp only
          rw [upd_at]
          by_cases q : h = j
          · rw [if_pos ⟨rfl, q⟩, if_pos q]
            rfl
          · rw [if_neg (fun z => q z.2), if_neg q]
            exact hg h hh
      · simp (disch := omega) only [w69_5, w69_8, w69_9, w69_12, w69_13, w69_14, w69_15, w69_16, w69_17, w69_18, w69_19, w69_22, w69_23, w69_24, w69_25, w69_28, w69_31, w69_32, w69_33, w69_36, w69_37, w69_38, w69_39, w69_42, ht, ↓neg_vM, ↓neg_vB, ↓neg_vS, ↓neg_vF, ↓neg_vO, ↓neg_vA, ↓neg_vN, lit_nI, nI_leI, nI_ltI, nI_eq, jm_in_nI, nI_clamp, nI_add, n_mul, pk_sub, n_le_t, n_le_f, n_lt_t, n_lt_f, n_eq_t, n_eq_f, true_and, and_true, ne_eq, not_false_eq_true, not_true_eq_false, min_n, max_n, dif_n, n_rem, n_div, or_nI, shl_nI, Option.toList_some, Option.toList_none, List.singleton_append, List.nil_append, if_true, if_false, or_true, true_or, or_false, false_or, and_false, false_and, Bool.false_eq_true, ew, e1, upd_at, ec, add_vM, kl_int]
        refine ih (by omega) _ (fun h => if h = j then 0 else g h) (fun h hh => by (try dsimp only); rw [if_neg (by omega), h1 h (by omega)]) (fun h a b => ?_) (fun h hh => ?_) (fun o ho => by rw [upd_ne ho, upd_ne ho, tf o ho])
        · try dsimp only
          by_cases q : h = j
          · rw [if_pos q, q]; exact ⟨by omega, rfl⟩
          · rw [if_neg q]; exact h2 h (by omega) b
        · try dsimp only
          rw [upd_at]
          by_cases q : h = j
          · rw [if_pos ⟨rfl, q⟩, if_pos q]; rfl
          · rw [if_neg (fun z => q z.2), if_neg q, upd_at, if_neg (fun z => q z.2)]
            exact hg h hh
  have e0 : nI (k 1 - 1) = ixI (k 1) := by unfold ixI; rw [if_neg (by omega)]
  simp (disch := omega) only [cl69, w69_0, w69_1, w69_2, w69_3, ↓neg_vM, ↓neg_vB, ↓neg_vS, ↓neg_vF, ↓neg_vO, ↓neg_vA, ↓neg_vN, lit_nI, nI_leI, nI_ltI, nI_eq, jm_in_nI, nI_clamp, nI_add, n_mul, pk_sub, n_le_t, n_le_f, n_lt_t, n_lt_f, n_eq_t, n_eq_f, true_and, and_true, ne_eq, not_false_eq_true, not_true_eq_false, min_n, max_n, dif_n, n_rem, n_div, or_nI, shl_nI, Option.toList_some, Option.toList_none, List.singleton_append, List.nil_append, if_true, if_false, or_true, true_or, or_false, false_or, and_false, false_and, Bool.false_eq_true, kl_int]
  rw [e0]
  exact key (k 1) (Nat.le_refl _) S e (fun h _ => rfl) (fun h a b => absurd b (by omega)) hw (fun o _ => rfl)
end
