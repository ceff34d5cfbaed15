/-! ===== a camp is read: the reference ===== -/
def TKs (b : Nat → Nat) (n p tk : Nat) (vl cu : Int32) : Prop := (tk = 1 ∧ n ≤ p) ∨ (tk = 2 ∧ p < n ∧ 97 ≤ b p ∧ b p ≤ 122 ∧ vl = nI (b p) ∧ cu = nI (p + 1)) ∨ (tk = 3 ∧ p < n ∧ 48 ≤ b p ∧ b p ≤ 57 ∧ (nln b n p = 1 ∨ nln b n p = 2) ∧ vl = nI (nvl b n p) ∧ cu = nI (p + nln b n p)) ∨ (tk = 4 ∧ p < n ∧ (b p = 44 ∨ b p = 59) ∧ vl = nI (b p) ∧ cu = nI (p + 1)) ∨ (tk = 0 ∧ p < n ∧ ¬ (97 ≤ b p ∧ b p ≤ 122) ∧ ¬ (b p = 44 ∨ b p = 59) ∧ (nln b n p = 0 ∨ nln b n p = 3))
def TK (b : Nat → Nat) (n p : Nat) (U : jm_I2) : Prop := U 128 16 = nI 0 ∧ U 128 13 = nI p ∧ ∃ tk, tk ≤ 4 ∧ U 128 14 = nI tk ∧ TKs b n p tk (U 128 15) (U 128 12)
def RP (b : Nat → Nat) (n p f : Nat) (T : jm_I2) : Prop := T 128 11 = nI n ∧ (∀ i, i < n → T 136 i = nI (b i)) ∧ (f = 0 → TK b n p T) ∧ (f ≠ 0 → T 128 16 = nI f ∧ T 128 17 = nI p)
def frR (T U : jm_I2) : Prop := (∀ o, o ≠ 128 → U o = T o) ∧ ∀ i, i ≤ 11 ∨ 18 ≤ i → U 128 i = T 128 i
theorem frR_rf (T : jm_I2) : frR T T := ⟨fun _ _ => rfl, fun _ _ => rfl⟩
theorem frR_tr {T U V : jm_I2} (h1 : frR T U) (h2 : frR U V) : frR T V := ⟨fun o ho => by rw [h2.1 o ho, h1.1 o ho], fun i hi => by rw [h2.2 i hi, h1.2 i hi]⟩
theorem frR_u {T U : jm_I2} {i : Nat} {v : Int32} (h : frR T U) (h1 : 12 ≤ i) (h2 : i ≤ 17) : frR T (jm_upd U 128 i v) := ⟨fun o ho => by rw [upd_ne ho, h.1 o ho], fun j hj => by rw [upd_at, if_neg (by omega), h.2 j hj]⟩
theorem RP_ft {b : Nat → Nat} {n p f : Nat} {T : jm_I2} (h : RP b n p f T) : T 128 16 = nI f := by
  by_cases c : f = 0
  · rw [c]; exact (h.2.2.1 c).1
  · exact (h.2.2.2 c).1
theorem RP_of {b : Nat → Nat} {n p f : Nat} {T U : jm_I2} (h : RP b n p f T) (f1 : U 128 = T 128) (f2 : U 136 = T 136) : RP b n p f U := by
  unfold RP TK at h ⊢
  rw [f1, f2]
  exact h
/-- a fault is set -/
theorem RP_bad {b : Nat → Nat} {n p c : Nat} {T : jm_I2} (h : RP b n p 0 T) (hc : c ≠ 0) : RP b n p c (jm_upd (jm_upd T 128 16 (nI c)) 128 17 (nI p)) := by
  obtain ⟨h1, h2, h3, h4⟩ := h
  refine ⟨?_, fun i hi => ?_, fun q => absurd q hc, fun _ => ⟨?_, ?_⟩⟩
  · rw [upd_at, if_neg (by omega), upd_at, if_neg (by omega), h1]
  · rw [upd_ne (by decide), upd_ne (by decide)]; exact h2 i hi
  · rw [upd_at, if_neg (by omega), upd_at, if_pos ⟨rfl, rfl⟩]
  · rw [upd_at, if_pos ⟨rfl, rfl⟩]
section
variable {xs : Nat → Int32} {L d : Nat} {S T : jm_I2} {k : kT} {Z : Option Value → jm_I2 → Prop} {b : Nat → Nat} {n p f : Nat}
set_option maxHeartbeats 8000000 in
theorem nt_loop (hn : n ≤ 120) (hb : ∀ i, i < n → b i ≤ 255) (hZ : ∀ U, RP b n p 0 U → frR T U → Z none U) : ∀ m q v U, q + m = n → p < q → (∀ i, p ≤ i → i < q → dgt b n i = true) → U 128 11 = nI n → (∀ i, i < n → U 136 i = nI (b i)) → U 128 12 = nI q → U 128 13 = nI p → U 128 14 = nI 3 → U 128 16 = nI 0 → U 128 15 = nI v → v = (if p + 1 < q then 10 * (b p - 48) + (b (p + 1) - 48) else b p - 48) → frR T U → WQ L (d + 1) 138 165 [.ref 128] [] U Z := by
  intro m
  induction m with
  | zero =>
    intro q v U hq hpq hd u11 u136 u12 u13 u14 u16 u15 hv uf
    have hm := mod_sh L
    have d0 := hd p (Nat.le_refl _) hpq
    have t0 := dgt_T d0
    have ed : dgt b n q = false := by unfold dgt; rw [byt_out (by omega)]; rfl
    rw [w138_165]
    by_cases c : q = p + 1
    · subst c
      rw [if_neg (by omega)] at hv
      have en : nln b n p = 1 := by unfold nln; rw [if_pos d0, if_neg (by rw [ed]; decide)]
      have ev : nvl b n p = b p - 48 := by unfold nvl; rw [if_neg (by rw [ed]; decide), t0.2.1]
      simp (disch := omega) only [w138_166, w138_169, w138_170, w138_173, w138_255, w138_256, w138_257, w138_260, w138_261, w138_264, w138_265, w138_266, w138_269, w138_270, w138_273, w138_274, w138_277, hm, ↓neg_vM, ↓neg_vB, ↓neg_vS, ↓neg_vF, ↓neg_vO, ↓neg_vA, ↓neg_vN, lit_nI, nI_leI, nI_ltI, nI_eq, jm_in_nI, nI_clamp, nI_add, n_mul, pk_sub, n_le_t, n_le_f, n_lt_t, n_lt_f, n_eq_t, n_eq_f, true_and, and_true, ne_eq, not_false_eq_true, not_true_eq_false, min_n, max_n, dif_n, n_rem, n_div, or_nI, shl_nI, Option.toList_some, Option.toList_none, List.singleton_append, List.nil_append, if_true, if_false, or_true, true_or, or_false, false_or, and_false, false_and, Bool.false_eq_true, u11, u12, u13]
      refine hZ _ ⟨by simp (disch := omega) only [upd_at, row_at, n_eq_f, n_eq_t, and_true, true_and, and_false, false_and, and_self, if_true, if_false,  u11], fun i hi => by rw [upd_ne (by decide)]; exact u136 i hi, fun _ => ⟨by simp (disch := omega) only [upd_at, row_at, n_eq_f, n_eq_t, and_true, true_and, and_false, false_and, and_self, if_true, if_false,  u16], by simp (disch := omega) only [upd_at, row_at, n_eq_f, n_eq_t, and_true, true_and, and_false, false_and, and_self, if_true, if_false,  u13], 3, by decide, by simp (disch := omega) only [upd_at, row_at, n_eq_f, n_eq_t, and_true, true_and, and_false, false_and, and_self, if_true, if_false,  u16], ?_⟩, fun q => absurd rfl q⟩ (frR_u uf (by decide) (by decide))
      refine Or.inr (Or.inr (Or.inl ⟨rfl, by omega, by omega, by omega, Or.inl en, ?_, ?_⟩))
      · rw [upd_at, if_neg (by omega), u15, hv, ev]
      · rw [upd_at, if_neg (by omega), u12, en]
    · by_cases c2 : q = p + 2
      · subst c2
        rw [if_pos (by omega)] at hv
        have d1 := hd (p + 1) (by omega) (by omega)
        have t1 := dgt_T d1
        have en : nln b n p = 2 := by unfold nln; rw [if_pos d0, if_pos d1, if_neg (by rw [ed]; decide)]
        have ev : nvl b n p = 10 * (b p - 48) + (b (p + 1) - 48) := by unfold nvl; rw [if_pos d1, t0.2.1, t1.2.1]
        simp (disch := omega) only [w138_166, w138_169, w138_170, w138_173, w138_255, w138_256, w138_257, w138_260, w138_261, w138_264, w138_265, w138_266, w138_269, w138_270, w138_273, w138_274, w138_277, hm, ↓neg_vM, ↓neg_vB, ↓neg_vS, ↓neg_vF, ↓neg_vO, ↓neg_vA, ↓neg_vN, lit_nI, nI_leI, nI_ltI, nI_eq, jm_in_nI, nI_clamp, nI_add, n_mul, pk_sub, n_le_t, n_le_f, n_lt_t, n_lt_f, n_eq_t, n_eq_f, true_and, and_true, ne_eq, not_false_eq_true, not_true_eq_false, min_n, max_n, dif_n, n_rem, n_div, or_nI, shl_nI, Option.toList_some, Option.toList_none, List.singleton_append, List.nil_append, if_true, if_false, or_true, true_or, or_false, false_or, and_false, false_and, Bool.false_eq_true, u11, u12, u13]
        refine hZ _ ⟨by simp (disch := omega) only [upd_at, row_at, n_eq_f, n_eq_t, and_true, true_and, and_false, false_and, and_self, if_true, if_false,  u11], fun i hi => by rw [upd_ne (by decide)]; exact u136 i hi, fun _ => ⟨by simp (disch := omega) only [upd_at, row_at, n_eq_f, n_eq_t, and_true, true_and, and_false, false_and, and_self, if_true, if_false,  u16], by simp (disch := omega) only [upd_at, row_at, n_eq_f, n_eq_t, and_true, true_and, and_false, false_and, and_self, if_true, if_false,  u13], 3, by decide, by simp (disch := omega) only [upd_at, row_at, n_eq_f, n_eq_t, and_true, true_and, and_false, false_and, and_self, if_true, if_false,  u16], ?_⟩, fun q => absurd rfl q⟩ (frR_u uf (by decide) (by decide))
        refine Or.inr (Or.inr (Or.inl ⟨rfl, by omega, by omega, by omega, Or.inr en, ?_, ?_⟩))
        · rw [upd_at, if_neg (by omega), u15, hv, ev]
        · rw [upd_at, if_neg (by omega), u12, en]
      · have d1 := hd (p + 1) (by omega) (by omega)
        have d2 := hd (p + 2) (by omega) (by omega)
        have en : nln b n p = 3 := by unfold nln; rw [if_pos d0, if_pos d1, if_pos d2]
        simp (disch := omega) only [w138_166, w138_169, w138_170, w138_173, w138_255, w138_256, w138_257, w138_260, w138_261, w138_264, w138_265, w138_266, w138_269, w138_270, w138_273, w138_274, w138_277, hm, ↓neg_vM, ↓neg_vB, ↓neg_vS, ↓neg_vF, ↓neg_vO, ↓neg_vA, ↓neg_vN, lit_nI, nI_leI, nI_ltI, nI_eq, jm_in_nI, nI_clamp, nI_add, n_mul, pk_sub, n_le_t, n_le_f, n_lt_t, n_lt_f, n_eq_t, n_eq_f, true_and, and_true, ne_eq, not_false_eq_true, not_true_eq_false, min_n, max_n, dif_n, n_rem, n_div, or_nI, shl_nI, Option.toList_some, Option.toList_none, List.singleton_append, List.nil_append, if_true, if_false, or_true, true_or, or_false, false_or, and_false, false_and, Bool.false_eq_true, u11, u12, u13]
        refine hZ _ ⟨by simp (disch := omega) only [upd_at, row_at, n_eq_f, n_eq_t, and_true, true_and, and_false, false_and, and_self, if_true, if_false,  u11], fun i hi => by rw [upd_ne (by decide)]; exact u136 i hi, fun _ => ⟨by simp (disch := omega) only [upd_at, row_at, n_eq_f, n_eq_t, and_true, true_and, and_false, false_and, and_self, if_true, if_false,  u16], by simp (disch := omega) only [upd_at, row_at, n_eq_f, n_eq_t, and_true, true_and, and_false, false_and, and_self, if_true, if_false,  u13], 0, by decide, by simp (disch := omega) only [upd_at, row_at, n_eq_f, n_eq_t, and_true, true_and, and_false, false_and, and_self, if_true, if_false,  u16], ?_⟩, fun q => absurd rfl q⟩ (frR_u uf (by decide) (by decide))
        exact Or.inr (Or.inr (Or.inr (Or.inr ⟨rfl, by omega, by omega, by omega, Or.inr en⟩)))
  | succ m ih =>
    intro q v U hq hpq hd u11 u136 u12 u13 u14 u16 u15 hv uf
    have hm := mod_sh L
    have d0 := hd p (Nat.le_refl _) hpq
    have t0 := dgt_T d0
    have eq := u136 q (by omega)
    have bq := hb q (by omega)
    rw [w138_165]
    by_cases ed : dgt b n q = true
    · have tq := dgt_T ed
      have hd' : ∀ i, p ≤ i → i < q + 1 → dgt b n i = true := fun i h1 h2 => by
        by_cases e : i = q
        · rw [e]; exact ed
        · exact hd i h1 (by omega)
      by_cases c : q = p + 1
      · subst c
        rw [if_neg (by omega)] at hv
        subst hv
        simp (disch := omega) only [w138_166, w138_169, w138_170, w138_173, w138_176, w138_177, w138_180, w138_181, w138_184, w138_185, w138_186, w138_189, w138_192, w138_195, w138_198, w138_199, w138_200, w138_203, w138_204, w138_207, w138_208, w138_209, w138_212, w138_214, w138_215, w138_218, w138_219, w138_220, w138_223, w138_224, w138_227, w138_228, w138_229, w138_231, w138_232, w138_235, w138_236, w138_239, w138_242, w138_243, w138_244, w138_247, w138_248, w138_249, w138_252, hm, ↓neg_vM, ↓neg_vB, ↓neg_vS, ↓neg_vF, ↓neg_vO, ↓neg_vA, ↓neg_vN, lit_nI, nI_leI, nI_ltI, nI_eq, jm_in_nI, nI_clamp, nI_add, n_mul, pk_sub, n_le_t, n_le_f, n_lt_t, n_lt_f, n_eq_t, n_eq_f, true_and, and_true, ne_eq, not_false_eq_true, not_true_eq_false, min_n, max_n, dif_n, n_rem, n_div, or_nI, shl_nI, Option.toList_some, Option.toList_none, List.singleton_append, List.nil_append, if_true, if_false, or_true, true_or, or_false, false_or, and_false, false_and, Bool.false_eq_true, u11, u12, u13, u15, eq, lit_lN, nI_l, r_in, lN_le, upd_at]
        refine ih (p + 1 + 1) (10 * (b p - 48) + b (p + 1) - 48) _ (by omega) (by omega) hd' (by simp (disch := omega) only [upd_at, row_at, n_eq_f, n_eq_t, and_true, true_and, and_false, false_and, and_self, if_true, if_false,  u11]) (fun i hi => by rw [upd_ne (by decide), upd_ne (by decide)]; exact u136 i hi) (by simp (disch := omega) only [upd_at, row_at, n_eq_f, n_eq_t, and_true, true_and, and_false, false_and, and_self, if_true, if_false,  u11]) (by simp (disch := omega) only [upd_at, row_at, n_eq_f, n_eq_t, and_true, true_and, and_false, false_and, and_self, if_true, if_false,  u13]) (by simp (disch := omega) only [upd_at, row_at, n_eq_f, n_eq_t, and_true, true_and, and_false, false_and, and_self, if_true, if_false,  u14]) (by simp (disch := omega) only [upd_at, row_at, n_eq_f, n_eq_t, and_true, true_and, and_false, false_and, and_self, if_true, if_false,  u16]) (by simp (disch := omega) only [upd_at, row_at, n_eq_f, n_eq_t, and_true, true_and, and_false, false_and, and_self, if_true, if_false,  u16]) (by rw [if_pos (by omega)]; omega) (frR_u (frR_u uf (by decide) (by decide)) (by decide) (by decide))
      · rw [if_pos (by omega)] at hv
        simp (disch := omega) only [w138_166, w138_169, w138_170, w138_173, w138_176, w138_177, w138_180, w138_181, w138_184, w138_185, w138_186, w138_189, w138_192, w138_195, w138_198, w138_199, w138_200, w138_203, w138_204, w138_207, w138_208, w138_209, w138_212, w138_214, w138_215, w138_218, w138_219, w138_220, w138_223, w138_224, w138_227, w138_228, w138_229, w138_231, w138_232, w138_235, w138_236, w138_239, w138_242, w138_243, w138_244, w138_247, w138_248, w138_249, w138_252, hm, ↓neg_vM, ↓neg_vB, ↓neg_vS, ↓neg_vF, ↓neg_vO, ↓neg_vA, ↓neg_vN, lit_nI, nI_leI, nI_ltI, nI_eq, jm_in_nI, nI_clamp, nI_add, n_mul, pk_sub, n_le_t, n_le_f, n_lt_t, n_lt_f, n_eq_t, n_eq_f, true_and, and_true, ne_eq, not_false_eq_true, not_true_eq_false, min_n, max_n, dif_n, n_rem, n_div, or_nI, shl_nI, Option.toList_some, Option.toList_none, List.singleton_append, List.nil_append, if_true, if_false, or_true, true_or, or_false, false_or, and_false, false_and, Bool.false_eq_true, u11, u12, u13, u15, eq, lit_lN, nI_l, r_in, lN_le, upd_at]
        refine ih (q + 1) v _ (by omega) (by omega) hd' (by simp (disch := omega) only [upd_at, row_at, n_eq_f, n_eq_t, and_true, true_and, and_false, false_and, and_self, if_true, if_false,  u11]) (fun i hi => by rw [upd_ne (by decide), upd_ne (by decide)]; exact u136 i hi) (by simp (disch := omega) only [upd_at, row_at, n_eq_f, n_eq_t, and_true, true_and, and_false, false_and, and_self, if_true, if_false,  u11]) (by simp (disch := omega) only [upd_at, row_at, n_eq_f, n_eq_t, and_true, true_and, and_false, false_and, and_self, if_true, if_false,  u13]) (by simp (disch := omega) only [upd_at, row_at, n_eq_f, n_eq_t, and_true, true_and, and_false, false_and, and_self, if_true, if_false,  u14]) (by simp (disch := omega) only [upd_at, row_at, n_eq_f, n_eq_t, and_true, true_and, and_false, false_and, and_self, if_true, if_false,  u16]) (by simp (disch := omega) only [upd_at, row_at, n_eq_f, n_eq_t, and_true, true_and, and_false, false_and, and_self, if_true, if_false,  u16]) (by rw [if_pos (by omega)]; exact hv) (frR_u (frR_u uf (by decide) (by decide)) (by decide) (by decide))
    · have ed' : dgt b n q = false := by simpa using ed
      have ef := dgt_F ed'
      rw [byt_in (by omega)] at ef
      have es : ¬ (48 ≤ b q ∧ b q ≤ 57) := ef
      by_cases c : q = p + 1
      · subst c
        rw [if_neg (by omega)] at hv
        have en : nln b n p = 1 := by unfold nln; rw [if_pos d0, if_neg ed]
        have ev : nvl b n p = b p - 48 := by unfold nvl; rw [if_neg ed, t0.2.1]
        simp (disch := omega) only [w138_166, w138_169, w138_170, w138_173, w138_176, w138_177, w138_180, w138_181, w138_184, w138_185, w138_186, w138_189, w138_192, w138_195, w138_255, w138_256, w138_257, w138_260, w138_261, w138_264, w138_265, w138_266, w138_269, w138_270, w138_273, w138_274, w138_277, hm, ↓neg_vN, lit_nI, nI_leI, nI_ltI, nI_eq, jm_in_nI, nI_clamp, nI_add, pk_sub, n_lt_t, n_lt_f, n_eq_t, n_eq_f, true_and, and_true, Option.toList_some, List.singleton_append, if_true, if_false, u11, u12, u13, eq, lit_lN, nI_l, r_in, lN_le, es, n_le_t, n_le_f]
        refine hZ _ ⟨by simp (disch := omega) only [upd_at, row_at, n_eq_f, n_eq_t, and_true, true_and, and_false, false_and, and_self, if_true, if_false,  u11], fun i hi => by rw [upd_ne (by decide)]; exact u136 i hi, fun _ => ⟨by simp (disch := omega) only [upd_at, row_at, n_eq_f, n_eq_t, and_true, true_and, and_false, false_and, and_self, if_true, if_false,  u16], by simp (disch := omega) only [upd_at, row_at, n_eq_f, n_eq_t, and_true, true_and, and_false, false_and, and_self, if_true, if_false,  u13], 3, by decide, by simp (disch := omega) only [upd_at, row_at, n_eq_f, n_eq_t, and_true, true_and, and_false, false_and, and_self, if_true, if_false,  u16], ?_⟩, fun q => absurd rfl q⟩ (frR_u uf (by decide) (by decide))
        refine Or.inr (Or.inr (Or.inl ⟨rfl, by omega, by omega, by omega, Or.inl en, ?_, ?_⟩))
        · rw [upd_at, if_neg (by omega), u15, hv, ev]
        · rw [upd_at, if_neg (by omega), u12, en]
      · by_cases c2 : q = p + 2
        · subst c2
          rw [if_pos (by omega)] at hv
          have d1 := hd (p + 1) (by omega) (by omega)
          have t1 := dgt_T d1
          have en : nln b n p = 2 := by unfold nln; rw [if_pos d0, if_pos d1, if_neg ed]
          have ev : nvl b n p = 10 * (b p - 48) + (b (p + 1) - 48) := by unfold nvl; rw [if_pos d1, t0.2.1, t1.2.1]
          simp (disch := omega) only [w138_166, w138_169, w138_170, w138_173, w138_176, w138_177, w138_180, w138_181, w138_184, w138_185, w138_186, w138_189, w138_192, w138_195, w138_255, w138_256, w138_257, w138_260, w138_261, w138_264, w138_265, w138_266, w138_269, w138_270, w138_273, w138_274, w138_277, hm, ↓neg_vN, lit_nI, nI_leI, nI_ltI, nI_eq, jm_in_nI, nI_clamp, nI_add, pk_sub, n_lt_t, n_lt_f, n_eq_t, n_eq_f, true_and, and_true, Option.toList_some, List.singleton_append, if_true, if_false, u11, u12, u13, eq, lit_lN, nI_l, r_in, lN_le, es, n_le_t, n_le_f]
          refine hZ _ ⟨by simp (disch := omega) only [upd_at, row_at, n_eq_f, n_eq_t, and_true, true_and, and_false, false_and, and_self, if_true, if_false,  u11], fun i hi => by rw [upd_ne (by decide)]; exact u136 i hi, fun _ => ⟨by simp (disch := omega) only [upd_at, row_at, n_eq_f, n_eq_t, and_true, true_and, and_false, false_and, and_self, if_true, if_false,  u16], by simp (disch := omega) only [upd_at, row_at, n_eq_f, n_eq_t, and_true, true_and, and_false, false_and, and_self, if_true, if_false,  u13], 3, by decide, by simp (disch := omega) only [upd_at, row_at, n_eq_f, n_eq_t, and_true, true_and, and_false, false_and, and_self, if_true, if_false,  u16], ?_⟩, fun q => absurd rfl q⟩ (frR_u uf (by decide) (by decide))
          refine Or.inr (Or.inr (Or.inl ⟨rfl, by omega, by omega, by omega, Or.inr en, ?_, ?_⟩))
          · rw [upd_at, if_neg (by omega), u15, hv, ev]
          · rw [upd_at, if_neg (by omega), u12, en]
        · have d1 := hd (p + 1) (by omega) (by omega)
          have d2 := hd (p + 2) (by omega) (by omega)
          have en : nln b n p = 3 := by unfold nln; rw [if_pos d0, if_pos d1, if_pos d2]
          simp (disch := omega) only [w138_166, w138_169, w138_170, w138_173, w138_176, w138_177, w138_180, w138_181, w138_184, w138_185, w138_186, w138_189, w138_192, w138_195, w138_255, w138_256, w138_257, w138_260, w138_261, w138_264, w138_265, w138_266, w138_269, w138_270, w138_273, w138_274, w138_277, hm, ↓neg_vN, lit_nI, nI_leI, nI_ltI, nI_eq, jm_in_nI, nI_clamp, nI_add, pk_sub, n_lt_t, n_lt_f, n_eq_t, n_eq_f, true_and, and_true, Option.toList_some, List.singleton_append, if_true, if_false, u11, u12, u13, eq, lit_lN, nI_l, r_in, lN_le, es, n_le_t, n_le_f]
          refine hZ _ ⟨by simp (disch := omega) only [upd_at, row_at, n_eq_f, n_eq_t, and_true, true_and, and_false, false_and, and_self, if_true, if_false,  u11], fun i hi => by rw [upd_ne (by decide)]; exact u136 i hi, fun _ => ⟨by simp (disch := omega) only [upd_at, row_at, n_eq_f, n_eq_t, and_true, true_and, and_false, false_and, and_self, if_true, if_false,  u16], by simp (disch := omega) only [upd_at, row_at, n_eq_f, n_eq_t, and_true, true_and, and_false, false_and, and_self, if_true, if_false,  u13], 0, by decide, by simp (disch := omega) only [upd_at, row_at, n_eq_f, n_eq_t, and_true, true_and, and_false, false_and, and_self, if_true, if_false,  u16], ?_⟩, fun q => absurd rfl q⟩ (frR_u uf (by decide) (by decide))
          exact Or.inr (Or.inr (Or.inr (Or.inr ⟨rfl, by omega, by omega, by omega, Or.inr en⟩)))
set_option maxHeartbeats 8000000 in
theorem r_nextToken (h11 : T 128 11 = nI n) (h136 : ∀ i, i < n → T 136 i = nI (b i)) (h12 : T 128 12 = nI p) (h16 : T 128 16 = nI 0) (hn : n ≤ 120) (hp : p ≤ n) (hb : ∀ i, i < n → b i ≤ 255) (hZ : ∀ U, RP b n p 0 U → frR T U → Z none U) : CL L (d + 1) 138 [.ref 128] T Z := by
  have hm := mod_sh L
  by_cases c : p = n
  · subst c
    simp (disch := omega) only [cl138, w138_0, w138_1, w138_2, w138_5, w138_8, w138_9, w138_10, w138_13, w138_14, w138_17, w138_20, w138_21, w138_24, w138_25, w138_28, w138_29, w138_32, w138_34, w138_37, w138_38, w138_39, w138_42, w138_43, w138_46, w138_49, w138_50, w138_53, w138_54, w138_57, w138_58, w138_61, w138_64, w138_67, w138_70, w138_71, w138_74, w138_75, w138_78, w138_79, w138_82, w138_85, w138_88, w138_91, w138_92, w138_95, w138_96, w138_99, w138_101, w138_104, w138_105, w138_108, w138_110, w138_113, w138_114, w138_117, w138_118, w138_121, w138_122, w138_123, w138_126, w138_127, w138_130, w138_131, w138_134, w138_137, w138_138, w138_141, w138_142, w138_143, w138_146, w138_147, w138_150, w138_151, w138_277, hm, ↓neg_vM, ↓neg_vB, ↓neg_vS, ↓neg_vF, ↓neg_vO, ↓neg_vA, ↓neg_vN, lit_nI, nI_leI, nI_ltI, nI_eq, jm_in_nI, nI_clamp, nI_add, n_mul, pk_sub, n_le_t, n_le_f, n_lt_t, n_lt_f, n_eq_t, n_eq_f, true_and, and_true, ne_eq, not_false_eq_true, not_true_eq_false, min_n, max_n, dif_n, n_rem, n_div, or_nI, shl_nI, Option.toList_some, Option.toList_none, List.singleton_append, List.nil_append, if_true, if_false, or_true, true_or, or_false, false_or, and_false, false_and, Bool.false_eq_true, h11, h12, upd_at]
    refine hZ _ ⟨by simp (disch := omega) only [upd_at, row_at, n_eq_f, n_eq_t, and_true, true_and, and_false, false_and, and_self, if_true, if_false,  h11], fun i hi => by rw [upd_ne (by decide), upd_ne (by decide), upd_ne (by decide), upd_ne (by decide)]; exact h136 i hi, fun _ => ⟨by simp (disch := omega) only [upd_at, row_at, n_eq_f, n_eq_t, and_true, true_and, and_false, false_and, and_self, if_true, if_false,  h16], by simp (disch := omega) only [upd_at, row_at, n_eq_f, n_eq_t, and_true, true_and, and_false, false_and, and_self, if_true, if_false,  h16], 1, by decide, by simp (disch := omega) only [upd_at, row_at, n_eq_f, n_eq_t, and_true, true_and, and_false, false_and, and_self, if_true, if_false,  h16], Or.inl ⟨rfl, Nat.le_refl _⟩⟩, fun q => absurd rfl q⟩ (frR_u (frR_u (frR_u (frR_u (frR_rf T) (by decide) (by decide)) (by decide) (by decide)) (by decide) (by decide)) (by decide) (by decide))
  · have ep := h136 p (by omega)
    have bp := hb p (by omega)
    by_cases c1 : 97 ≤ b p ∧ b p ≤ 122
    · simp (disch := omega) only [cl138, w138_0, w138_1, w138_2, w138_5, w138_8, w138_9, w138_10, w138_13, w138_14, w138_17, w138_20, w138_21, w138_24, w138_25, w138_28, w138_29, w138_32, w138_34, w138_37, w138_38, w138_39, w138_42, w138_43, w138_46, w138_49, w138_50, w138_53, w138_54, w138_57, w138_58, w138_61, w138_64, w138_67, w138_70, w138_71, w138_74, w138_75, w138_78, w138_79, w138_82, w138_85, w138_88, w138_91, w138_92, w138_95, w138_96, w138_99, w138_101, w138_104, w138_105, w138_108, w138_110, w138_113, w138_114, w138_117, w138_118, w138_121, w138_122, w138_123, w138_126, w138_127, w138_130, w138_131, w138_134, w138_137, w138_138, w138_141, w138_142, w138_143, w138_146, w138_147, w138_150, w138_151, w138_277, hm, ↓neg_vM, ↓neg_vB, ↓neg_vS, ↓neg_vF, ↓neg_vO, ↓neg_vA, ↓neg_vN, lit_nI, nI_leI, nI_ltI, nI_eq, jm_in_nI, nI_clamp, nI_add, n_mul, pk_sub, n_le_t, n_le_f, n_lt_t, n_lt_f, n_eq_t, n_eq_f, true_and, and_true, ne_eq, not_false_eq_true, not_true_eq_false, min_n, max_n, dif_n, n_rem, n_div, or_nI, shl_nI, Option.toList_some, Option.toList_none, List.singleton_append, List.nil_append, if_true, if_false, or_true, true_or, or_false, false_or, and_false, false_and, Bool.false_eq_true, h11, h12, ep, lit_lN, nI_l, r_in, lN_le, upd_at]
      refine hZ _ ⟨by simp (disch := omega) only [upd_at, row_at, n_eq_f, n_eq_t, and_true, true_and, and_false, false_and, and_self, if_true, if_false,  h11], fun i hi => by rw [upd_ne (by decide), upd_ne (by decide), upd_ne (by decide), upd_ne (by decide)]; exact h136 i hi, fun _ => ⟨by simp (disch := omega) only [upd_at, row_at, n_eq_f, n_eq_t, and_true, true_and, and_false, false_and, and_self, if_true, if_false,  h16], by simp (disch := omega) only [upd_at, row_at, n_eq_f, n_eq_t, and_true, true_and, and_false, false_and, and_self, if_true, if_false,  h16], 2, by decide, by simp (disch := omega) only [upd_at, row_at, n_eq_f, n_eq_t, and_true, true_and, and_false, false_and, and_self, if_true, if_false,  h16], Or.inr (Or.inl ⟨rfl, by omega, c1.1, c1.2, by simp (disch := omega) only [upd_at, row_at, n_eq_f, n_eq_t, and_true, true_and, and_false, false_and, and_self, if_true, if_false,  h16], by simp (disch := omega) only [upd_at, row_at, n_eq_f, n_eq_t, and_true, true_and, and_false, false_and, and_self, if_true, if_false,  h16]⟩)⟩, fun q => absurd rfl q⟩ (frR_u (frR_u (frR_u (frR_u (frR_rf T) (by decide) (by decide)) (by decide) (by decide)) (by decide) (by decide)) (by decide) (by decide))
    · by_cases c2 : 48 ≤ b p ∧ b p ≤ 57
      · have d0 : dgt b n p = true := by unfold dgt; rw [byt_in (by omega)]; simp [c2]
        simp (disch := omega) only [cl138, w138_0, w138_1, w138_2, w138_5, w138_8, w138_9, w138_10, w138_13, w138_14, w138_17, w138_20, w138_21, w138_24, w138_25, w138_28, w138_29, w138_32, w138_34, w138_37, w138_38, w138_39, w138_42, w138_43, w138_46, w138_49, w138_50, w138_53, w138_54, w138_57, w138_58, w138_61, w138_64, w138_67, w138_70, w138_71, w138_74, w138_75, w138_78, w138_79, w138_82, w138_85, w138_88, w138_91, w138_92, w138_95, w138_96, w138_99, w138_101, w138_104, w138_105, w138_108, w138_110, w138_113, w138_114, w138_117, w138_118, w138_121, w138_122, w138_123, w138_126, w138_127, w138_130, w138_131, w138_134, w138_137, w138_138, w138_141, w138_142, w138_143, w138_146, w138_147, w138_150, w138_151, w138_154, w138_155, w138_156, w138_159, w138_161, w138_162, hm, ↓neg_vM, ↓neg_vB, ↓neg_vS, ↓neg_vF, ↓neg_vO, ↓neg_vA, ↓neg_vN, lit_nI, nI_leI, nI_ltI, nI_eq, jm_in_nI, nI_clamp, nI_add, n_mul, pk_sub, n_le_t, n_le_f, n_lt_t, n_lt_f, n_eq_t, n_eq_f, true_and, and_true, ne_eq, not_false_eq_true, not_true_eq_false, min_n, max_n, dif_n, n_rem, n_div, or_nI, shl_nI, Option.toList_some, Option.toList_none, List.singleton_append, List.nil_append, if_true, if_false, or_true, true_or, or_false, false_or, and_false, false_and, Bool.false_eq_true, h11, h12, ep, lit_lN, nI_l, r_in, lN_le, upd_at]
        refine nt_loop hn hb hZ (n - (p + 1)) (p + 1) (b p - 48) _ (by omega) (by omega) (fun i h1 h2 => by rw [show i = p by omega]; exact d0) (by simp (disch := omega) only [upd_at, row_at, n_eq_f, n_eq_t, and_true, true_and, and_false, false_and, and_self, if_true, if_false,  h11]) (fun i hi => by rw [upd_ne (by decide), upd_ne (by decide), upd_ne (by decide), upd_ne (by decide), upd_ne (by decide)]; exact h136 i hi) (by simp (disch := omega) only [upd_at, row_at, n_eq_f, n_eq_t, and_true, true_and, and_false, false_and, and_self, if_true, if_false,  h16]) (by simp (disch := omega) only [upd_at, row_at, n_eq_f, n_eq_t, and_true, true_and, and_false, false_and, and_self, if_true, if_false,  h16]) (by simp (disch := omega) only [upd_at, row_at, n_eq_f, n_eq_t, and_true, true_and, and_false, false_and, and_self, if_true, if_false,  h16]) (by simp (disch := omega) only [upd_at, row_at, n_eq_f, n_eq_t, and_true, true_and, and_false, false_and, and_self, if_true, if_false,  h16]) (by simp (disch := omega) only [upd_at, row_at, n_eq_f, n_eq_t, and_true, true_and, and_false, false_and, and_self, if_true, if_false,  h16]) (by rw [if_neg (by omega)]) (frR_u (frR_u (frR_u (frR_u (frR_u (frR_rf T) (by decide) (by decide)) (by decide) (by decide)) (by decide) (by decide)) (by decide) (by decide)) (by decide) (by decide))
      · have d0 : dgt b n p = false := by unfold dgt; rw [byt_in (by omega)]; simp; omega
        have en : nln b n p = 0 := by unfold nln; rw [if_neg (by rw [d0]; decide)]
        by_cases c3 : b p = 44
        · simp (disch := omega) only [cl138, w138_0, w138_1, w138_2, w138_5, w138_8, w138_9, w138_10, w138_13, w138_14, w138_17, w138_20, w138_21, w138_24, w138_25, w138_28, w138_29, w138_32, w138_34, w138_37, w138_38, w138_39, w138_42, w138_43, w138_46, w138_49, w138_50, w138_53, w138_54, w138_57, w138_58, w138_61, w138_64, w138_67, w138_70, w138_71, w138_74, w138_75, w138_78, w138_79, w138_82, w138_85, w138_88, w138_91, w138_92, w138_95, w138_96, w138_99, w138_101, w138_104, w138_105, w138_108, w138_110, w138_113, w138_114, w138_117, w138_118, w138_121, w138_122, w138_123, w138_126, w138_127, w138_130, w138_131, w138_134, w138_137, w138_138, w138_141, w138_142, w138_143, w138_146, w138_147, w138_150, w138_151, w138_277, hm, ↓neg_vN, lit_nI, nI_ltI, nI_leI, nI_eq, jm_in_nI, nI_clamp, nI_add, n_lt_t, n_lt_f, n_le_t, n_le_f, n_eq_t, n_eq_f, true_and, and_true, and_false, false_and, Option.toList_some, List.singleton_append, if_true, if_false, h11, h12, ep, lit_lN, nI_l, r_in, lN_le, upd_at]
          refine hZ _ ⟨by simp (disch := omega) only [upd_at, row_at, n_eq_f, n_eq_t, and_true, true_and, and_false, false_and, and_self, if_true, if_false,  h11], fun i hi => by rw [upd_ne (by decide), upd_ne (by decide), upd_ne (by decide), upd_ne (by decide)]; exact h136 i hi, fun _ => ⟨by simp (disch := omega) only [upd_at, row_at, n_eq_f, n_eq_t, and_true, true_and, and_false, false_and, and_self, if_true, if_false,  h16], by simp (disch := omega) only [upd_at, row_at, n_eq_f, n_eq_t, and_true, true_and, and_false, false_and, and_self, if_true, if_false,  h16], 4, by decide, by simp (disch := omega) only [upd_at, row_at, n_eq_f, n_eq_t, and_true, true_and, and_false, false_and, and_self, if_true, if_false,  h16], Or.inr (Or.inr (Or.inr (Or.inl ⟨rfl, by omega, by omega, by simp (disch := omega) only [upd_at, row_at, n_eq_f, n_eq_t, and_true, true_and, and_false, false_and, and_self, if_true, if_false,  h16], by simp (disch := omega) only [upd_at, row_at, n_eq_f, n_eq_t, and_true, true_and, and_false, false_and, and_self, if_true, if_false,  h16]⟩)))⟩, fun q => absurd rfl q⟩ (frR_u (frR_u (frR_u (frR_u (frR_rf T) (by decide) (by decide)) (by decide) (by decide)) (by decide) (by decide)) (by decide) (by decide))
        · by_cases c4 : b p = 59
          · simp (disch := omega) only [cl138, w138_0, w138_1, w138_2, w138_5, w138_8, w138_9, w138_10, w138_13, w138_14, w138_17, w138_20, w138_21, w138_24, w138_25, w138_28, w138_29, w138_32, w138_34, w138_37, w138_38, w138_39, w138_42, w138_43, w138_46, w138_49, w138_50, w138_53, w138_54, w138_57, w138_58, w138_61, w138_64, w138_67, w138_70, w138_71, w138_74, w138_75, w138_78, w138_79, w138_82, w138_85, w138_88, w138_91, w138_92, w138_95, w138_96, w138_99, w138_101, w138_104, w138_105, w138_108, w138_110, w138_113, w138_114, w138_117, w138_118, w138_121, w138_122, w138_123, w138_126, w138_127, w138_130, w138_131, w138_134, w138_137, w138_138, w138_141, w138_142, w138_143, w138_146, w138_147, w138_150, w138_151, w138_277, hm, ↓neg_vN, lit_nI, nI_ltI, nI_leI, nI_eq, jm_in_nI, nI_clamp, nI_add, n_lt_t, n_lt_f, n_le_t, n_le_f, n_eq_t, n_eq_f, true_and, and_true, and_false, false_and, Option.toList_some, List.singleton_append, if_true, if_false, h11, h12, ep, lit_lN, nI_l, r_in, lN_le, upd_at]
            refine hZ _ ⟨by simp (disch := omega) only [upd_at, row_at, n_eq_f, n_eq_t, and_true, true_and, and_false, false_and, and_self, if_true, if_false,  h11], fun i hi => by rw [upd_ne (by decide), upd_ne (by decide), upd_ne (by decide), upd_ne (by decide)]; exact h136 i hi, fun _ => ⟨by simp (disch := omega) only [upd_at, row_at, n_eq_f, n_eq_t, and_true, true_and, and_false, false_and, and_self, if_true, if_false,  h16], by simp (disch := omega) only [upd_at, row_at, n_eq_f, n_eq_t, and_true, true_and, and_false, false_and, and_self, if_true, if_false,  h16], 4, by decide, by simp (disch := omega) only [upd_at, row_at, n_eq_f, n_eq_t, and_true, true_and, and_false, false_and, and_self, if_true, if_false,  h16], Or.inr (Or.inr (Or.inr (Or.inl ⟨rfl, by omega, by omega, by simp (disch := omega) only [upd_at, row_at, n_eq_f, n_eq_t, and_true, true_and, and_false, false_and, and_self, if_true, if_false,  h16], by simp (disch := omega) only [upd_at, row_at, n_eq_f, n_eq_t, and_true, true_and, and_false, false_and, and_self, if_true, if_false,  h16]⟩)))⟩, fun q => absurd rfl q⟩ (frR_u (frR_u (frR_u (frR_u (frR_rf T) (by decide) (by decide)) (by decide) (by decide)) (by decide) (by decide)) (by decide) (by decide))
          · simp (disch := omega) only [cl138, w138_0, w138_1, w138_2, w138_5, w138_8, w138_9, w138_10, w138_13, w138_14, w138_17, w138_20, w138_21, w138_24, w138_25, w138_28, w138_29, w138_32, w138_34, w138_37, w138_38, w138_39, w138_42, w138_43, w138_46, w138_49, w138_50, w138_53, w138_54, w138_57, w138_58, w138_61, w138_64, w138_67, w138_70, w138_71, w138_74, w138_75, w138_78, w138_79, w138_82, w138_85, w138_88, w138_91, w138_92, w138_95, w138_96, w138_99, w138_101, w138_104, w138_105, w138_108, w138_110, w138_113, w138_114, w138_117, w138_118, w138_121, w138_122, w138_123, w138_126, w138_127, w138_130, w138_131, w138_134, w138_137, w138_138, w138_141, w138_142, w138_143, w138_146, w138_147, w138_150, w138_151, w138_277, hm, ↓neg_vN, lit_nI, nI_ltI, nI_leI, nI_eq, jm_in_nI, nI_clamp, nI_add, n_lt_t, n_lt_f, n_eq_t, n_eq_f, true_and, and_true, and_false, false_and, Option.toList_some, List.singleton_append, if_true, if_false, h11, h12, ep, lit_lN, nI_l, r_in, lN_le, c1, c2, upd_at]
            refine hZ _ ⟨by simp (disch := omega) only [upd_at, row_at, n_eq_f, n_eq_t, and_true, true_and, and_false, false_and, and_self, if_true, if_false,  h11], fun i hi => by rw [upd_ne (by decide), upd_ne (by decide), upd_ne (by decide), upd_ne (by decide)]; exact h136 i hi, fun _ => ⟨by simp (disch := omega) only [upd_at, row_at, n_eq_f, n_eq_t, and_true, true_and, and_false, false_and, and_self, if_true, if_false,  h16], by simp (disch := omega) only [upd_at, row_at, n_eq_f, n_eq_t, and_true, true_and, and_false, false_and, and_self, if_true, if_false,  h16], 0, by decide, by simp (disch := omega) only [upd_at, row_at, n_eq_f, n_eq_t, and_true, true_and, and_false, false_and, and_self, if_true, if_false,  h16], Or.inr (Or.inr (Or.inr (Or.inr ⟨rfl, by omega, c1, by omega, Or.inl en⟩)))⟩, fun q => absurd rfl q⟩ (frR_u (frR_u (frR_u (frR_u (frR_rf T) (by decide) (by decide)) (by decide) (by decide)) (by decide) (by decide)) (by decide) (by decide))
theorem r_bad0 {c : Nat} (h : RP b n p 0 T) : CL L d 137 [.ref 128, .int (nI c)] T Z ↔ Z none (jm_upd (jm_upd T 128 16 (nI c)) 128 17 (nI p)) := by
  have hm := mod_sh L
  have h16 := (h.2.2.1 rfl).1
  have h13 := (h.2.2.1 rfl).2.1
  simp (disch := omega) only [cl137, w137_0, w137_1, w137_4, w137_7, w137_8, w137_9, w137_12, w137_13, w137_14, w137_17, w137_20, hm, ↓neg_vM, ↓neg_vB, ↓neg_vS, ↓neg_vF, ↓neg_vO, ↓neg_vA, ↓neg_vN, lit_nI, nI_leI, nI_ltI, nI_eq, jm_in_nI, nI_clamp, nI_add, n_mul, pk_sub, n_le_t, n_le_f, n_lt_t, n_lt_f, n_eq_t, n_eq_f, true_and, and_true, ne_eq, not_false_eq_true, not_true_eq_false, min_n, max_n, dif_n, n_rem, n_div, or_nI, shl_nI, Option.toList_some, Option.toList_none, List.singleton_append, List.nil_append, if_true, if_false, or_true, true_or, or_false, false_or, and_false, false_and, Bool.false_eq_true, h16, h13, upd_at]
theorem r_badF {c : Nat} (h : RP b n p f T) (hf : f ≤ 3) (h0 : f ≠ 0) : CL L d 137 [.ref 128, .int (nI c)] T Z ↔ Z none T := by
  have hm := mod_sh L
  have h16 := RP_ft h
  simp (disch := omega) only [cl137, w137_0, w137_1, w137_4, w137_7, w137_8, w137_9, w137_12, w137_13, w137_14, w137_17, w137_20, hm, ↓neg_vM, ↓neg_vB, ↓neg_vS, ↓neg_vF, ↓neg_vO, ↓neg_vA, ↓neg_vN, lit_nI, nI_leI, nI_ltI, nI_eq, jm_in_nI, nI_clamp, nI_add, n_mul, pk_sub, n_le_t, n_le_f, n_lt_t, n_lt_f, n_eq_t, n_eq_f, true_and, and_true, ne_eq, not_false_eq_true, not_true_eq_false, min_n, max_n, dif_n, n_rem, n_div, or_nI, shl_nI, Option.toList_some, Option.toList_none, List.singleton_append, List.nil_append, if_true, if_false, or_true, true_or, or_false, false_or, and_false, false_and, Bool.false_eq_true, h16, h0]
theorem r_mustF {c : Nat} (h : RP b n p f T) (hf : f ≤ 3) (h0 : f ≠ 0) (hc : c ≤ 1) : CL L (d + 1) 139 [.ref 128, .int (nI c)] T Z ↔ Z none T := by
  have hm := mod_sh L
  have h16 := RP_ft h
  by_cases c1 : c = 0
  · simp (disch := omega) only [cl139, w139_0, w139_1, w139_4, w139_5, w139_6, w139_9, w139_10, w139_13, w139_16, w139_17, w139_20, hm, ↓neg_vM, ↓neg_vB, ↓neg_vS, ↓neg_vF, ↓neg_vO, ↓neg_vA, ↓neg_vN, lit_nI, nI_leI, nI_ltI, nI_eq, jm_in_nI, nI_clamp, nI_add, n_mul, pk_sub, n_le_t, n_le_f, n_lt_t, n_lt_f, n_eq_t, n_eq_f, true_and, and_true, ne_eq, not_false_eq_true, not_true_eq_false, min_n, max_n, dif_n, n_rem, n_div, or_nI, shl_nI, Option.toList_some, Option.toList_none, List.singleton_append, List.nil_append, if_true, if_false, or_true, true_or, or_false, false_or, and_false, false_and, Bool.false_eq_true, h16, h0, c1, r_badF h hf h0]
  · simp (disch := omega) only [cl139, w139_0, w139_1, w139_4, w139_5, w139_6, w139_9, w139_10, w139_13, w139_16, w139_17, w139_20, hm, ↓neg_vM, ↓neg_vB, ↓neg_vS, ↓neg_vF, ↓neg_vO, ↓neg_vA, ↓neg_vN, lit_nI, nI_leI, nI_ltI, nI_eq, jm_in_nI, nI_clamp, nI_add, n_mul, pk_sub, n_le_t, n_le_f, n_lt_t, n_lt_f, n_eq_t, n_eq_f, true_and, and_true, ne_eq, not_false_eq_true, not_true_eq_false, min_n, max_n, dif_n, n_rem, n_div, or_nI, shl_nI, Option.toList_some, Option.toList_none, List.singleton_append, List.nil_append, if_true, if_false, or_true, true_or, or_false, false_or, and_false, false_and, Bool.false_eq_true, h16, h0, c1]
theorem r_must0 (h : RP b n p 0 T) : CL L (d + 2) 139 [.ref 128, .int (nI 0)] T Z ↔ Z none (jm_upd (jm_upd T 128 16 (nI 1)) 128 17 (nI p)) := by
  have hm := mod_sh L
  simp (disch := omega) only [cl139, w139_0, w139_1, w139_4, w139_5, w139_6, w139_9, w139_10, w139_13, w139_16, w139_17, w139_20, hm, ↓neg_vM, ↓neg_vB, ↓neg_vS, ↓neg_vF, ↓neg_vO, ↓neg_vA, ↓neg_vN, lit_nI, nI_leI, nI_ltI, nI_eq, jm_in_nI, nI_clamp, nI_add, n_mul, pk_sub, n_le_t, n_le_f, n_lt_t, n_lt_f, n_eq_t, n_eq_f, true_and, and_true, ne_eq, not_false_eq_true, not_true_eq_false, min_n, max_n, dif_n, n_rem, n_div, or_nI, shl_nI, Option.toList_some, Option.toList_none, List.singleton_append, List.nil_append, if_true, if_false, or_true, true_or, or_false, false_or, and_false, false_and, Bool.false_eq_true, r_bad0 h, upd_at]
theorem r_must1 {q : Nat} (h : RP b n p 0 T) (hq : T 128 12 = nI q) (hqn : q ≤ n) (hn : n ≤ 120) (hb : ∀ i, i < n → b i ≤ 255) (hZ : ∀ U, RP b n q 0 U → frR T U → Z none U) : CL L (d + 2) 139 [.ref 128, .int (nI 1)] T Z := by
  have hm := mod_sh L
  have h16 := (h.2.2.1 rfl).1
  simp (disch := omega) only [cl139, w139_0, w139_1, w139_4, w139_5, w139_6, w139_9, w139_10, w139_13, w139_16, w139_17, w139_20, hm, ↓neg_vM, ↓neg_vB, ↓neg_vS, ↓neg_vF, ↓neg_vO, ↓neg_vA, ↓neg_vN, lit_nI, nI_leI, nI_ltI, nI_eq, jm_in_nI, nI_clamp, nI_add, n_mul, pk_sub, n_le_t, n_le_f, n_lt_t, n_lt_f, n_eq_t, n_eq_f, true_and, and_true, ne_eq, not_false_eq_true, not_true_eq_false, min_n, max_n, dif_n, n_rem, n_div, or_nI, shl_nI, Option.toList_some, Option.toList_none, List.singleton_append, List.nil_append, if_true, if_false, or_true, true_or, or_false, false_or, and_false, false_and, Bool.false_eq_true, h16]
  refine r_nextToken h.1 h.2.1 hq h16 hn hqn hb (fun U u1 u2 => ?_)
  simp (disch := omega) only [cl139, w139_0, w139_1, w139_4, w139_5, w139_6, w139_9, w139_10, w139_13, w139_16, w139_17, w139_20, hm, ↓neg_vM, ↓neg_vB, ↓neg_vS, ↓neg_vF, ↓neg_vO, ↓neg_vA, ↓neg_vN, lit_nI, nI_leI, nI_ltI, nI_eq, jm_in_nI, nI_clamp, nI_add, n_mul, pk_sub, n_le_t, n_le_f, n_lt_t, n_lt_f, n_eq_t, n_eq_f, true_and, and_true, ne_eq, not_false_eq_true, not_true_eq_false, min_n, max_n, dif_n, n_rem, n_div, or_nI, shl_nI, Option.toList_some, Option.toList_none, List.singleton_append, List.nil_append, if_true, if_false, or_true, true_or, or_false, false_or, and_false, false_and, Bool.false_eq_true]
  exact hZ U u1 u2
theorem frR_bad {c q : Nat} : frR T (jm_upd (jm_upd T 128 16 (nI c)) 128 17 (nI q)) := frR_u (frR_u (frR_rf T) (by decide) (by decide)) (by decide) (by decide)
/-- is it this letter? -/
theorem r_isLetter {c : Nat} (h : RP b n p f T) (hf : f ≤ 3) (hb : ∀ i, i < n → b i ≤ 255) (hc : 97 ≤ c) (hc2 : c ≤ 122) : CL L d 140 [.ref 128, .int (nI c)] T Z ↔ (if f = 0 ∧ byt b n p = c then Z (some (.int (nI 1))) T else Z (some (.int (nI 0))) T) := by
  have hm := mod_sh L
  have h16 := RP_ft h
  by_cases h0 : f = 0
  · obtain ⟨-, t13, tk, htk, t14, tks⟩ := h.2.2.1 h0
    subst h0
    rcases tks with ⟨rfl, e⟩ | ⟨rfl, e1, e2, e3, e4, e5⟩ | ⟨rfl, e1, e2, e3, -, -, -⟩ | ⟨rfl, e1, e2, -, -⟩ | ⟨rfl, e1, e2, -, -⟩
    · have q : ¬ byt b n p = c := by rw [byt_out e]; omega
      simp (disch := omega) only [cl140, w140_0, w140_1, w140_4, w140_7, w140_8, w140_11, w140_12, w140_15, w140_16, w140_19, w140_20, w140_23, w140_24, w140_27, w140_28, hm, ↓neg_vM, ↓neg_vB, ↓neg_vS, ↓neg_vF, ↓neg_vO, ↓neg_vA, ↓neg_vN, lit_nI, nI_leI, nI_ltI, nI_eq, jm_in_nI, nI_clamp, nI_add, n_mul, pk_sub, n_le_t, n_le_f, n_lt_t, n_lt_f, n_eq_t, n_eq_f, true_and, and_true, ne_eq, not_false_eq_true, not_true_eq_false, min_n, max_n, dif_n, n_rem, n_div, or_nI, shl_nI, Option.toList_some, Option.toList_none, List.singleton_append, List.nil_append, if_true, if_false, or_true, true_or, or_false, false_or, and_false, false_and, Bool.false_eq_true, h16, t14, q]
    · have q : byt b n p = b p := byt_in e1
      by_cases q2 : b p = c
      · simp (disch := omega) only [cl140, w140_0, w140_1, w140_4, w140_7, w140_8, w140_11, w140_12, w140_15, w140_16, w140_19, w140_20, w140_23, w140_24, w140_27, w140_28, hm, ↓neg_vM, ↓neg_vB, ↓neg_vS, ↓neg_vF, ↓neg_vO, ↓neg_vA, ↓neg_vN, lit_nI, nI_leI, nI_ltI, nI_eq, jm_in_nI, nI_clamp, nI_add, n_mul, pk_sub, n_le_t, n_le_f, n_lt_t, n_lt_f, n_eq_t, n_eq_f, true_and, and_true, ne_eq, not_false_eq_true, not_true_eq_false, min_n, max_n, dif_n, n_rem, n_div, or_nI, shl_nI, Option.toList_some, Option.toList_none, List.singleton_append, List.nil_append, if_true, if_false, or_true, true_or, or_false, false_or, and_false, false_and, Bool.false_eq_true, h16, t14, e4, q, q2]
      · simp (disch := omega) only [cl140, w140_0, w140_1, w140_4, w140_7, w140_8, w140_11, w140_12, w140_15, w140_16, w140_19, w140_20, w140_23, w140_24, w140_27, w140_28, hm, ↓neg_vM, ↓neg_vB, ↓neg_vS, ↓neg_vF, ↓neg_vO, ↓neg_vA, ↓neg_vN, lit_nI, nI_leI, nI_ltI, nI_eq, jm_in_nI, nI_clamp, nI_add, n_mul, pk_sub, n_le_t, n_le_f, n_lt_t, n_lt_f, n_eq_t, n_eq_f, true_and, and_true, ne_eq, not_false_eq_true, not_true_eq_false, min_n, max_n, dif_n, n_rem, n_div, or_nI, shl_nI, Option.toList_some, Option.toList_none, List.singleton_append, List.nil_append, if_true, if_false, or_true, true_or, or_false, false_or, and_false, false_and, Bool.false_eq_true, h16, t14, e4, q, q2]
    · have q : ¬ byt b n p = c := by rw [byt_in e1]; omega
      simp (disch := omega) only [cl140, w140_0, w140_1, w140_4, w140_7, w140_8, w140_11, w140_12, w140_15, w140_16, w140_19, w140_20, w140_23, w140_24, w140_27, w140_28, hm, ↓neg_vM, ↓neg_vB, ↓neg_vS, ↓neg_vF, ↓neg_vO, ↓neg_vA, ↓neg_vN, lit_nI, nI_leI, nI_ltI, nI_eq, jm_in_nI, nI_clamp, nI_add, n_mul, pk_sub, n_le_t, n_le_f, n_lt_t, n_lt_f, n_eq_t, n_eq_f, true_and, and_true, ne_eq, not_false_eq_true, not_true_eq_false, min_n, max_n, dif_n, n_rem, n_div, or_nI, shl_nI, Option.toList_some, Option.toList_none, List.singleton_append, List.nil_append, if_true, if_false, or_true, true_or, or_false, false_or, and_false, false_and, Bool.false_eq_true, h16, t14, q]
    · have q : ¬ byt b n p = c := by rw [byt_in e1]; omega
      simp (disch := omega) only [cl140, w140_0, w140_1, w140_4, w140_7, w140_8, w140_11, w140_12, w140_15, w140_16, w140_19, w140_20, w140_23, w140_24, w140_27, w140_28, hm, ↓neg_vM, ↓neg_vB, ↓neg_vS, ↓neg_vF, ↓neg_vO, ↓neg_vA, ↓neg_vN, lit_nI, nI_leI, nI_ltI, nI_eq, jm_in_nI, nI_clamp, nI_add, n_mul, pk_sub, n_le_t, n_le_f, n_lt_t, n_lt_f, n_eq_t, n_eq_f, true_and, and_true, ne_eq, not_false_eq_true, not_true_eq_false, min_n, max_n, dif_n, n_rem, n_div, or_nI, shl_nI, Option.toList_some, Option.toList_none, List.singleton_append, List.nil_append, if_true, if_false, or_true, true_or, or_false, false_or, and_false, false_and, Bool.false_eq_true, h16, t14, q]
    · have q : ¬ byt b n p = c := by rw [byt_in e1]; omega
      simp (disch := omega) only [cl140, w140_0, w140_1, w140_4, w140_7, w140_8, w140_11, w140_12, w140_15, w140_16, w140_19, w140_20, w140_23, w140_24, w140_27, w140_28, hm, ↓neg_vM, ↓neg_vB, ↓neg_vS, ↓neg_vF, ↓neg_vO, ↓neg_vA, ↓neg_vN, lit_nI, nI_leI, nI_ltI, nI_eq, jm_in_nI, nI_clamp, nI_add, n_mul, pk_sub, n_le_t, n_le_f, n_lt_t, n_lt_f, n_eq_t, n_eq_f, true_and, and_true, ne_eq, not_false_eq_true, not_true_eq_false, min_n, max_n, dif_n, n_rem, n_div, or_nI, shl_nI, Option.toList_some, Option.toList_none, List.singleton_append, List.nil_append, if_true, if_false, or_true, true_or, or_false, false_or, and_false, false_and, Bool.false_eq_true, h16, t14, q]
  · simp (disch := omega) only [cl140, w140_0, w140_1, w140_4, w140_7, w140_8, w140_11, w140_12, w140_15, w140_16, w140_19, w140_20, w140_23, w140_24, w140_27, w140_28, hm, ↓neg_vM, ↓neg_vB, ↓neg_vS, ↓neg_vF, ↓neg_vO, ↓neg_vA, ↓neg_vN, lit_nI, nI_leI, nI_ltI, nI_eq, jm_in_nI, nI_clamp, nI_add, n_mul, pk_sub, n_le_t, n_le_f, n_lt_t, n_lt_f, n_eq_t, n_eq_f, true_and, and_true, ne_eq, not_false_eq_true, not_true_eq_false, min_n, max_n, dif_n, n_rem, n_div, or_nI, shl_nI, Option.toList_some, Option.toList_none, List.singleton_append, List.nil_append, if_true, if_false, or_true, true_or, or_false, false_or, and_false, false_and, Bool.false_eq_true, h16, h0]
theorem RP_cur {c : Nat} (h : RP b n p 0 T) (hb : ∀ i, i < n → b i ≤ 255) (hc : (97 ≤ c ∧ c ≤ 122) ∨ c = 44 ∨ c = 59) (e : byt b n p = c) : T 128 12 = nI (p + 1) ∧ p + 1 ≤ n := by
  obtain ⟨-, t13, tk, htk, t14, tks⟩ := h.2.2.1 rfl
  obtain ⟨e1, e2⟩ := byt_lt (show byt b n p < 256 by omega)
  rcases tks with ⟨rfl, e⟩ | ⟨rfl, e1, -, -, -, e5⟩ | ⟨rfl, e1, e3, e4, -, -, -⟩ | ⟨rfl, e1, -, -, e5⟩ | ⟨rfl, e1, e3, e4, -⟩
  · omega
  · exact ⟨e5, e1⟩
  · omega
  · exact ⟨e5, e1⟩
  · omega
/-- must(isLetter(c)), behind isLetter -/
theorem r_mustL {c : Nat} (h : RP b n p f T) (hf : f ≤ 3) (hn : n ≤ 120) (hb : ∀ i, i < n → b i ≤ 255) (hc : (97 ≤ c ∧ c ≤ 122) ∨ c = 44 ∨ c = 59) (hZ : ∀ U, RP b n (pB b n c p f).1 (pB b n c p f).2 U → frR T U → Z none U) : (if f = 0 ∧ byt b n p = c then CL L (d + 2) 139 [.ref 128, .int (nI 1)] T Z else CL L (d + 2) 139 [.ref 128, .int (nI 0)] T Z) := by
  unfold pB at hZ
  by_cases h0 : f = 0
  · subst h0
    by_cases e : byt b n p = c
    · rw [if_neg (by decide), if_pos e] at hZ
      rw [if_pos ⟨rfl, e⟩]
      obtain ⟨e1, e2⟩ := RP_cur h hb hc e
      exact r_must1 h e1 e2 hn hb hZ
    · rw [if_neg (by decide), if_neg e] at hZ
      rw [if_neg (fun q => e q.2), r_must0 h]
      exact hZ _ (RP_bad h (by decide)) frR_bad
  · rw [if_pos h0] at hZ
    rw [if_neg (fun q => h0 q.1), r_mustF h hf h0 (by decide)]
    exact hZ T h (frR_rf T)
set_option maxHeartbeats 8000000 in
theorem r_mustSign {c : Nat} (h : RP b n p f T) (hf : f ≤ 3) (hn : n ≤ 120) (hb : ∀ i, i < n → b i ≤ 255) (hc : c = 44 ∨ c = 59) (hZ : ∀ U, RP b n (pB b n c p f).1 (pB b n c p f).2 U → frR T U → Z none U) : CL L (d + 3) 142 [.ref 128, .int (nI c)] T Z := by
  have hm := mod_sh L
  have A := r_mustL (L := L) (d := d) (Z := fun r S1 => WQ L (d + 3) 142 25 [.ref 128, .int (nI c)] (r.toList ++ []) S1 Z) h hf hn hb (show (97 ≤ c ∧ c ≤ 122) ∨ c = 44 ∨ c = 59 by omega) (fun U u1 u2 => by
    simp (disch := omega) only [w142_25, hm, ↓neg_vM, ↓neg_vB, ↓neg_vS, ↓neg_vF, ↓neg_vO, ↓neg_vA, ↓neg_vN, lit_nI, nI_leI, nI_ltI, nI_eq, jm_in_nI, nI_clamp, nI_add, n_mul, pk_sub, n_le_t, n_le_f, n_lt_t, n_lt_f, n_eq_t, n_eq_f, true_and, and_true, ne_eq, not_false_eq_true, not_true_eq_false, min_n, max_n, dif_n, n_rem, n_div, or_nI, shl_nI, Option.toList_some, Option.toList_none, List.singleton_append, List.nil_append, if_true, if_false, or_true, true_or, or_false, false_or, and_false, false_and, Bool.false_eq_true]
    exact hZ U u1 u2)
  by_cases h0 : f = 0
  · subst h0
    obtain ⟨-, t13, tk, htk, t14, tks⟩ := h.2.2.1 rfl
    rcases tks with ⟨rfl, e⟩ | ⟨rfl, e1, e2, e3, e4, e5⟩ | ⟨rfl, e1, e2, e3, -, -, -⟩ | ⟨rfl, e1, e2, e4, -⟩ | ⟨rfl, e1, e2, e3, -⟩
    · have q : ¬ byt b n p = c := by rw [byt_out e]; omega
      rw [if_neg (fun x => q x.2)] at A
      simp (disch := omega) only [cl142, w142_0, w142_1, w142_2, w142_5, w142_6, w142_9, w142_10, w142_13, w142_14, w142_17, w142_18, w142_21, w142_22, hm, ↓neg_vM, ↓neg_vB, ↓neg_vS, ↓neg_vF, ↓neg_vO, ↓neg_vA, ↓neg_vN, lit_nI, nI_leI, nI_ltI, nI_eq, jm_in_nI, nI_clamp, nI_add, n_mul, pk_sub, n_le_t, n_le_f, n_lt_t, n_lt_f, n_eq_t, n_eq_f, true_and, and_true, ne_eq, not_false_eq_true, not_true_eq_false, min_n, max_n, dif_n, n_rem, n_div, or_nI, shl_nI, Option.toList_some, Option.toList_none, List.singleton_append, List.nil_append, if_true, if_false, or_true, true_or, or_false, false_or, and_false, false_and, Bool.false_eq_true, t14]
      exact A
    · have q : ¬ byt b n p = c := by rw [byt_in e1]; omega
      rw [if_neg (fun x => q x.2)] at A
      simp (disch := omega) only [cl142, w142_0, w142_1, w142_2, w142_5, w142_6, w142_9, w142_10, w142_13, w142_14, w142_17, w142_18, w142_21, w142_22, hm, ↓neg_vM, ↓neg_vB, ↓neg_vS, ↓neg_vF, ↓neg_vO, ↓neg_vA, ↓neg_vN, lit_nI, nI_leI, nI_ltI, nI_eq, jm_in_nI, nI_clamp, nI_add, n_mul, pk_sub, n_le_t, n_le_f, n_lt_t, n_lt_f, n_eq_t, n_eq_f, true_and, and_true, ne_eq, not_false_eq_true, not_true_eq_false, min_n, max_n, dif_n, n_rem, n_div, or_nI, shl_nI, Option.toList_some, Option.toList_none, List.singleton_append, List.nil_append, if_true, if_false, or_true, true_or, or_false, false_or, and_false, false_and, Bool.false_eq_true, t14]
      exact A
    · have q : ¬ byt b n p = c := by rw [byt_in e1]; omega
      rw [if_neg (fun x => q x.2)] at A
      simp (disch := omega) only [cl142, w142_0, w142_1, w142_2, w142_5, w142_6, w142_9, w142_10, w142_13, w142_14, w142_17, w142_18, w142_21, w142_22, hm, ↓neg_vM, ↓neg_vB, ↓neg_vS, ↓neg_vF, ↓neg_vO, ↓neg_vA, ↓neg_vN, lit_nI, nI_leI, nI_ltI, nI_eq, jm_in_nI, nI_clamp, nI_add, n_mul, pk_sub, n_le_t, n_le_f, n_lt_t, n_lt_f, n_eq_t, n_eq_f, true_and, and_true, ne_eq, not_false_eq_true, not_true_eq_false, min_n, max_n, dif_n, n_rem, n_div, or_nI, shl_nI, Option.toList_some, Option.toList_none, List.singleton_append, List.nil_append, if_true, if_false, or_true, true_or, or_false, false_or, and_false, false_and, Bool.false_eq_true, t14]
      exact A
    · by_cases q2 : b p = c
      · rw [if_pos ⟨rfl, by rw [byt_in e1]; exact q2⟩] at A
        simp (disch := omega) only [cl142, w142_0, w142_1, w142_2, w142_5, w142_6, w142_9, w142_10, w142_13, w142_14, w142_17, w142_18, w142_21, w142_22, hm, ↓neg_vM, ↓neg_vB, ↓neg_vS, ↓neg_vF, ↓neg_vO, ↓neg_vA, ↓neg_vN, lit_nI, nI_leI, nI_ltI, nI_eq, jm_in_nI, nI_clamp, nI_add, n_mul, pk_sub, n_le_t, n_le_f, n_lt_t, n_lt_f, n_eq_t, n_eq_f, true_and, and_true, ne_eq, not_false_eq_true, not_true_eq_false, min_n, max_n, dif_n, n_rem, n_div, or_nI, shl_nI, Option.toList_some, Option.toList_none, List.singleton_append, List.nil_append, if_true, if_false, or_true, true_or, or_false, false_or, and_false, false_and, Bool.false_eq_true, t14, e4, q2]
        exact A
      · rw [if_neg (fun x => q2 (by have := x.2; rw [byt_in e1] at this; exact this))] at A
        have bp := hb p e1
        simp (disch := omega) only [cl142, w142_0, w142_1, w142_2, w142_5, w142_6, w142_9, w142_10, w142_13, w142_14, w142_17, w142_18, w142_21, w142_22, hm, ↓neg_vM, ↓neg_vB, ↓neg_vS, ↓neg_vF, ↓neg_vO, ↓neg_vA, ↓neg_vN, lit_nI, nI_leI, nI_ltI, nI_eq, jm_in_nI, nI_clamp, nI_add, n_mul, pk_sub, n_le_t, n_le_f, n_lt_t, n_lt_f, n_eq_t, n_eq_f, true_and, and_true, ne_eq, not_false_eq_true, not_true_eq_false, min_n, max_n, dif_n, n_rem, n_div, or_nI, shl_nI, Option.toList_some, Option.toList_none, List.singleton_append, List.nil_append, if_true, if_false, or_true, true_or, or_false, false_or, and_false, false_and, Bool.false_eq_true, t14, e4, q2]
        exact A
    · have q : ¬ byt b n p = c := by rw [byt_in e1]; omega
      rw [if_neg (fun x => q x.2)] at A
      simp (disch := omega) only [cl142, w142_0, w142_1, w142_2, w142_5, w142_6, w142_9, w142_10, w142_13, w142_14, w142_17, w142_18, w142_21, w142_22, hm, ↓neg_vM, ↓neg_vB, ↓neg_vS, ↓neg_vF, ↓neg_vO, ↓neg_vA, ↓neg_vN, lit_nI, nI_leI, nI_ltI, nI_eq, jm_in_nI, nI_clamp, nI_add, n_mul, pk_sub, n_le_t, n_le_f, n_lt_t, n_lt_f, n_eq_t, n_eq_f, true_and, and_true, ne_eq, not_false_eq_true, not_true_eq_false, min_n, max_n, dif_n, n_rem, n_div, or_nI, shl_nI, Option.toList_some, Option.toList_none, List.singleton_append, List.nil_append, if_true, if_false, or_true, true_or, or_false, false_or, and_false, false_and, Bool.false_eq_true, t14]
      exact A
  · rw [if_neg (fun q => h0 q.1)] at A
    have A1 := (r_mustF (L := L) (d := d + 1) (Z := fun r S1 => WQ L (d + 3) 142 25 [.ref 128, .int (nI c)] (r.toList ++ []) S1 Z) h hf h0 (show 0 ≤ 1 by decide)).mp A
    have A2 := (r_mustF (L := L) (d := d + 1) (Z := fun r S1 => WQ L (d + 3) 142 25 [.ref 128, .int (nI c)] (r.toList ++ []) S1 Z) h hf h0 (show 1 ≤ 1 by decide)).mpr A1
    by_cases g1 : T 128 14 = nI 4
    · by_cases g2 : T 128 15 = nI c
      · simp (disch := omega) only [cl142, w142_0, w142_1, w142_2, w142_5, w142_6, w142_9, w142_10, w142_13, w142_14, w142_17, w142_18, w142_21, w142_22, hm, lit_nI, g1, g2, true_and, if_true]
        exact A2
      · simp (disch := omega) only [cl142, w142_0, w142_1, w142_2, w142_5, w142_6, w142_9, w142_10, w142_13, w142_14, w142_17, w142_18, w142_21, w142_22, hm, lit_nI, g1, g2, true_and, if_true, if_false]
        exact A
    · simp (disch := omega) only [cl142, w142_0, w142_1, w142_2, w142_5, w142_6, w142_9, w142_10, w142_13, w142_14, w142_17, w142_18, w142_21, w142_22, hm, lit_nI, g1, true_and, if_false]
      exact A
set_option maxHeartbeats 8000000 in
theorem r_number {lo hi : Nat} (h : RP b n p f T) (hf : f ≤ 3) (hn : n ≤ 120) (hp : p ≤ n) (hb : ∀ i, i < n → b i ≤ 255) (hlo : lo ≤ 99) (hhi : hi ≤ 99) (hZ : ∀ U v, RP b n (pNb b n lo hi p f).1 (pNb b n lo hi p f).2 U → ((pNb b n lo hi p f).2 = 0 → v = nI (nvl b n p)) → frR T U → Z (some (.int v)) U) : CL L (d + 3) 141 [.ref 128, .int (nI lo), .int (nI hi)] T Z := by
  have hm := mod_sh L
  have h16 := RP_ft h
  unfold pNb at hZ
  by_cases h0 : f = 0
  · obtain ⟨-, t13, tk, htk, t14, tks⟩ := h.2.2.1 h0
    subst h0
    rw [if_neg (by decide)] at hZ
    have B : ∀ {U : jm_I2} {c : Nat} {u : Value}, c ≠ 0 → c ≤ 3 → (∀ U v, RP b n p c U → frR T U → Z (some (.int v)) U) → RP b n p c U → frR T U → WQ L (d + 3) 141 47 [.ref 128, .int (nI lo), .int (nI hi), u] [] U Z := fun {U} {c} {u} hc0 hc3 hz hr hfr => by
      have g16 := RP_ft hr
      simp (disch := omega) only [w141_47, w141_48, w141_51, w141_54, w141_55, w141_58, w141_61, w141_62, w141_63, w141_64, w141_65, w141_68, w141_69, hm, ↓neg_vM, ↓neg_vB, ↓neg_vS, ↓neg_vF, ↓neg_vO, ↓neg_vA, ↓neg_vN, lit_nI, nI_leI, nI_ltI, nI_eq, jm_in_nI, nI_clamp, nI_add, n_mul, pk_sub, n_le_t, n_le_f, n_lt_t, n_lt_f, n_eq_t, n_eq_f, true_and, and_true, ne_eq, not_false_eq_true, not_true_eq_false, min_n, max_n, dif_n, n_rem, n_div, or_nI, shl_nI, Option.toList_some, Option.toList_none, List.singleton_append, List.nil_append, if_true, if_false, or_true, true_or, or_false, false_or, and_false, false_and, Bool.false_eq_true, g16, hc0, r_mustF hr hc3 hc0]
      exact hz U _ hr hfr
    have bad1 : (nln b n p = 0 ∨ nln b n p = 3) → tk ≠ 3 → CL L (d + 3) 141 [.ref 128, .int (nI lo), .int (nI hi)] T Z := fun hl hk => by
      rw [if_pos hl] at hZ
      simp (disch := omega) only [cl141, w141_0, w141_1, w141_4, w141_7, w141_8, w141_11, w141_12, w141_15, w141_16, w141_17, w141_20, w141_21, w141_24, hm, ↓neg_vM, ↓neg_vB, ↓neg_vS, ↓neg_vF, ↓neg_vO, ↓neg_vA, ↓neg_vN, lit_nI, nI_leI, nI_ltI, nI_eq, jm_in_nI, nI_clamp, nI_add, n_mul, pk_sub, n_le_t, n_le_f, n_lt_t, n_lt_f, n_eq_t, n_eq_f, true_and, and_true, ne_eq, not_false_eq_true, not_true_eq_false, min_n, max_n, dif_n, n_rem, n_div, or_nI, shl_nI, Option.toList_some, Option.toList_none, List.singleton_append, List.nil_append, if_true, if_false, or_true, true_or, or_false, false_or, and_false, false_and, Bool.false_eq_true, h16, t14, hk, r_bad0 h, upd_at]
      exact B (c := 1) (by decide) (by decide) (fun U v q1 q2 => hZ U v q1 (fun q => absurd q (by decide)) q2) (RP_bad h (by decide)) frR_bad
    rcases tks with ⟨rfl, e⟩ | ⟨rfl, e1, e2, e3, e4, e5⟩ | ⟨rfl, e1, e2, e3, e4, e5, e6⟩ | ⟨rfl, e1, e2, e4, -⟩ | ⟨rfl, e1, e2, e3, e4⟩
    · exact bad1 (Or.inl (by unfold nln dgt; rw [byt_out e]; rfl)) (by decide)
    · exact bad1 (Or.inl (by unfold nln; rw [if_neg (fun q => by have := dgt_T q; omega)])) (by decide)
    · have nv := nvl_le e4
      rw [if_neg (by omega)] at hZ
      by_cases g1 : lo ≤ nvl b n p
      · by_cases g2 : nvl b n p ≤ hi
        · rw [if_pos ⟨g1, g2⟩] at hZ
          simp (disch := omega) only [cl141, w141_0, w141_1, w141_4, w141_7, w141_8, w141_11, w141_12, w141_15, w141_16, w141_17, w141_20, w141_21, w141_24, w141_27, w141_28, w141_31, w141_32, w141_33, w141_34, w141_35, w141_36, w141_39, w141_42, w141_43, w141_44, w141_47, w141_48, w141_51, w141_54, w141_55, w141_58, w141_61, w141_62, w141_63, w141_64, w141_65, hm, ↓neg_vM, ↓neg_vB, ↓neg_vS, ↓neg_vF, ↓neg_vO, ↓neg_vA, ↓neg_vN, lit_nI, nI_leI, nI_ltI, nI_eq, jm_in_nI, nI_clamp, nI_add, n_mul, pk_sub, n_le_t, n_le_f, n_lt_t, n_lt_f, n_eq_t, n_eq_f, true_and, and_true, ne_eq, not_false_eq_true, not_true_eq_false, min_n, max_n, dif_n, n_rem, n_div, or_nI, shl_nI, Option.toList_some, Option.toList_none, List.singleton_append, List.nil_append, if_true, if_false, or_true, true_or, or_false, false_or, and_false, false_and, Bool.false_eq_true, h16, t14, e5, nI_l, r_in, lN_le]
          refine r_must1 h e6 (nln_in hp) hn hb (fun U u1 u2 => ?_)
          simp (disch := omega) only [w141_68, w141_69, hm, ↓neg_vM, ↓neg_vB, ↓neg_vS, ↓neg_vF, ↓neg_vO, ↓neg_vA, ↓neg_vN, lit_nI, nI_leI, nI_ltI, nI_eq, jm_in_nI, nI_clamp, nI_add, n_mul, pk_sub, n_le_t, n_le_f, n_lt_t, n_lt_f, n_eq_t, n_eq_f, true_and, and_true, ne_eq, not_false_eq_true, not_true_eq_false, min_n, max_n, dif_n, n_rem, n_div, or_nI, shl_nI, Option.toList_some, Option.toList_none, List.singleton_append, List.nil_append, if_true, if_false, or_true, true_or, or_false, false_or, and_false, false_and, Bool.false_eq_true]
          exact hZ U _ u1 (fun _ => rfl) u2
        · rw [if_neg (fun q => g2 q.2)] at hZ
          simp (disch := omega) only [cl141, w141_0, w141_1, w141_4, w141_7, w141_8, w141_11, w141_12, w141_15, w141_16, w141_17, w141_20, w141_21, w141_24, w141_27, w141_28, w141_31, w141_32, w141_33, w141_34, w141_35, w141_36, w141_39, w141_42, w141_43, w141_44, hm, ↓neg_vM, ↓neg_vB, ↓neg_vS, ↓neg_vF, ↓neg_vO, ↓neg_vA, ↓neg_vN, lit_nI, nI_leI, nI_ltI, nI_eq, jm_in_nI, nI_clamp, nI_add, n_mul, pk_sub, n_le_t, n_le_f, n_lt_t, n_lt_f, n_eq_t, n_eq_f, true_and, and_true, ne_eq, not_false_eq_true, not_true_eq_false, min_n, max_n, dif_n, n_rem, n_div, or_nI, shl_nI, Option.toList_some, Option.toList_none, List.singleton_append, List.nil_append, if_true, if_false, or_true, true_or, or_false, false_or, and_false, false_and, Bool.false_eq_true, h16, t14, e5, nI_l, r_in, lN_le, r_bad0 h]
          exact B (c := 2) (by decide) (by decide) (fun U v q1 q2 => hZ U v q1 (fun q => absurd q (by decide)) q2) (RP_bad h (by decide)) frR_bad
      · rw [if_neg (fun q => g1 q.1)] at hZ
        simp (disch := omega) only [cl141, w141_0, w141_1, w141_4, w141_7, w141_8, w141_11, w141_12, w141_15, w141_16, w141_17, w141_20, w141_21, w141_24, w141_27, w141_28, w141_31, w141_32, w141_33, w141_34, w141_35, w141_36, w141_39, w141_42, w141_43, w141_44, hm, ↓neg_vM, ↓neg_vB, ↓neg_vS, ↓neg_vF, ↓neg_vO, ↓neg_vA, ↓neg_vN, lit_nI, nI_leI, nI_ltI, nI_eq, jm_in_nI, nI_clamp, nI_add, n_mul, pk_sub, n_le_t, n_le_f, n_lt_t, n_lt_f, n_eq_t, n_eq_f, true_and, and_true, ne_eq, not_false_eq_true, not_true_eq_false, min_n, max_n, dif_n, n_rem, n_div, or_nI, shl_nI, Option.toList_some, Option.toList_none, List.singleton_append, List.nil_append, if_true, if_false, or_true, true_or, or_false, false_or, and_false, false_and, Bool.false_eq_true, h16, t14, e5, nI_l, r_in, lN_le, r_bad0 h]
        exact B (c := 2) (by decide) (by decide) (fun U v q1 q2 => hZ U v q1 (fun q => absurd q (by decide)) q2) (RP_bad h (by decide)) frR_bad
    · exact bad1 (Or.inl (by unfold nln; rw [if_neg (fun q => by have := dgt_T q; omega)])) (by decide)
    · exact bad1 e4 (by decide)
  · rw [if_pos h0] at hZ
    simp (disch := omega) only [cl141, w141_0, w141_1, w141_4, w141_7, w141_8, w141_11, w141_12, w141_15, w141_16, w141_17, w141_20, w141_21, w141_24, w141_27, w141_28, w141_31, w141_32, w141_33, w141_34, w141_35, w141_36, w141_39, w141_42, w141_43, w141_44, w141_47, w141_48, w141_51, w141_54, w141_55, w141_58, w141_61, w141_62, w141_63, w141_64, w141_65, w141_68, w141_69, hm, ↓neg_vM, ↓neg_vB, ↓neg_vS, ↓neg_vF, ↓neg_vO, ↓neg_vA, ↓neg_vN, lit_nI, nI_leI, nI_ltI, nI_eq, jm_in_nI, nI_clamp, nI_add, n_mul, pk_sub, n_le_t, n_le_f, n_lt_t, n_lt_f, n_eq_t, n_eq_f, true_and, and_true, ne_eq, not_false_eq_true, not_true_eq_false, min_n, max_n, dif_n, n_rem, n_div, or_nI, shl_nI, Option.toList_some, Option.toList_none, List.singleton_append, List.nil_append, if_true, if_false, or_true, true_or, or_false, false_or, and_false, false_and, Bool.false_eq_true, h16, h0, r_mustF h hf h0]
    exact hZ T _ h (fun q => absurd q h0) (frR_rf T)
end
