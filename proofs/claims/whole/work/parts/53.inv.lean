/-! ===== what holds between calls ===== -/
def vM : Int32 := -1
def vB : Int32 := -1000001
def vS : Int32 := -1000002
def vF : Int32 := -1000003
def vO : Int32 := -1000010
def vA : Int32 := -1000100
theorem neg_vM : (-1 : Int32) = vM := rfl
theorem neg_vB : (-1000001 : Int32) = vB := rfl
theorem neg_vS : (-1000002 : Int32) = vS := rfl
theorem neg_vF : (-1000003 : Int32) = vF := rfl
theorem neg_vO : (-1000010 : Int32) = vO := rfl
theorem neg_vA : (-1000100 : Int32) = vA := rfl
def KG (k : kT) : Prop := KV k ∧ k 3 ≤ 999 ∧ (0 < k 0 → 0 < k 1)
def IS (xs : Nat → Int32) (S : jm_I2) : Prop := S jx_S = xs ∧ ∀ k, k < 6 → S jx_W k = jm_wd k
def RW1 (S : jm_I2) (r : Nat) : Prop := (S 12 r = vM ∧ S 129 r = vM) ∨ ∃ n l, n ≤ 40 ∧ l ≤ 2 ∧ S 12 r = nI n ∧ S 11 r = nI l ∧ S 129 r = nI l ∧ S 130 r = nI n ∧ ∀ i, i < 40 → S (3 + r) i = S 131 (40 * r + i)
def IR (S : jm_I2) : Prop := ∀ r, r < 8 → RW1 S r
def IT (S : jm_I2) : Prop := ∃ n, n ≤ 120 ∧ S 13 1 = nI n ∧ S 128 11 = nI n ∧ ∀ i, i < n → ∃ b, b ≤ 255 ∧ S 14 i = nI b ∧ S 136 i = nI b
def IC (S : jm_I2) (k : kT) : Prop := RX 25 S k ∧ RM 132 S k ∧ KG k
def RLn (l : Nat) (S : jm_I2) (k : kT) : Prop := S l 0 = nI (k 3) ∧ (∀ r, r < k 0 → S l (1 + r) = nI (kBt k r) ∧ S l (6 + r) = nI (kBr k r)) ∧ (∀ h, h < k 1 → S l (11 + h) = nI (kSt k h) ∧ S l (16 + h) = plv (kPl k h))
/-- the same rules and hands -/
def sameK (f k : kT) : Prop := f 0 = k 0 ∧ f 1 = k 1 ∧ f 2 = k 2 ∧ ∀ r, r < k 0 → kKd f r = kKd k r ∧ kLs f r = kLs k r
def IA (S : jm_I2) (k : kT) : Prop := ∃ n nx, ∃ f : Nat → kT, n ≤ 24 ∧ nx < 24 ∧ True ∧ S 56 2 = nI n ∧ S 56 1 = nI nx ∧ S 128 9 = nI n ∧ ∀ q, q < n → KG (f q) ∧ sameK (f q) k ∧ RLn (58 + (nx + 24 - n + q) % 24) S (f q) ∧ ∀ i, i < 34 → S 135 (34 * q + i) = nI (f q i)
def IM1 (S : jm_I2) (j : Nat) : Prop := ∃ k, KG k ∧ RX (36 + 10 * j) S k ∧ ((k 0 = 0 ∧ S 141 j = nI 0) ∨ (0 < k 0 ∧ S 141 j = nI 1 ∧ ∀ i, i < 34 → S 142 (34 * j + i) = nI (k i)))
def II (S : jm_I2) : Prop := IM1 S 0 ∧ IM1 S 1
def IQ (S : jm_I2) : Prop := ∃ n, n ≤ 16 ∧ S 126 1 = nI n ∧ S 128 26 = nI n ∧ ∀ i, i < n → S 127 i = S 143 i
def IF (S : jm_I2) : Prop := S 0 8 = S 128 18
def IU (S : jm_I2) : Prop := S 0 9 = S 128 1
/-- all that holds; k is the camp -/
def InvK (xs : Nat → Int32) (S : jm_I2) (k : kT) : Prop := IS xs S ∧ IR S ∧ IT S ∧ IC S k ∧ IA S k ∧ II S ∧ IQ S ∧ IF S ∧ IU S
def Inv (xs : Nat → Int32) (S : jm_I2) : Prop := ∃ k, InvK xs S k
theorem IS_of {xs : Nat → Int32} {S T : jm_I2} (h : IS xs S) (f : ∀ o, 144 ≤ o → T o = S o) : IS xs T := by
  unfold IS at h ⊢
  rw [f jx_S (by show 144 ≤ 1000000; decide), f jx_W (by show 144 ≤ 1000001; decide)]
  exact h
theorem IR_of {S T : jm_I2} (h : IR S) (f : ∀ o, (3 ≤ o ∧ o ≤ 12) ∨ (129 ≤ o ∧ o ≤ 131) → T o = S o) : IR T := by
  intro r hr
  have := h r hr
  unfold RW1 at this ⊢
  rw [f 12 (by decide), f 11 (by decide), f 129 (by decide), f 130 (by decide), f 131 (by decide), f (3 + r) (by omega)]
  exact this
theorem IT_of {S T : jm_I2} (h : IT S) (f1 : T 13 1 = S 13 1) (f2 : T 128 11 = S 128 11) (f3 : T 14 = S 14) (f4 : T 136 = S 136) : IT T := by
  unfold IT at h ⊢
  rw [f1, f2, f3, f4]
  exact h
theorem RX_of {c : Nat} {S T : jm_I2} {k : kT} (h : RX c S k) (f : ∀ o, c ≤ o → o ≤ c + 6 → T o = S o) : RX c T k := by
  unfold RX at h ⊢
  rw [f c (by omega) (by omega), f (c + 1) (by omega) (by omega), f (c + 2) (by omega) (by omega), f (c + 3) (by omega) (by omega), f (c + 4) (by omega) (by omega), f (c + 5) (by omega) (by omega), f (c + 6) (by omega) (by omega)]
  exact h
theorem RM_of {a : Nat} {S T : jm_I2} {k : kT} (h : RM a S k) (f : T a = S a) : RM a T k := by
  unfold RM at h ⊢
  rw [f]
  exact h
theorem IC_of {S T : jm_I2} {k : kT} (h : IC S k) (f : ∀ o, 25 ≤ o → o ≤ 31 → T o = S o) (f2 : T 132 = S 132) : IC T k := ⟨RX_of h.1 (fun o h1 h2 => f o h1 (by omega)), RM_of h.2.1 f2, h.2.2⟩
theorem RLn_of {l : Nat} {S T : jm_I2} {k : kT} (h : RLn l S k) (f : T l = S l) : RLn l T k := by
  unfold RLn at h ⊢
  rw [f]
  exact h
theorem IA_of {S T : jm_I2} {k : kT} (h : IA S k) (f1 : T 56 1 = S 56 1) (f2 : T 56 2 = S 56 2) (f3 : T 128 9 = S 128 9) (f : ∀ o, 58 ≤ o → o ≤ 81 → T o = S o) (f4 : T 135 = S 135) : IA T k := by
  obtain ⟨n, nx, g, h1, h2, h3, h4, h5, h6, h7⟩ := h
  refine ⟨n, nx, g, h1, h2, h3, f2.trans h4, f1.trans h5, f3.trans h6, fun q hq => ?_⟩
  obtain ⟨a1, a2, a3, a4⟩ := h7 q hq
  exact ⟨a1, a2, RLn_of a3 (f _ (by omega) (by omega)), fun i hi => by rw [f4]; exact a4 i hi⟩
theorem IM1_of {j : Nat} {S T : jm_I2} (h : IM1 S j) (f : ∀ o, 36 + 10 * j ≤ o → o ≤ 42 + 10 * j → T o = S o) (f1 : T 141 = S 141) (f2 : T 142 = S 142) : IM1 T j := by
  obtain ⟨k, h1, h2, h3⟩ := h
  refine ⟨k, h1, RX_of h2 (fun o a b => f o a (by omega)), ?_⟩
  rw [f1, f2]
  exact h3
theorem II_of {S T : jm_I2} (h : II S) (f : ∀ o, 36 ≤ o → o ≤ 52 → T o = S o) (f1 : T 141 = S 141) (f2 : T 142 = S 142) : II T := ⟨IM1_of h.1 (fun o a b => f o (by omega) (by omega)) f1 f2, IM1_of h.2 (fun o a b => f o (by omega) (by omega)) f1 f2⟩
theorem IQ_of {S T : jm_I2} (h : IQ S) (f1 : T 126 1 = S 126 1) (f2 : T 128 26 = S 128 26) (f3 : T 127 = S 127) (f4 : T 143 = S 143) : IQ T := by
  unfold IQ at h ⊢
  rw [f1, f2, f3, f4]
  exact h
theorem IF_of {S T : jm_I2} (h : IF S) (f1 : T 0 8 = S 0 8) (f2 : T 128 18 = S 128 18) : IF T := f1.trans (h.trans f2.symm)
theorem IU_of {S T : jm_I2} (h : IU S) (f1 : T 0 9 = S 0 9) (f2 : T 128 1 = S 128 1) : IU T := f1.trans (h.trans f2.symm)
/-- what is kept is kept: cells that are no scratch -/
def Same (S T : jm_I2) : Prop := (∀ o, (3 ≤ o ∧ o ≤ 12) ∨ o = 14 ∨ (25 ≤ o ∧ o ≤ 31) ∨ (36 ≤ o ∧ o ≤ 52) ∨ (58 ≤ o ∧ o ≤ 81) ∨ o = 127 ∨ (129 ≤ o ∧ o ≤ 132) ∨ o = 135 ∨ o = 136 ∨ (141 ≤ o ∧ o ≤ 143) ∨ 144 ≤ o → T o = S o) ∧ T 0 8 = S 0 8 ∧ T 0 9 = S 0 9 ∧ T 13 1 = S 13 1 ∧ T 56 1 = S 56 1 ∧ T 56 2 = S 56 2 ∧ T 126 1 = S 126 1 ∧ T 128 1 = S 128 1 ∧ T 128 9 = S 128 9 ∧ T 128 11 = S 128 11 ∧ T 128 18 = S 128 18 ∧ T 128 26 = S 128 26
theorem InvK_same {xs : Nat → Int32} {S T : jm_I2} {k : kT} (h : InvK xs S k) (s : Same S T) : InvK xs T k := by
  obtain ⟨h1, h2, h3, h4, h5, h6, h7, h8, h9⟩ := h
  obtain ⟨f, f1, f2, f3, f4, f5, f6, f7, f8, f9, f10, f11⟩ := s
  exact ⟨IS_of h1 (fun o ho => f o (by omega)), IR_of h2 (fun o ho => f o (by omega)), IT_of h3 f3 f9 (f _ (by decide)) (f _ (by decide)), IC_of h4 (fun o a b => f o (by omega)) (f _ (by decide)), IA_of h5 f4 f5 f8 (fun o a b => f o (by omega)) (f _ (by decide)), II_of h6 (fun o a b => f o (by omega)) (f _ (by decide)) (f _ (by decide)), IQ_of h7 f6 f11 (f _ (by decide)) (f _ (by decide)), IF_of h8 f1 f10, IU_of h9 f2 f7⟩
def Zm (xs : Nat → Int32) (e : Int32) (r : Option Value) (U : jm_I2) : Prop := r = some (.int e) ∧ Inv xs U
def Zx (xs : Nat → Int32) (L d j : Nat) (as : List Value) (r : Option Value) (T : jm_I2) : Prop := ∃ v, r = some (.int v) ∧ CL L d j as T (Zm xs v)
theorem Zx_some {xs : Nat → Int32} {L d j : Nat} {as : List Value} {v : Int32} {T : jm_I2} : Zx xs L d j as (some (.int v)) T ↔ CL L d j as T (Zm xs v) := by
  constructor
  · rintro ⟨w, h, h2⟩
    cases h
    exact h2
  · intro h
    exact ⟨v, rfl, h⟩
theorem Zm_some {xs : Nat → Int32} {e v : Int32} {U : jm_I2} : Zm xs e (some (.int v)) U ↔ v = e ∧ Inv xs U := by
  constructor
  · rintro ⟨h, h2⟩
    cases h
    exact ⟨rfl, h2⟩
  · rintro ⟨h, h2⟩
    exact ⟨by rw [h], h2⟩
theorem top_sh (L : Nat) : jm_kd 0 = 7 ∧ jm_kd 1 = 6 ∧ jm_kd 2 = 12 ∧ jm_kd 11 = 9 ∧ jm_kd 12 = 9 ∧ jm_kd 13 = 4 ∧ jm_kd 14 = 9 ∧ jm_kd 25 = 2 ∧ jm_kd 35 = 11 ∧ jm_kd 56 = 0 ∧ jm_kd 57 = 12 ∧ jm_kd 82 = 3 ∧ jm_kd 103 = 9 ∧ jm_kd 104 = 5 ∧ jm_kd 126 = 1 ∧ jm_kd 127 = 9 ∧ jm_rf 0 0 = 1 ∧ jm_rf 0 1 = 13 ∧ jm_rf 0 2 = 25 ∧ jm_rf 0 3 = 35 ∧ jm_rf 0 4 = 56 ∧ jm_rf 0 5 = 82 ∧ jm_rf 0 6 = 104 ∧ jm_rf 0 7 = 126 ∧ jm_rf 1 0 = 2 ∧ jm_rf 1 1 = 11 ∧ jm_rf 1 2 = 12 ∧ jm_rf 13 0 = 14 ∧ jm_rf 13 2 = 15 ∧ jm_rf 56 0 = 57 ∧ jm_rf 82 0 = 83 ∧ jm_rf 82 1 = 93 ∧ jm_rf 82 2 = 103 ∧ jm_rf 126 0 = 127 ∧ jm_ll L 11 = 8 ∧ jm_ll L 12 = 8 ∧ jm_ll L 14 = 120 ∧ jm_ll L 103 = 12 ∧ jm_ll L 127 = 16 ∧ jm_lw 9 11 = 8 ∧ jm_lw 9 12 = 8 ∧ jm_lw 9 14 = 120 ∧ jm_lw 9 103 = 12 ∧ jm_lw 9 127 = 16 ∧ jm_lq 2 = 8 ∧ jm_lq 35 = 2 ∧ jm_lq 57 = 24 ∧ jm_lq 116 = 5 := by
  have h1 := sh_kd
  have h2 := sh_ll L
  have h3 := sh_lw
  have h4 := sh_rf
  have h5 := sh_lq
  simp only [h1, h2, h3, h4, h5, and_self]
theorem isC25 : isCamp 25 := Or.inr (Or.inl rfl)
theorem isR132 : isRA 132 := Or.inl rfl
theorem isR134 : isRA 134 := Or.inr (Or.inr rfl)
theorem upd_ne {S : jm_I2} {a i o : Nat} {v : Int32} (h : o ≠ a) : jm_upd S a i v o = S o := by
  funext j
  rw [upd_at, if_neg (fun q => h q.1)]
theorem row_ne {S : jm_I2} {a o : Nat} {f : Nat → Int32} (h : o ≠ a) : jm_row S a f o = S o := by
  funext j
  rw [row_at, if_neg h]
/-- thrown set back -/
theorem Same_thrown {S : jm_I2} {v : Int32} : Same S (jm_upd S 128 0 v) := by
  refine ⟨fun o ho => ?_, ?_⟩
  · funext i
    rw [upd_at, if_neg (by omega)]
  · simp [upd_at]
section
variable {xs : Nat → Int32} {L d : Nat} {S : jm_I2} {k : kT} {Z : Option Value → jm_I2 → Prop}
theorem c_noRule {v : Int32} (hX : RX 25 S k) (hV : KV k) : CL L (d + 1) 123 [.ref 0, .int v] S Z ↔ (if isN v (k 0) = true then Z (some (.int (nI 0))) S else Z (some (.int (nI 1))) S) := by
  have ht := top_sh L
  have x3 := hX.2.2.2.1
  have v0 := hV.1
  have q := isN_iff (v := v) (n := k 0) (by omega)
  by_cases h : isN v (k 0) = true
  · simp (disch := omega) only [cl123, w123_0, w123_1, w123_2, w123_3, w123_6, w123_9, w123_10, w123_11, w123_14, w123_17, w123_18, w123_21, w123_22, ht, lit_nI, c_withinP, x3, q, h, true_and, if_true, if_false, Option.toList_some, List.singleton_append, nI_eq, n_eq_t, n_eq_f, or_true, true_or]
  · simp (disch := omega) only [cl123, w123_0, w123_1, w123_2, w123_3, w123_6, w123_9, w123_10, w123_11, w123_14, w123_17, w123_18, w123_21, w123_22, ht, lit_nI, c_withinP, x3, q, h, true_and, if_true, if_false, Option.toList_some, List.singleton_append, nI_eq, n_eq_t, n_eq_f, true_or, or_true, Bool.false_eq_true]
theorem c_noHand {v : Int32} (hX : RX 25 S k) (hV : KV k) : CL L (d + 1) 124 [.ref 0, .int v] S Z ↔ (if isN v (k 1) = true then Z (some (.int (nI 0))) S else Z (some (.int (nI 1))) S) := by
  have ht := top_sh L
  have x3 := hX.2.2.1
  have v0 := hV.2.1
  have q := isN_iff (v := v) (n := k 1) (by omega)
  by_cases h : isN v (k 1) = true
  · simp (disch := omega) only [cl124, w124_0, w124_1, w124_2, w124_3, w124_6, w124_9, w124_10, w124_11, w124_14, w124_17, w124_18, w124_21, w124_22, ht, lit_nI, c_withinP, x3, q, h, true_and, if_true, if_false, Option.toList_some, List.singleton_append, nI_eq, n_eq_t, n_eq_f, or_true, true_or]
  · simp (disch := omega) only [cl124, w124_0, w124_1, w124_2, w124_3, w124_6, w124_9, w124_10, w124_11, w124_14, w124_17, w124_18, w124_21, w124_22, ht, lit_nI, c_withinP, x3, q, h, true_and, if_true, if_false, Option.toList_some, List.singleton_append, nI_eq, n_eq_t, n_eq_f, true_or, or_true, Bool.false_eq_true]
theorem c_noCamp (hX : RX 25 S k) (hV : KV k) : CL L (d + 1) 122 [.ref 0] S Z ↔ (if k 0 = 0 then Z (some (.int (nI 1))) S else Z (some (.int (nI 0))) S) := by
  have ht := top_sh L
  by_cases h : k 0 = 0
  · simp (disch := omega) only [cl122, w122_0, w122_1, w122_4, w122_7, ht, ↓neg_vN, lit_nI, nI_leI, nI_ltI, nI_eq, jm_in_nI, nI_clamp, nI_add, n_mul, pk_sub, n_le_t, n_le_f, n_lt_t, n_lt_f, n_eq_t, n_eq_f, true_and, and_true, ne_eq, not_false_eq_true, not_true_eq_false, min_n, max_n, dif_n, n_rem, n_div, or_nI, shl_nI, Option.toList_some, Option.toList_none, List.singleton_append, List.nil_append, if_true, if_false, or_true, true_or, or_false, false_or, and_false, false_and, Bool.false_eq_true, c_isNone isC25 hX hV, h]
  · simp (disch := omega) only [cl122, w122_0, w122_1, w122_4, w122_7, ht, ↓neg_vN, lit_nI, nI_leI, nI_ltI, nI_eq, jm_in_nI, nI_clamp, nI_add, n_mul, pk_sub, n_le_t, n_le_f, n_lt_t, n_lt_f, n_eq_t, n_eq_f, true_and, and_true, ne_eq, not_false_eq_true, not_true_eq_false, min_n, max_n, dif_n, n_rem, n_div, or_nI, shl_nI, Option.toList_some, Option.toList_none, List.singleton_append, List.nil_append, if_true, if_false, or_true, true_or, or_false, false_or, and_false, false_and, Bool.false_eq_true, c_isNone isC25 hX hV, h]
theorem p_fault (hI : InvK xs S k) : CL L (d + 5) 84 [.ref 0] S (Zx xs L (d + 5) 145 [.ref 128]) := by
  have ht := top_sh L
  have hm := mod_sh L
  have e := hI.2.2.2.2.2.2.2.1
  unfold IF at e
  simp (disch := omega) only [cl84, w84_0, w84_1, w84_4, cl145, w145_0, w145_1, w145_2, w145_5, w145_6, w145_9, ht, hm, ↓neg_vM, ↓neg_vB, ↓neg_vS, ↓neg_vF, ↓neg_vO, ↓neg_vA, ↓neg_vN, lit_nI, nI_leI, nI_ltI, nI_eq, jm_in_nI, nI_clamp, nI_add, n_mul, pk_sub, n_le_t, n_le_f, n_lt_t, n_lt_f, n_eq_t, n_eq_f, true_and, and_true, ne_eq, not_false_eq_true, not_true_eq_false, min_n, max_n, dif_n, n_rem, n_div, or_nI, shl_nI, Option.toList_some, Option.toList_none, List.singleton_append, List.nil_append, if_true, if_false, or_true, true_or, or_false, false_or, and_false, false_and, Bool.false_eq_true, Zx_some, Zm_some, upd_at, e]
  exact ⟨k, InvK_same hI Same_thrown⟩
theorem p_status (hI : InvK xs S k) : CL L (d + 5) 116 [.ref 0] S (Zx xs L (d + 5) 219 [.ref 128]) := by
  have ht := top_sh L
  have hm := mod_sh L
  have e := hI.2.2.2.2.2.2.2.2
  unfold IU at e
  simp (disch := omega) only [cl116, w116_0, w116_1, w116_4, cl219, w219_0, w219_1, w219_2, w219_5, w219_6, w219_9, ht, hm, ↓neg_vM, ↓neg_vB, ↓neg_vS, ↓neg_vF, ↓neg_vO, ↓neg_vA, ↓neg_vN, lit_nI, nI_leI, nI_ltI, nI_eq, jm_in_nI, nI_clamp, nI_add, n_mul, pk_sub, n_le_t, n_le_f, n_lt_t, n_lt_f, n_eq_t, n_eq_f, true_and, and_true, ne_eq, not_false_eq_true, not_true_eq_false, min_n, max_n, dif_n, n_rem, n_div, or_nI, shl_nI, Option.toList_some, Option.toList_none, List.singleton_append, List.nil_append, if_true, if_false, or_true, true_or, or_false, false_or, and_false, false_and, Bool.false_eq_true, Zx_some, Zm_some, upd_at, e]
  exact ⟨k, InvK_same hI Same_thrown⟩
theorem p_kind {v : Int32} (hI : InvK xs S k) : CL L (d + 5) 111 [.ref 0, .int v] S (Zx xs L (d + 5) 209 [.ref 128, .int v]) := by
  have ht := top_sh L
  have hm := mod_sh L
  obtain ⟨hX, hM, hV, -, -⟩ := hI.2.2.2.1
  have hs := camp_sh isC25
  have hl := camp_ll L isC25
  have hM2 : RM 132 (jm_upd S 128 0 (nI 0)) k := RM_of hM (upd_ne (by decide))
  have v0 := hV.1
  by_cases h : isN v (k 0) = true
  · obtain ⟨r, hr, rfl⟩ := isN_of (by omega) h
    obtain ⟨z1, z2, z3, z4⟩ := hX.2.2.2.2.2 r hr
    simp (disch := omega) only [cl111, w111_0, w111_1, w111_2, w111_5, w111_8, w111_10, w111_13, w111_14, w111_17, w111_20, w111_21, w111_22, cl209, w209_0, w209_1, w209_2, w209_5, w209_6, w209_7, w209_10, w209_13, w209_14, w209_17, w209_18, w209_19, w209_22, w209_25, w209_27, ht, hm, hs, hl, ↓neg_vM, ↓neg_vB, ↓neg_vS, ↓neg_vF, ↓neg_vO, ↓neg_vA, ↓neg_vN, lit_nI, nI_leI, nI_ltI, nI_eq, jm_in_nI, nI_clamp, nI_add, n_mul, pk_sub, n_le_t, n_le_f, n_lt_t, n_lt_f, n_eq_t, n_eq_f, true_and, and_true, ne_eq, not_false_eq_true, not_true_eq_false, min_n, max_n, dif_n, n_rem, n_div, or_nI, shl_nI, Option.toList_some, Option.toList_none, List.singleton_append, List.nil_append, if_true, if_false, or_true, true_or, or_false, false_or, and_false, false_and, Bool.false_eq_true, Zx_some, Zm_some, c_noRule hX hV, r_isRule hM2 v0, r_of0 isR132 hM2, h, z1]
    exact ⟨k, InvK_same hI Same_thrown⟩
  · simp (disch := omega) only [cl111, w111_0, w111_1, w111_2, w111_5, w111_8, w111_10, w111_13, w111_14, w111_17, w111_20, w111_21, w111_22, cl209, w209_0, w209_1, w209_2, w209_5, w209_6, w209_7, w209_10, w209_13, w209_14, w209_17, w209_18, w209_19, w209_22, w209_25, w209_27, ht, hm, hs, hl, ↓neg_vM, ↓neg_vB, ↓neg_vS, ↓neg_vF, ↓neg_vO, ↓neg_vA, ↓neg_vN, lit_nI, nI_leI, nI_ltI, nI_eq, jm_in_nI, nI_clamp, nI_add, n_mul, pk_sub, n_le_t, n_le_f, n_lt_t, n_lt_f, n_eq_t, n_eq_f, true_and, and_true, ne_eq, not_false_eq_true, not_true_eq_false, min_n, max_n, dif_n, n_rem, n_div, or_nI, shl_nI, Option.toList_some, Option.toList_none, List.singleton_append, List.nil_append, if_true, if_false, or_true, true_or, or_false, false_or, and_false, false_and, Bool.false_eq_true, Zx_some, Zm_some, c_noRule hX hV, r_isRule hM2 v0, r_of0 isR132 hM2, h]
    exact ⟨k, InvK_same hI Same_thrown⟩
end
