/-! ===== sleep ===== -/
def vBl : Int64 := -1000001
theorem neg_vBl : (-1000001 : Int64) = vBl := rfl
theorem kl_null : jm_kl .null = .null := rfl
theorem kl_int (x : Int32) : jm_kl (.int x) = .int x := rfl
theorem kl_ref (x : Nat) : jm_kl (.ref x) = .ref x := rfl
theorem kl_long (x : Int64) : jm_kl (.long x) = .null := rfl
theorem lg_ge {x y : Int64} : (nI 0 ≤ lg_cmp x y) ↔ ¬ x < y := by rw [← Int32.not_lt, lg_lt]
def ZmL (xs : Nat → Int32) (e : Int64) (r : Option Value) (U : jm_I2) : Prop := r = some (.long e) ∧ Inv xs U
def ZxL (xs : Nat → Int32) (L d j : Nat) (as : List Value) (r : Option Value) (T : jm_I2) : Prop := ∃ v, r = some (.long v) ∧ CL L d j as T (ZmL xs v)
theorem ZxL_some {xs : Nat → Int32} {L d j : Nat} {as : List Value} {v : Int64} {T : jm_I2} : ZxL xs L d j as (some (.long v)) T ↔ CL L d j as T (ZmL xs v) := by
  constructor
  · rintro ⟨w, h, h2⟩
    cases h
    exact h2
  · intro h
    exact ⟨v, rfl, h⟩
theorem ZmL_some {xs : Nat → Int32} {e v : Int64} {U : jm_I2} : ZmL xs e (some (.long v)) U ↔ v = e ∧ Inv xs U := by
  constructor
  · rintro ⟨h, h2⟩
    cases h
    exact ⟨rfl, h2⟩
  · rintro ⟨h, h2⟩
    exact ⟨by rw [h], h2⟩
/-- the first n hands of the set s asleep -/
def slK (k : kT) (s n : Nat) : kT := fun i => if (4 ≤ i ∧ i < 14 ∧ i % 2 = 0 ∧ (i - 4) / 2 < n) ∧ s.testBit ((i - 4) / 2) = true then 0 else k i
theorem slK_0 (k : kT) (s : Nat) : slK k s 0 = k := by
  funext i
  unfold slK
  rw [if_neg (fun h => by omega)]
theorem slK_S (k : kT) (s : Nat) {n : Nat} (h : n < 5) : slK k s (n + 1) = kU (slK k s n) (4 + 2 * n + 0) (if s.testBit n = true then 0 else kSt k n) := by
  funext i
  unfold slK kU
  by_cases e : i = 4 + 2 * n + 0
  · rw [if_pos e, show (i - 4) / 2 = n by omega]
    by_cases b : s.testBit n = true
    · rw [if_pos ⟨by omega, b⟩, if_pos b]
    · rw [if_neg (fun q => b q.2), if_neg b]
      unfold kSt
      rw [e]
      rfl
  · rw [if_neg e]
    dsimp only
    by_cases e2 : (4 ≤ i ∧ i < 14 ∧ i % 2 = 0 ∧ (i - 4) / 2 < n) ∧ s.testBit ((i - 4) / 2) = true
    · rw [if_pos e2, if_pos ⟨by omega, e2.2⟩]
    · rw [if_neg e2, if_neg (fun q => e2 ⟨by omega, q.2⟩)]
theorem slK_low (k : kT) (s n : Nat) {i : Nat} (h : i < 4 ∨ 14 ≤ i ∨ i % 2 = 1) : slK k s n i = k i := by
  unfold slK
  rw [if_neg (fun q => by omega)]
theorem slK_St (k : kT) (s : Nat) {n h : Nat} (hn : n ≤ h) : kSt (slK k s n) h = kSt k h := by
  unfold kSt slK
  rw [if_neg (fun q => by omega)]
theorem KV_sl {k : kT} (hV : KV k) (s n : Nat) : KV (slK k s n) := by
  obtain ⟨v0, v1, v2, v3, v4, v5⟩ := hV
  have l : ∀ i, i < 4 → slK k s n i = k i := fun i hi => slK_low k s n (by omega)
  have e1 : ∀ r, kKd (slK k s n) r = kKd k r := fun r => slK_low k s n (by omega)
  have e2 : ∀ r, kBt (slK k s n) r = kBt k r := fun r => slK_low k s n (by omega)
  have e3 : ∀ r, kLs (slK k s n) r = kLs k r := fun r => slK_low k s n (by omega)
  have e4 : ∀ r, kBr (slK k s n) r = kBr k r := fun r => slK_low k s n (by omega)
  have e5 : ∀ r, kPl (slK k s n) r = kPl k r := fun r => slK_low k s n (by omega)
  unfold KV
  rw [l 0 (by decide), l 1 (by decide), l 2 (by decide), l 3 (by decide)]
  refine ⟨v0, v1, v2, v3, fun h hh => ?_, fun r hr => ?_⟩
  · rw [e5]
    refine ⟨?_, (v4 h hh).2⟩
    have := (v4 h hh).1
    unfold kSt slK
    split
    · omega
    · exact this
  · rw [e1, e2, e3, e4]
    exact v5 r hr
/-- in how many cases just the set s sleeps -/
def wy (p s : Nat) : Nat → Nat
  | 0 => 1
  | h + 1 => wy p s h * (if s.testBit h = true then p else 10 - p)
def sW (p h : Nat) : Nat → Nat
  | 0 => 0
  | s + 1 => sW p h s + wy p s h
def sQ (k : kT) (r n s : Nat) : Bool := decide (0 < kBt (hoursA (slK k s (k 1)) n) r)
def sH (k : kT) (r n p : Nat) : Nat → Nat
  | 0 => 0
  | s + 1 => sH k r n p s + (if sQ k r n s = true then wy p s (k 1) else 0)
theorem wy_le {p : Nat} (hp : p ≤ 10) (s : Nat) : ∀ h, wy p s h ≤ 10 ^ h
  | 0 => Nat.le_refl _
  | h + 1 => by
    rw [wy, Nat.pow_succ]
    refine Nat.mul_le_mul (wy_le hp s h) ?_
    split <;> omega
theorem p10_le {h : Nat} (hh : h ≤ 5) : 10 ^ h ≤ 100000 := show 10 ^ h ≤ 10 ^ 5 from Nat.pow_le_pow_right (by decide) hh
theorem wy_le5 {p h : Nat} (hp : p ≤ 10) (s : Nat) (hh : h ≤ 5) : wy p s h ≤ 100000 := Nat.le_trans (wy_le hp s h) (p10_le hh)
theorem sW_le {p h : Nat} (hp : p ≤ 10) (hh : h ≤ 5) : ∀ s, sW p h s ≤ 100000 * s
  | 0 => Nat.le_refl _
  | s + 1 => by
    have h1 := sW_le hp hh s
    have h2 := wy_le5 hp s hh
    rw [sW]
    omega
theorem sH_le {k : kT} {r n p : Nat} (hp : p ≤ 10) (hh : k 1 ≤ 5) : ∀ s, sH k r n p s ≤ 100000 * s
  | 0 => Nat.le_refl _
  | s + 1 => by
    have h1 := sH_le (r := r) (n := n) hp hh s
    have h2 := wy_le5 hp s hh
    rw [sH]
    split <;> omega
theorem sW_all : ∀ h, h < 6 → ∀ p, p < 11 → sW p h (2 ^ h) = 10 ^ h := by decide +kernel
theorem gcd_st (a b : Nat) : Nat.gcd b (a % b) = Nat.gcd a b := by
  rw [Nat.gcd_comm b (a % b), ← Nat.gcd_rec b a, Nat.gcd_comm]
theorem mod_half {a b : Nat} (hb : b ≠ 0) (hr : a % b ≠ 0) : 2 * (b % (a % b)) < b := by
  have h1 := Nat.mod_lt a (show 0 < b by omega)
  have h2 := Nat.mod_lt b (show 0 < a % b by omega)
  have h3 := Nat.div_add_mod b (a % b)
  have h4 : 1 ≤ b / (a % b) := (Nat.one_le_div_iff (by omega)).mpr (by omega)
  have h5 : (a % b) * 1 ≤ (a % b) * (b / (a % b)) := Nat.mul_le_mul_left _ h4
  omega
section
variable {xs : Nat → Int32} {L d : Nat} {S : jm_I2} {k : kT} {Z : Option Value → jm_I2 → Prop}
theorem gc_step {a b st : Nat} {u9 u10 x0 x1 x2 : Value} (hst : st < 128) (ha : a < 2 ^ 60) (hb : b < 2 ^ 60) (h0 : b ≠ 0) : WQ L d 119 9 [x0, x1, x2, .null, .long (lN a), .null, .long (lN b), .null, .int (nI st), u9, u10] [] S Z ↔ WQ L d 119 9 [x0, x1, x2, .null, .long (lN b), .null, .long (lN (a % b)), .null, .int (nI (st + 1)), .long (lN (a % b)), .null] [] S Z := by
  have e : (lN b = lN 0) = False := eq_false (fun q => h0 ((pk_lEQ (by omega) (by decide)).mp q))
  have em : lN a - lN a / lN b * lN b = lN (a % b) := pk_lRem (by omega) (by omega) (by omega)
  rw [w119_9]
  simp (disch := omega) only [w119_11, w119_14, w119_17, w119_19, w119_20, w119_21, w119_24, w119_26, w119_28, w119_29, w119_31, w119_33, w119_35, w119_37, w119_39, w119_42, w119_45, w119_47, ↓neg_vM, ↓neg_vB, ↓neg_vS, ↓neg_vF, ↓neg_vO, ↓neg_vA, ↓neg_vN, lit_nI, nI_leI, nI_ltI, nI_eq, jm_in_nI, nI_clamp, nI_add, n_mul, pk_sub, n_le_t, n_le_f, n_lt_t, n_lt_f, n_eq_t, n_eq_f, true_and, and_true, ne_eq, not_false_eq_true, not_true_eq_false, min_n, max_n, dif_n, n_rem, n_div, or_nI, shl_nI, Option.toList_some, Option.toList_none, List.singleton_append, List.nil_append, if_true, if_false, or_true, true_or, or_false, false_or, and_false, false_and, Bool.false_eq_true, lit_lN, lg_eq0, e, em, kl_null, kl_int, kl_long]
theorem gc_end {a st : Nat} {u9 u10 x0 x1 x2 : Value} (hst : st ≤ 128) : WQ L d 119 9 [x0, x1, x2, .null, .long (lN a), .null, .long (lN 0), .null, .int (nI st), u9, u10] [] S Z ↔ Z (some (.long (lN a))) S := by
  rw [w119_9]
  by_cases c : st < 128
  · simp (disch := omega) only [w119_11, w119_14, w119_17, w119_19, w119_20, w119_21, w119_24, w119_26, w119_28, w119_29, w119_31, w119_33, w119_35, w119_37, w119_39, w119_42, w119_45, w119_47, ↓neg_vM, ↓neg_vB, ↓neg_vS, ↓neg_vF, ↓neg_vO, ↓neg_vA, ↓neg_vN, lit_nI, nI_leI, nI_ltI, nI_eq, jm_in_nI, nI_clamp, nI_add, n_mul, pk_sub, n_le_t, n_le_f, n_lt_t, n_lt_f, n_eq_t, n_eq_f, true_and, and_true, ne_eq, not_false_eq_true, not_true_eq_false, min_n, max_n, dif_n, n_rem, n_div, or_nI, shl_nI, Option.toList_some, Option.toList_none, List.singleton_append, List.nil_append, if_true, if_false, or_true, true_or, or_false, false_or, and_false, false_and, Bool.false_eq_true, lit_lN, lg_eq0, kl_null, kl_int, kl_long]
  · simp (disch := omega) only [w119_11, w119_14, w119_17, w119_19, w119_20, w119_21, w119_24, w119_26, w119_28, w119_29, w119_31, w119_33, w119_35, w119_37, w119_39, w119_42, w119_45, w119_47, ↓neg_vM, ↓neg_vB, ↓neg_vS, ↓neg_vF, ↓neg_vO, ↓neg_vA, ↓neg_vN, lit_nI, nI_leI, nI_ltI, nI_eq, jm_in_nI, nI_clamp, nI_add, n_mul, pk_sub, n_le_t, n_le_f, n_lt_t, n_lt_f, n_eq_t, n_eq_f, true_and, and_true, ne_eq, not_false_eq_true, not_true_eq_false, min_n, max_n, dif_n, n_rem, n_div, or_nI, shl_nI, Option.toList_some, Option.toList_none, List.singleton_append, List.nil_append, if_true, if_false, or_true, true_or, or_false, false_or, and_false, false_and, Bool.false_eq_true, lit_lN, lg_eq0, kl_null, kl_int, kl_long]
theorem gc_loop {x0 x1 x2 : Value} : ∀ (m a b st : Nat) (u9 u10 : Value), b < 2 ^ m → st + 2 * m ≤ 128 → a < 2 ^ 60 → b < 2 ^ 60 → (WQ L d 119 9 [x0, x1, x2, .null, .long (lN a), .null, .long (lN b), .null, .int (nI st), u9, u10] [] S Z ↔ Z (some (.long (lN (Nat.gcd a b)))) S)
  | 0, a, b, st, u9, u10, hb, hst, ha, _ => by
    have e : b = 0 := by
      rw [Nat.pow_zero] at hb
      omega
    subst e
    rw [gc_end (by omega), Nat.gcd_zero_right]
  | m + 1, a, b, st, u9, u10, hb, hst, ha, hb2 => by
    by_cases h0 : b = 0
    · subst h0
      rw [gc_end (by omega), Nat.gcd_zero_right]
    · have h1 := Nat.mod_lt a (show 0 < b by omega)
      rw [gc_step (by omega) ha hb2 h0, ← gcd_st a b]
      by_cases h2 : a % b = 0
      · rw [h2, gc_end (by omega), Nat.gcd_zero_right]
      · have h3 := mod_half h0 h2
        rw [Nat.pow_succ] at hb
        rw [gc_step (by omega) hb2 (by omega) h2, ← gcd_st b (a % b)]
        exact gc_loop m (a % b) (b % (a % b)) (st + 1 + 1) _ _ (by omega) (by omega) (by omega) (by omega)
theorem c_gcd {a b : Nat} (ha : a < 2 ^ 40) (hb : b < 2 ^ 40) : CL L d 119 [.long (lN a), .long (lN b)] S Z ↔ Z (some (.long (lN (Nat.gcd a b)))) S := by
  simp (disch := omega) only [cl119, w119_0, w119_1, w119_3, w119_4, w119_6, w119_7, ↓neg_vM, ↓neg_vB, ↓neg_vS, ↓neg_vF, ↓neg_vO, ↓neg_vA, ↓neg_vN, lit_nI, nI_leI, nI_ltI, nI_eq, jm_in_nI, nI_clamp, nI_add, n_mul, pk_sub, n_le_t, n_le_f, n_lt_t, n_lt_f, n_eq_t, n_eq_f, true_and, and_true, ne_eq, not_false_eq_true, not_true_eq_false, min_n, max_n, dif_n, n_rem, n_div, or_nI, shl_nI, Option.toList_some, Option.toList_none, List.singleton_append, List.nil_append, if_true, if_false, or_true, true_or, or_false, false_or, and_false, false_and, Bool.false_eq_true, kl_null, kl_int, kl_long]
  exact gc_loop 40 a b 0 _ _ hb (by omega) (by omega) (by omega)
theorem c_allCases (hX : RX 25 S k) (hV : KV k) : CL L d 46 [.ref 82, .ref 25] S Z ↔ Z (some (.long (lN (10 ^ k 1)))) S := by
  have ht := top_sh L
  have x2 := hX.2.2.1
  have v1 := hV.2.1
  have key : ∀ i, i ≤ k 1 → (WQ L d 46 5 [.ref 82, .ref 25, .long (lN (10 ^ i)), .null, .int (nI i)] [] S Z ↔ Z (some (.long (lN (10 ^ k 1)))) S) := by
    apply down_ind
    · rw [w46_5]
      simp (disch := omega) only [w46_7, w46_8, w46_11, w46_14, w46_15, w46_18, w46_19, w46_20, w46_23, w46_26, w46_27, ht, ↓neg_vM, ↓neg_vB, ↓neg_vS, ↓neg_vF, ↓neg_vO, ↓neg_vA, ↓neg_vN, lit_nI, nI_leI, nI_ltI, nI_eq, jm_in_nI, nI_clamp, nI_add, n_mul, pk_sub, n_le_t, n_le_f, n_lt_t, n_lt_f, n_eq_t, n_eq_f, true_and, and_true, ne_eq, not_false_eq_true, not_true_eq_false, min_n, max_n, dif_n, n_rem, n_div, or_nI, shl_nI, Option.toList_some, Option.toList_none, List.singleton_append, List.nil_append, if_true, if_false, or_true, true_or, or_false, false_or, and_false, false_and, Bool.false_eq_true, x2]
    · intro i hi ih
      rw [← ih, w46_5, Nat.pow_succ]
      simp (disch := omega) only [w46_7, w46_8, w46_11, w46_14, w46_15, w46_18, w46_19, w46_20, w46_23, w46_26, w46_27, ht, ↓neg_vM, ↓neg_vB, ↓neg_vS, ↓neg_vF, ↓neg_vO, ↓neg_vA, ↓neg_vN, lit_nI, nI_leI, nI_ltI, nI_eq, jm_in_nI, nI_clamp, nI_add, n_mul, pk_sub, n_le_t, n_le_f, n_lt_t, n_lt_f, n_eq_t, n_eq_f, true_and, and_true, ne_eq, not_false_eq_true, not_true_eq_false, min_n, max_n, dif_n, n_rem, n_div, or_nI, shl_nI, Option.toList_some, Option.toList_none, List.singleton_append, List.nil_append, if_true, if_false, or_true, true_or, or_false, false_or, and_false, false_and, Bool.false_eq_true, x2, lit_lN, lN_mul, kl_null, kl_ref, kl_long]
  simp (disch := omega) only [cl46, w46_0, w46_1, w46_2, w46_3, ↓neg_vM, ↓neg_vB, ↓neg_vS, ↓neg_vF, ↓neg_vO, ↓neg_vA, ↓neg_vN, lit_nI, nI_leI, nI_ltI, nI_eq, jm_in_nI, nI_clamp, nI_add, n_mul, pk_sub, n_le_t, n_le_f, n_lt_t, n_lt_f, n_eq_t, n_eq_f, true_and, and_true, ne_eq, not_false_eq_true, not_true_eq_false, min_n, max_n, dif_n, n_rem, n_div, or_nI, shl_nI, Option.toList_some, Option.toList_none, List.singleton_append, List.nil_append, if_true, if_false, or_true, true_or, or_false, false_or, and_false, false_and, Bool.false_eq_true, lit_lN, kl_null, kl_ref, kl_long]
  exact key 0 (Nat.zero_le _)
set_option maxHeartbeats 8000000 in
theorem c_casesHolding {r n p : Nat} (hX : RX 25 S k) (hV : KV k) (hk1 : 0 < k 1) (h3 : k 3 ≤ 999) (hn : n ≤ 60) (hr : r < k 0) (hp : p ≤ 10) (hZ : ∀ T, offC 83 S T → Z (some (.long (lN (sH k r n p (2 ^ k 1))))) T) : CL L (d + 4) 47 [.ref 82, .ref 25, .int (nI r), .int (nI n), .int (nI p)] S Z := by
  have ht := top_sh L
  have hs := camp_sh isC83
  have hl := camp_ll L isC83
  have v0 := hV.1
  have v1 := hV.2.1
  have hp32 := pow_le32 v1
  have key : ∀ i, i ≤ 2 ^ k 1 → ∀ T u8 u9 u10 u11, offC 83 S T → WQ L (d + 4) 47 6 [.ref 82, .ref 25, .int (nI r), .int (nI n), .int (nI p), .long (lN (sH k r n p i)), .null, .int (nI i), u8, u9, u10, u11] [] T Z := by
    apply down_ind
    · intro T u8 u9 u10 u11 tf
      have x2 : T 25 2 = nI (k 1) := by rw [tf 25 (by omega)]; exact hX.2.2.1
      rw [w47_6]
      simp (disch := omega) only [w47_8, w47_9, w47_10, w47_13, w47_14, w47_157, w47_159, ht, ↓neg_vM, ↓neg_vB, ↓neg_vS, ↓neg_vF, ↓neg_vO, ↓neg_vA, ↓neg_vN, lit_nI, nI_leI, nI_ltI, nI_eq, jm_in_nI, nI_clamp, nI_add, n_mul, pk_sub, n_le_t, n_le_f, n_lt_t, n_lt_f, n_eq_t, n_eq_f, true_and, and_true, ne_eq, not_false_eq_true, not_true_eq_false, min_n, max_n, dif_n, n_rem, n_div, or_nI, shl_nI, Option.toList_some, Option.toList_none, List.singleton_append, List.nil_append, if_true, if_false, or_true, true_or, or_false, false_or, and_false, false_and, Bool.false_eq_true, x2]
      exact hZ T tf
    · intro i hi ih T u8 u9 u10 u11 tf
      have x2 : T 25 2 = nI (k 1) := by rw [tf 25 (by omega)]; exact hX.2.2.1
      have tX : RX 25 T k := RX_of hX (fun o h1 h2 => tf o (by omega))
      have hsl := sH_le (r := r) (n := n) hp v1 i
      have hwl := wy_le5 hp i v1
      have key2 : ∀ h, h ≤ k 1 → ∀ T2 u11, RX 83 T2 (slK k i h) → offC 83 S T2 → WQ L (d + 4) 47 31 [.ref 82, .ref 25, .int (nI r), .int (nI n), .int (nI p), .long (lN (sH k r n p i)), .null, .int (nI i), .long (lN (wy p i h)), .null, .int (nI h), u11] [] T2 Z := by
        apply down_ind
        · intro T2 u11 tX2 tf2
          have y2 : T2 25 2 = nI (k 1) := by rw [tf2 25 (by omega)]; exact hX.2.2.1
          rw [w47_31]
          by_cases c : 0 < wy p i (k 1)
          · simp (disch := omega) only [w47_33, w47_34, w47_37, w47_114, w47_116, w47_117, w47_118, w47_121, w47_122, w47_125, w47_126, ht, hs, ↓neg_vM, ↓neg_vB, ↓neg_vS, ↓neg_vF, ↓neg_vO, ↓neg_vA, ↓neg_vN, lit_nI, nI_leI, nI_ltI, nI_eq, jm_in_nI, nI_clamp, nI_add, n_mul, pk_sub, n_le_t, n_le_f, n_lt_t, n_lt_f, n_eq_t, n_eq_f, true_and, and_true, ne_eq, not_false_eq_true, not_true_eq_false, min_n, max_n, dif_n, n_rem, n_div, or_nI, shl_nI, Option.toList_some, Option.toList_none, List.singleton_append, List.nil_append, if_true, if_false, or_true, true_or, or_false, false_or, and_false, false_and, Bool.false_eq_true, y2, lit_lN, lg_le, lN_lt]
            have p3 : slK k i (k 1) 3 = k 3 := slK_low _ _ _ (by omega)
            have p1 : slK k i (k 1) 1 = k 1 := slK_low _ _ _ (by omega)
            have p0 : slK k i (k 1) 0 = k 0 := slK_low _ _ _ (by omega)
            refine c_passHours isC83 tX2 (KV_sl hV i (k 1)) (by rw [p1]; exact hk1) (by rw [p3]; omega) (fun T3 tX3 tf3 => ?_)
            have hVn := KV_hours (KV_sl hV i (k 1)) n (by rw [p3]; omega)
            have hr2 : r < hoursA (slK k i (k 1)) n 0 := by rw [(hoursA_low _ n).1, p0]; exact hr
            have e := ih T3 (.long (lN (wy p i (k 1)))) .null (.int (nI (k 1))) u11 (fun o ho => by rw [tf3 o ho, tf2 o ho])
            rw [sH] at e
            by_cases c2 : 0 < kBt (hoursA (slK k i (k 1)) n) r
            · have e2 : sQ k r n i = true := by unfold sQ; simp [c2]
              rw [if_pos e2] at e
              simp (disch := omega) only [w47_129, w47_131, w47_132, w47_135, w47_136, w47_139, w47_142, w47_144, w47_147, w47_148, w47_149, w47_151, w47_154, ht, hs, ↓neg_vM, ↓neg_vB, ↓neg_vS, ↓neg_vF, ↓neg_vO, ↓neg_vA, ↓neg_vN, lit_nI, nI_leI, nI_ltI, nI_eq, jm_in_nI, nI_clamp, nI_add, n_mul, pk_sub, n_le_t, n_le_f, n_lt_t, n_lt_f, n_eq_t, n_eq_f, true_and, and_true, ne_eq, not_false_eq_true, not_true_eq_false, min_n, max_n, dif_n, n_rem, n_div, or_nI, shl_nI, Option.toList_some, Option.toList_none, List.singleton_append, List.nil_append, if_true, if_false, or_true, true_or, or_false, false_or, and_false, false_and, Bool.false_eq_true, c_holds isC83 tX3 hVn hr2, c2, lit_lN, lN_add, kl_null, kl_int, kl_long]
              exact e
            · have e2 : sQ k r n i = false := by unfold sQ; simp [c2]
              rw [if_neg (by rw [e2]; decide)] at e
              simp (disch := omega) only [w47_129, w47_131, w47_132, w47_135, w47_136, w47_139, w47_142, w47_144, w47_147, w47_148, w47_149, w47_151, w47_154, ht, hs, ↓neg_vM, ↓neg_vB, ↓neg_vS, ↓neg_vF, ↓neg_vO, ↓neg_vA, ↓neg_vN, lit_nI, nI_leI, nI_ltI, nI_eq, jm_in_nI, nI_clamp, nI_add, n_mul, pk_sub, n_le_t, n_le_f, n_lt_t, n_lt_f, n_eq_t, n_eq_f, true_and, and_true, ne_eq, not_false_eq_true, not_true_eq_false, min_n, max_n, dif_n, n_rem, n_div, or_nI, shl_nI, Option.toList_some, Option.toList_none, List.singleton_append, List.nil_append, if_true, if_false, or_true, true_or, or_false, false_or, and_false, false_and, Bool.false_eq_true, c_holds isC83 tX3 hVn hr2, c2, lit_lN, lN_add, kl_null, kl_int, kl_long]
              exact e
          · have e := ih T2 (.long (lN (wy p i (k 1)))) .null (.int (nI (k 1))) u11 tf2
            rw [sH, show (if sQ k r n i = true then wy p i (k 1) else 0) = 0 by split <;> omega, Nat.add_zero] at e
            simp (disch := omega) only [w47_33, w47_34, w47_37, w47_114, w47_116, w47_117, w47_118, w47_151, w47_154, ht, hs, ↓neg_vM, ↓neg_vB, ↓neg_vS, ↓neg_vF, ↓neg_vO, ↓neg_vA, ↓neg_vN, lit_nI, nI_leI, nI_ltI, nI_eq, jm_in_nI, nI_clamp, nI_add, n_mul, pk_sub, n_le_t, n_le_f, n_lt_t, n_lt_f, n_eq_t, n_eq_f, true_and, and_true, ne_eq, not_false_eq_true, not_true_eq_false, min_n, max_n, dif_n, n_rem, n_div, or_nI, shl_nI, Option.toList_some, Option.toList_none, List.singleton_append, List.nil_append, if_true, if_false, or_true, true_or, or_false, false_or, and_false, false_and, Bool.false_eq_true, y2, lit_lN, lg_le, lN_lt, kl_null, kl_int, kl_long]
            exact e
        · intro h hh ih2 T2 u11 tX2 tf2
          have y2 : T2 25 2 = nI (k 1) := by rw [tf2 25 (by omega)]; exact hX.2.2.1
          have z1 := (tX2.2.2.2.2.1 h (by rw [slK_low _ _ _ (by omega)]; exact hh)).1
          rw [slK_St k i (Nat.le_refl _)] at z1
          have hw := wy_le5 hp i (show h ≤ 5 by omega)
          have q1 : slK k i h 1 ≤ 5 := by rw [slK_low _ _ _ (by omega)]; exact v1
          rw [w47_31]
          by_cases c : i.testBit h = true
          · have e := fun T u x y => ih2 T u x y
            rw [wy, if_pos c] at e
            simp (disch := omega) only [w47_33, w47_34, w47_37, w47_40, w47_42, w47_44, w47_45, w47_46, w47_47, w47_50, w47_51, w47_54, w47_55, w47_57, w47_59, w47_61, w47_64, w47_66, w47_67, w47_70, w47_72, w47_74, w47_75, w47_76, w47_77, w47_79, w47_80, w47_83, w47_86, w47_88, w47_90, w47_93, w47_94, w47_97, w47_98, w47_101, w47_104, w47_106, w47_107, w47_108, w47_111, ht, hs, hl, ↓neg_vM, ↓neg_vB, ↓neg_vS, ↓neg_vF, ↓neg_vO, ↓neg_vA, ↓neg_vN, lit_nI, nI_leI, nI_ltI, nI_eq, jm_in_nI, nI_clamp, nI_add, n_mul, pk_sub, n_le_t, n_le_f, n_lt_t, n_lt_f, n_eq_t, n_eq_f, true_and, and_true, ne_eq, not_false_eq_true, not_true_eq_false, min_n, max_n, dif_n, n_rem, n_div, or_nI, shl_nI, Option.toList_some, Option.toList_none, List.singleton_append, List.nil_append, if_true, if_false, or_true, true_or, or_false, false_or, and_false, false_and, Bool.false_eq_true, y2, shr_n5, c, nI_l, lN_mul, kl_null, kl_int, kl_long]
            refine e _ _ ?_ (fun o ho => by rw [upd_ne (by omega), tf2 o ho])
            rw [slK_S _ _ (by omega), if_pos c]
            exact RX_St tX2 (by omega) q1
          · have e := fun T u x y => ih2 T u x y
            rw [wy, if_neg c] at e
            simp (disch := omega) only [w47_33, w47_34, w47_37, w47_40, w47_42, w47_44, w47_45, w47_46, w47_47, w47_50, w47_51, w47_54, w47_55, w47_57, w47_59, w47_61, w47_64, w47_66, w47_67, w47_70, w47_72, w47_74, w47_75, w47_76, w47_77, w47_79, w47_80, w47_83, w47_86, w47_88, w47_90, w47_93, w47_94, w47_97, w47_98, w47_101, w47_104, w47_106, w47_107, w47_108, w47_111, ht, hs, hl, ↓neg_vM, ↓neg_vB, ↓neg_vS, ↓neg_vF, ↓neg_vO, ↓neg_vA, ↓neg_vN, lit_nI, nI_leI, nI_ltI, nI_eq, jm_in_nI, nI_clamp, nI_add, n_mul, pk_sub, n_le_t, n_le_f, n_lt_t, n_lt_f, n_eq_t, n_eq_f, true_and, and_true, ne_eq, not_false_eq_true, not_true_eq_false, min_n, max_n, dif_n, n_rem, n_div, or_nI, shl_nI, Option.toList_some, Option.toList_none, List.singleton_append, List.nil_append, if_true, if_false, or_true, true_or, or_false, false_or, and_false, false_and, Bool.false_eq_true, y2, shr_n5, c, nI_l, lN_mul, z1, kl_null, kl_int, kl_long]
            refine e _ _ ?_ (fun o ho => by rw [upd_ne (by omega), tf2 o ho])
            rw [slK_S _ _ (by omega), if_neg c]
            exact RX_St tX2 (by omega) q1
      rw [w47_6]
      simp (disch := omega) only [w47_8, w47_9, w47_10, w47_13, w47_14, w47_17, w47_18, w47_20, w47_21, w47_24, w47_25, ht, hs, ↓neg_vM, ↓neg_vB, ↓neg_vS, ↓neg_vF, ↓neg_vO, ↓neg_vA, ↓neg_vN, lit_nI, nI_leI, nI_ltI, nI_eq, jm_in_nI, nI_clamp, nI_add, n_mul, pk_sub, n_le_t, n_le_f, n_lt_t, n_lt_f, n_eq_t, n_eq_f, true_and, and_true, ne_eq, not_false_eq_true, not_true_eq_false, min_n, max_n, dif_n, n_rem, n_div, or_nI, shl_nI, Option.toList_some, Option.toList_none, List.singleton_append, List.nil_append, if_true, if_false, or_true, true_or, or_false, false_or, and_false, false_and, Bool.false_eq_true, x2, lit_lN, kl_null, kl_int, kl_long]
      refine c_become isC83 isC25 (by decide) tX hV (fun T1 tX1 tf1 => ?_)
      simp (disch := omega) only [w47_28, w47_29, ht, hs, ↓neg_vM, ↓neg_vB, ↓neg_vS, ↓neg_vF, ↓neg_vO, ↓neg_vA, ↓neg_vN, lit_nI, nI_leI, nI_ltI, nI_eq, jm_in_nI, nI_clamp, nI_add, n_mul, pk_sub, n_le_t, n_le_f, n_lt_t, n_lt_f, n_eq_t, n_eq_f, true_and, and_true, ne_eq, not_false_eq_true, not_true_eq_false, min_n, max_n, dif_n, n_rem, n_div, or_nI, shl_nI, Option.toList_some, Option.toList_none, List.singleton_append, List.nil_append, if_true, if_false, or_true, true_or, or_false, false_or, and_false, false_and, Bool.false_eq_true, kl_null, kl_int, kl_long]
      exact key2 0 (Nat.zero_le _) T1 _ (by rw [slK_0]; exact tX1) (fun o ho => by rw [tf1 o ho, tf o ho])
  simp (disch := omega) only [cl47, w47_0, w47_1, w47_3, w47_4, ↓neg_vM, ↓neg_vB, ↓neg_vS, ↓neg_vF, ↓neg_vO, ↓neg_vA, ↓neg_vN, lit_nI, nI_leI, nI_ltI, nI_eq, jm_in_nI, nI_clamp, nI_add, n_mul, pk_sub, n_le_t, n_le_f, n_lt_t, n_lt_f, n_eq_t, n_eq_f, true_and, and_true, ne_eq, not_false_eq_true, not_true_eq_false, min_n, max_n, dif_n, n_rem, n_div, or_nI, shl_nI, Option.toList_some, Option.toList_none, List.singleton_append, List.nil_append, if_true, if_false, or_true, true_or, or_false, false_or, and_false, false_and, Bool.false_eq_true, lit_lN, kl_null, kl_int, kl_long]
  exact key 0 (Nat.zero_le _) S _ _ _ _ (fun o _ => rfl)
def slR (k : kT) (r n p w : Nat) : Nat := (if w = 0 then sH k r n p (2 ^ k 1) else 10 ^ k 1) / Nat.gcd (10 ^ k 1) (sH k r n p (2 ^ k 1))
theorem r_sleepE {a b w : Nat} {x0 x1 x2 x3 : Value} : ∀ y x z1 z2, x < 2 ^ 40 → y < 2 ^ 40 → Nat.gcd x y = Nat.gcd a b → (WQ L d 204 214 [x0, x1, x2, x3, .int (nI w), .long (lN a), .null, .long (lN b), .null, .long (lN x), .null, .long (lN y), .null, z1, z2] [] S Z ↔ WQ L d 204 239 [x0, x1, x2, x3, .int (nI w), .long (lN a), .null, .long (lN b), .null, .long (lN (Nat.gcd a b)), .null, .long (lN 0), .null, (if y = 0 then z1 else .long (lN 0)), (if y = 0 then z2 else .null)] [] S Z) := by
  intro y
  induction y using Nat.strongRecOn with
  | ind y ih =>
    intro x z1 z2 hx hy hgc
    rw [w204_214]
    by_cases h0 : y = 0
    · subst h0
      rw [Nat.gcd_zero_right] at hgc
      subst hgc
      simp (disch := omega) only [w204_216, w204_217, w204_218, ↓neg_vM, ↓neg_vB, ↓neg_vS, ↓neg_vF, ↓neg_vO, ↓neg_vA, ↓neg_vN, lit_nI, nI_leI, nI_ltI, nI_eq, jm_in_nI, nI_clamp, nI_add, n_mul, pk_sub, n_le_t, n_le_f, n_lt_t, n_lt_f, n_eq_t, n_eq_f, true_and, and_true, ne_eq, not_false_eq_true, not_true_eq_false, min_n, max_n, dif_n, n_rem, n_div, or_nI, shl_nI, Option.toList_some, Option.toList_none, List.singleton_append, List.nil_append, if_true, if_false, or_true, true_or, or_false, false_or, and_false, false_and, Bool.false_eq_true, lit_lN, lg_eq0]
    · have e : (lN y = lN 0) = False := eq_false (fun q => h0 ((pk_lEQ (by omega) (by decide)).mp q))
      have em : lN x - lN x / lN y * lN y = lN (x % y) := pk_lRem (by omega) (by omega) (by omega)
      have h1 := Nat.mod_lt x (show 0 < y by omega)
      simp (disch := omega) only [w204_216, w204_217, w204_218, w204_221, w204_223, w204_225, w204_226, w204_228, w204_230, w204_232, w204_234, w204_236, ↓neg_vM, ↓neg_vB, ↓neg_vS, ↓neg_vF, ↓neg_vO, ↓neg_vA, ↓neg_vN, lit_nI, nI_leI, nI_ltI, nI_eq, jm_in_nI, nI_clamp, nI_add, n_mul, pk_sub, n_le_t, n_le_f, n_lt_t, n_lt_f, n_eq_t, n_eq_f, true_and, and_true, ne_eq, not_false_eq_true, not_true_eq_false, min_n, max_n, dif_n, n_rem, n_div, or_nI, shl_nI, Option.toList_some, Option.toList_none, List.singleton_append, List.nil_append, if_true, if_false, or_true, true_or, or_false, false_or, and_false, false_and, Bool.false_eq_true, lit_lN, lg_eq0, e, em, kl_null, kl_int, kl_long]
      rw [ih (x % y) h1 y _ _ hy (by omega) (by rw [gcd_st]; exact hgc)]
      by_cases h2 : x % y = 0
      · rw [if_pos h2, if_pos h2, h2]
      · rw [if_neg h2, if_neg h2]
set_option maxHeartbeats 8000000 in
theorem r_sleep {r n p w : Nat} {T : jm_I2} {u9 u10 u11 u12 u13 u14 : Value} (hM : RM 132 T k) (hV : KV k) (h3 : k 3 ≤ 999) (hn : n ≤ 60) (hr : r < k 0) (hp : p ≤ 10) (hw : w ≤ 1) (hZ : ∀ U, (∀ o, o ≠ 134 → o ≠ 137 → o ≠ 138 → U o = T o) → Z (some (.long (lN (slR k r n p w)))) U) : WQ L (d + 9) 204 52 [.ref 128, .int (nI r), .int (nI n), .int (nI p), .int (nI w), .null, .null, .null, .null, u9, u10, u11, u12, u13, u14] [] T Z := by
  have hm := mod_sh L
  have v0 := hV.1
  have v1 := hV.2.1
  have hp32 := pow_le32 v1
  have key : ∀ i, i ≤ 2 ^ k 1 → ∀ T1 u10 u11 u12 u13 u14, (∀ o, o ≠ 134 → o ≠ 137 → o ≠ 138 → T1 o = T o) → WQ L (d + 9) 204 61 [.ref 128, .int (nI r), .int (nI n), .int (nI p), .int (nI w), .long (lN (sH k r n p i)), .null, .long (lN (sW p (k 1) i)), .null, .int (nI i), u10, u11, u12, u13, u14] [] T1 Z := by
    apply down_ind
    · intro T1 u10 u11 u12 u13 u14 tf
      have e1 : T1 132 1 = nI (k 1) := by rw [tf 132 (by decide) (by decide) (by decide)]; exact hM 1 (by decide)
      have e := hZ T1 tf
      have hsl := sH_le (r := r) (n := n) hp v1 (2 ^ k 1)
      have hal := sW_all (k 1) (by omega) p (by omega)
      have h10 := p10_le v1
      have h10p : 0 < 10 ^ k 1 := Nat.pow_pos (by decide)
      rw [hal]
      unfold slR at e
      rw [w204_61]
      generalize 10 ^ k 1 = B at h10 h10p e ⊢
      generalize sH k r n p (2 ^ k 1) = A at hsl e ⊢
      have hg : 0 < Nat.gcd A B := Nat.gcd_pos_of_pos_right _ h10p
      have hgl : Nat.gcd A B ≤ B := Nat.le_of_dvd h10p (Nat.gcd_dvd_right A B)
      rw [Nat.gcd_comm B A] at e
      simp (disch := omega) only [w204_63, w204_64, w204_65, w204_68, w204_69, w204_70, w204_71, w204_206, w204_208, w204_210, w204_212, hm, ↓neg_vM, ↓neg_vB, ↓neg_vS, ↓neg_vF, ↓neg_vO, ↓neg_vA, ↓neg_vN, lit_nI, nI_leI, nI_ltI, nI_eq, jm_in_nI, nI_clamp, nI_add, n_mul, pk_sub, n_le_t, n_le_f, n_lt_t, n_lt_f, n_eq_t, n_eq_f, true_and, and_true, ne_eq, not_false_eq_true, not_true_eq_false, min_n, max_n, dif_n, n_rem, n_div, or_nI, shl_nI, Option.toList_some, Option.toList_none, List.singleton_append, List.nil_append, if_true, if_false, or_true, true_or, or_false, false_or, and_false, false_and, Bool.false_eq_true, e1, lit_lN, kl_null, kl_int, kl_long]
      rw [r_sleepE (a := A) (b := B) (w := w) B A _ _ (by omega) (by omega) rfl]
      generalize Nat.gcd A B = G at hg hgl e ⊢
      have ne : (lN G = lN 0) = False := eq_false (fun q => by rw [pk_lEQ (by omega) (by decide)] at q; omega)
      have d1 : lN A / lN G = lN (A / G) := pk_lDiv (by omega) hg (by omega)
      have d2 : lN B / lN G = lN (B / G) := pk_lDiv (by omega) hg (by omega)
      by_cases c : w = 0
      · rw [if_pos c] at e
        simp (disch := omega) only [w204_239, w204_241, w204_244, w204_246, w204_249, w204_251, w204_253, w204_254, hm, ↓neg_vM, ↓neg_vB, ↓neg_vS, ↓neg_vF, ↓neg_vO, ↓neg_vA, ↓neg_vN, lit_nI, nI_leI, nI_ltI, nI_eq, jm_in_nI, nI_clamp, nI_add, n_mul, pk_sub, n_le_t, n_le_f, n_lt_t, n_lt_f, n_eq_t, n_eq_f, true_and, and_true, ne_eq, not_false_eq_true, not_true_eq_false, min_n, max_n, dif_n, n_rem, n_div, or_nI, shl_nI, Option.toList_some, Option.toList_none, List.singleton_append, List.nil_append, if_true, if_false, or_true, true_or, or_false, false_or, and_false, false_and, Bool.false_eq_true, lit_lN, c, ne, d1, d2]
        exact e
      · rw [if_neg c] at e
        simp (disch := omega) only [w204_239, w204_241, w204_244, w204_246, w204_249, w204_251, w204_253, w204_254, hm, ↓neg_vM, ↓neg_vB, ↓neg_vS, ↓neg_vF, ↓neg_vO, ↓neg_vA, ↓neg_vN, lit_nI, nI_leI, nI_ltI, nI_eq, jm_in_nI, nI_clamp, nI_add, n_mul, pk_sub, n_le_t, n_le_f, n_lt_t, n_lt_f, n_eq_t, n_eq_f, true_and, and_true, ne_eq, not_false_eq_true, not_true_eq_false, min_n, max_n, dif_n, n_rem, n_div, or_nI, shl_nI, Option.toList_some, Option.toList_none, List.singleton_append, List.nil_append, if_true, if_false, or_true, true_or, or_false, false_or, and_false, false_and, Bool.false_eq_true, lit_lN, c, ne, d1, d2]
        exact e
    · intro i hi ih T1 u10 u11 u12 u13 u14 tf
      have e1 : T1 132 1 = nI (k 1) := by rw [tf 132 (by decide) (by decide) (by decide)]; exact hM 1 (by decide)
      have tM : RM 132 T1 k := RM_of hM (tf 132 (by decide) (by decide) (by decide))
      have key2 : ∀ h, h ≤ k 1 → ∀ T2, RM 134 T2 (slK k i h) → (∀ o, o ≠ 134 → T2 o = T1 o) → WQ L (d + 9) 204 84 [.ref 128, .int (nI r), .int (nI n), .int (nI p), .int (nI w), .long (lN (sH k r n p i)), .null, .long (lN (sW p (k 1) i)), .null, .int (nI i), .long (lN (wy p i h)), .null, .int (nI h), u13, u14] [] T2 Z := by
        apply down_ind
        · intro T2 tM2 tf2
          have y1 : T2 132 1 = nI (k 1) := by rw [tf2 132 (by decide)]; exact e1
          have p3 : slK k i (k 1) 3 = k 3 := slK_low _ _ _ (by omega)
          have p0 : slK k i (k 1) 0 = k 0 := slK_low _ _ _ (by omega)
          rw [w204_84]
          simp (disch := omega) only [w204_86, w204_87, w204_90, w204_91, w204_92, w204_161, w204_162, w204_163, w204_166, w204_167, hm, ↓neg_vM, ↓neg_vB, ↓neg_vS, ↓neg_vF, ↓neg_vO, ↓neg_vA, ↓neg_vN, lit_nI, nI_leI, nI_ltI, nI_eq, jm_in_nI, nI_clamp, nI_add, n_mul, pk_sub, n_le_t, n_le_f, n_lt_t, n_lt_f, n_eq_t, n_eq_f, true_and, and_true, ne_eq, not_false_eq_true, not_true_eq_false, min_n, max_n, dif_n, n_rem, n_div, or_nI, shl_nI, Option.toList_some, Option.toList_none, List.singleton_append, List.nil_append, if_true, if_false, or_true, true_or, or_false, false_or, and_false, false_and, Bool.false_eq_true, y1]
          refine r_hoursOf isR134 tM2 (KV_sl hV i (k 1)) (by rw [p3]; omega) (fun U uM uf => ?_)
          have hVn := KV_hours (KV_sl hV i (k 1)) n (by rw [p3]; omega)
          have b3 := (hVn.2.2.2.2.2 r (by rw [(hoursA_low _ n).1, p0]; exact hr)).2.2.1
          have e := ih U (.long (lN (wy p i (k 1)))) .null (.int (nI (k 1))) u13 u14 (fun o a b c => by rw [uf o a b c, tf2 o a, tf o a b c])
          rw [sH, sW] at e
          by_cases c2 : 0 < kBt (hoursA (slK k i (k 1)) n) r
          · have e2 : sQ k r n i = true := by unfold sQ; simp [c2]
            rw [if_pos e2] at e
            simp (disch := omega) only [w204_170, w204_172, w204_174, w204_175, w204_177, w204_179, w204_180, w204_183, w204_184, w204_185, w204_188, w204_191, w204_193, w204_196, w204_197, w204_198, w204_200, w204_203, hm, ↓neg_vM, ↓neg_vB, ↓neg_vS, ↓neg_vF, ↓neg_vO, ↓neg_vA, ↓neg_vN, lit_nI, nI_leI, nI_ltI, nI_eq, jm_in_nI, nI_clamp, nI_add, n_mul, pk_sub, n_le_t, n_le_f, n_lt_t, n_lt_f, n_eq_t, n_eq_f, true_and, and_true, ne_eq, not_false_eq_true, not_true_eq_false, min_n, max_n, dif_n, n_rem, n_div, or_nI, shl_nI, Option.toList_some, Option.toList_none, List.singleton_append, List.nil_append, if_true, if_false, or_true, true_or, or_false, false_or, and_false, false_and, Bool.false_eq_true, r_of1 isR134 uM, lit_lN, lN_add, kl_null, kl_int, kl_long]
            exact e
          · have e2 : sQ k r n i = false := by unfold sQ; simp [c2]
            rw [if_neg (by rw [e2]; decide)] at e
            simp (disch := omega) only [w204_170, w204_172, w204_174, w204_175, w204_177, w204_179, w204_180, w204_183, w204_184, w204_185, w204_188, w204_191, w204_193, w204_196, w204_197, w204_198, w204_200, w204_203, hm, ↓neg_vM, ↓neg_vB, ↓neg_vS, ↓neg_vF, ↓neg_vO, ↓neg_vA, ↓neg_vN, lit_nI, nI_leI, nI_ltI, nI_eq, jm_in_nI, nI_clamp, nI_add, n_mul, pk_sub, n_le_t, n_le_f, n_lt_t, n_lt_f, n_eq_t, n_eq_f, true_and, and_true, ne_eq, not_false_eq_true, not_true_eq_false, min_n, max_n, dif_n, n_rem, n_div, or_nI, shl_nI, Option.toList_some, Option.toList_none, List.singleton_append, List.nil_append, if_true, if_false, or_true, true_or, or_false, false_or, and_false, false_and, Bool.false_eq_true, r_of1 isR134 uM, lit_lN, lN_add, kl_null, kl_int, kl_long]
            exact e
        · intro h hh ih2 T2 tM2 tf2
          have y1 : T2 132 1 = nI (k 1) := by rw [tf2 132 (by decide)]; exact e1
          have tM3 : RM 132 T2 k := RM_of tM (tf2 132 (by decide))
          rw [w204_84]
          by_cases c : i.testBit h = true
          · have e := fun T x y => ih2 T x y
            rw [wy, if_pos c] at e
            simp (disch := omega) only [w204_86, w204_87, w204_90, w204_91, w204_92, w204_95, w204_97, w204_99, w204_101, w204_104, w204_107, w204_108, w204_109, w204_112, w204_115, w204_116, w204_117, w204_118, w204_119, w204_121, w204_122, w204_125, w204_126, w204_127, w204_129, w204_130, w204_131, w204_133, w204_135, w204_138, w204_141, w204_142, w204_145, w204_146, w204_149, w204_151, w204_154, w204_155, w204_158, hm, ↓neg_vM, ↓neg_vB, ↓neg_vS, ↓neg_vF, ↓neg_vO, ↓neg_vA, ↓neg_vN, lit_nI, nI_leI, nI_ltI, nI_eq, jm_in_nI, nI_clamp, nI_add, n_mul, pk_sub, n_le_t, n_le_f, n_lt_t, n_lt_f, n_eq_t, n_eq_f, true_and, and_true, ne_eq, not_false_eq_true, not_true_eq_false, min_n, max_n, dif_n, n_rem, n_div, or_nI, shl_nI, Option.toList_some, Option.toList_none, List.singleton_append, List.nil_append, if_true, if_false, or_true, true_or, or_false, false_or, and_false, false_and, Bool.false_eq_true, y1, r_has, c, lit_lN, nI_l, lN_mul, kl_null, kl_int, kl_long]
            refine e _ ?_ (fun o ho => by rw [upd_ne ho, tf2 o ho])
            rw [slK_S _ _ (by omega), if_pos c]
            exact RM_upd tM2
          · have e := fun T x y => ih2 T x y
            rw [wy, if_neg c] at e
            simp (disch := omega) only [w204_86, w204_87, w204_90, w204_91, w204_92, w204_95, w204_97, w204_99, w204_101, w204_104, w204_107, w204_108, w204_109, w204_112, w204_115, w204_116, w204_117, w204_118, w204_119, w204_121, w204_122, w204_125, w204_126, w204_127, w204_129, w204_130, w204_131, w204_133, w204_135, w204_138, w204_141, w204_142, w204_145, w204_146, w204_149, w204_151, w204_154, w204_155, w204_158, hm, ↓neg_vM, ↓neg_vB, ↓neg_vS, ↓neg_vF, ↓neg_vO, ↓neg_vA, ↓neg_vN, lit_nI, nI_leI, nI_ltI, nI_eq, jm_in_nI, nI_clamp, nI_add, n_mul, pk_sub, n_le_t, n_le_f, n_lt_t, n_lt_f, n_eq_t, n_eq_f, true_and, and_true, ne_eq, not_false_eq_true, not_true_eq_false, min_n, max_n, dif_n, n_rem, n_div, or_nI, shl_nI, Option.toList_some, Option.toList_none, List.singleton_append, List.nil_append, if_true, if_false, or_true, true_or, or_false, false_or, and_false, false_and, Bool.false_eq_true, y1, r_has, c, lit_lN, nI_l, lN_sub, lN_mul, r_strength isR132 tM3, kl_null, kl_int, kl_long]
            refine e _ ?_ (fun o ho => by rw [upd_ne ho, tf2 o ho])
            rw [slK_S _ _ (by omega), if_neg c]
            exact RM_upd tM2
      rw [w204_61]
      simp (disch := omega) only [w204_63, w204_64, w204_65, w204_68, w204_69, w204_70, w204_71, w204_74, w204_75, w204_77, w204_78, w204_81, w204_82, hm, ↓neg_vM, ↓neg_vB, ↓neg_vS, ↓neg_vF, ↓neg_vO, ↓neg_vA, ↓neg_vN, lit_nI, nI_leI, nI_ltI, nI_eq, jm_in_nI, nI_clamp, nI_add, n_mul, pk_sub, n_le_t, n_le_f, n_lt_t, n_lt_f, n_eq_t, n_eq_f, true_and, and_true, ne_eq, not_false_eq_true, not_true_eq_false, min_n, max_n, dif_n, n_rem, n_div, or_nI, shl_nI, Option.toList_some, Option.toList_none, List.singleton_append, List.nil_append, if_true, if_false, or_true, true_or, or_false, false_or, and_false, false_and, Bool.false_eq_true, e1, lit_lN, r_layThen tM, kl_null, kl_int, kl_long]
      exact key2 0 (Nat.zero_le _) _ (by rw [slK_0]; exact RM_fill) (fun o ho => fillS_ne ho)
  simp (disch := omega) only [w204_52, w204_53, w204_55, w204_56, w204_58, w204_59, ↓neg_vM, ↓neg_vB, ↓neg_vS, ↓neg_vF, ↓neg_vO, ↓neg_vA, ↓neg_vN, lit_nI, nI_leI, nI_ltI, nI_eq, jm_in_nI, nI_clamp, nI_add, n_mul, pk_sub, n_le_t, n_le_f, n_lt_t, n_lt_f, n_eq_t, n_eq_f, true_and, and_true, ne_eq, not_false_eq_true, not_true_eq_false, min_n, max_n, dif_n, n_rem, n_div, or_nI, shl_nI, Option.toList_some, Option.toList_none, List.singleton_append, List.nil_append, if_true, if_false, or_true, true_or, or_false, false_or, and_false, false_and, Bool.false_eq_true, lit_lN, kl_null, kl_int, kl_long]
  exact key 0 (Nat.zero_le _) T _ _ _ _ _ (fun o _ _ _ => rfl)
set_option maxHeartbeats 8000000 in
theorem p_sleep {v w p q : Int32} (hI : InvK xs S k) : CL L (d + 9) 107 [.ref 0, .int v, .int w, .int p, .int q] S (ZxL xs L (d + 9) 204 [.ref 128, .int v, .int w, .int p, .int q]) := by
  have ht := top_sh L
  have hm := mod_sh L
  obtain ⟨hX, hM, hV, h999, h01⟩ := hI.2.2.2.1
  have hM4 : RM 132 (jm_upd S 128 0 (nI 0)) k := RM_of hM (upd_ne (by decide))
  have v0 := hV.1
  have v1 := hV.2.1
  have hp32 := pow_le32 v1
  by_cases h : isN v (k 0) = true
  · by_cases h2 : nI 0 ≤ w ∧ w ≤ nI 60
    · by_cases h3 : nI 0 ≤ p ∧ p ≤ nI 10
      · by_cases h4 : nI 0 ≤ q ∧ q ≤ nI 1
        · obtain ⟨r, hr, rfl⟩ := isN_of (by omega) h
          obtain ⟨n, -, hn, rfl⟩ := btw (by decide) h2 (by decide)
          obtain ⟨c, -, hc, rfl⟩ := btw (by decide) h3 (by decide)
          obtain ⟨w, -, hw, rfl⟩ := btw (by decide) h4 (by decide)
          clear h2 h3 h4
          have hsl := sH_le (r := r) (n := n) hc v1 (2 ^ k 1)
          have h10 := p10_le v1
          have h10p : 0 < 10 ^ k 1 := Nat.pow_pos (by decide)
          have fin : ∀ U, Inv xs U → ZmL xs (lN (slR k r n c w)) (some (.long (lN (slR k r n c w)))) U := fun U hU => ⟨rfl, hU⟩
          simp (disch := omega) only [cl107, w107_0, w107_1, w107_2, w107_5, w107_8, w107_9, w107_10, w107_12, w107_15, w107_18, w107_19, w107_20, w107_22, w107_25, w107_28, w107_30, w107_31, w107_32, w107_35, w107_38, w107_41, w107_42, w107_43, w107_46, w107_47, w107_50, ht, ↓neg_vM, ↓neg_vB, ↓neg_vS, ↓neg_vF, ↓neg_vO, ↓neg_vA, ↓neg_vN, lit_nI, nI_leI, nI_ltI, nI_eq, jm_in_nI, nI_clamp, nI_add, n_mul, pk_sub, n_le_t, n_le_f, n_lt_t, n_lt_f, n_eq_t, n_eq_f, true_and, and_true, ne_eq, not_false_eq_true, not_true_eq_false, min_n, max_n, dif_n, n_rem, n_div, or_nI, shl_nI, Option.toList_some, Option.toList_none, List.singleton_append, List.nil_append, if_true, if_false, or_true, true_or, or_false, false_or, and_false, false_and, Bool.false_eq_true, c_noRule hX hV, h, c_withinP, c_allCases hX hV]
          simp (disch := omega) only [w107_53, w107_55, w107_56, w107_59, w107_60, w107_63, w107_64, w107_65, w107_66, ht, ↓neg_vM, ↓neg_vB, ↓neg_vS, ↓neg_vF, ↓neg_vO, ↓neg_vA, ↓neg_vN, lit_nI, nI_leI, nI_ltI, nI_eq, jm_in_nI, nI_clamp, nI_add, n_mul, pk_sub, n_le_t, n_le_f, n_lt_t, n_lt_f, n_eq_t, n_eq_f, true_and, and_true, ne_eq, not_false_eq_true, not_true_eq_false, min_n, max_n, dif_n, n_rem, n_div, or_nI, shl_nI, Option.toList_some, Option.toList_none, List.singleton_append, List.nil_append, if_true, if_false, or_true, true_or, or_false, false_or, and_false, false_and, Bool.false_eq_true, kl_null, kl_int, kl_long]
          refine c_casesHolding hX hV (h01 (by omega)) h999 hn hr hc (fun T tf => ?_)
          simp (disch := omega) only [w107_69, w107_71, w107_73, w107_75, ht, ↓neg_vM, ↓neg_vB, ↓neg_vS, ↓neg_vF, ↓neg_vO, ↓neg_vA, ↓neg_vN, lit_nI, nI_leI, nI_ltI, nI_eq, jm_in_nI, nI_clamp, nI_add, n_mul, pk_sub, n_le_t, n_le_f, n_lt_t, n_lt_f, n_eq_t, n_eq_f, true_and, and_true, ne_eq, not_false_eq_true, not_true_eq_false, min_n, max_n, dif_n, n_rem, n_div, or_nI, shl_nI, Option.toList_some, Option.toList_none, List.singleton_append, List.nil_append, if_true, if_false, or_true, true_or, or_false, false_or, and_false, false_and, Bool.false_eq_true, kl_null, kl_int, kl_long]
          rw [c_gcd (by omega) (by omega)]
          have hg : 0 < Nat.gcd (10 ^ k 1) (sH k r n c (2 ^ k 1)) := Nat.gcd_pos_of_pos_left _ h10p
          have hgl : Nat.gcd (10 ^ k 1) (sH k r n c (2 ^ k 1)) ≤ 10 ^ k 1 := Nat.le_of_dvd h10p (Nat.gcd_dvd_left _ _)
          have hM5 : RM 132 (jm_upd T 128 0 (nI 0)) k := RM_of hM (by rw [upd_ne (by decide), tf _ (by decide)])
          have R : CL L (d + 9) 204 [.ref 128, .int (nI r), .int (nI n), .int (nI c), .int (nI w)] T (ZmL xs (lN (slR k r n c w))) := by
            simp (disch := omega) only [cl204, w204_0, w204_1, w204_2, w204_5, w204_6, w204_7, w204_10, w204_13, w204_14, w204_15, w204_16, w204_19, w204_22, w204_25, w204_26, w204_27, w204_28, w204_31, w204_34, w204_37, w204_39, w204_40, w204_41, w204_42, w204_45, w204_48, w204_51, hm, ↓neg_vM, ↓neg_vB, ↓neg_vS, ↓neg_vF, ↓neg_vO, ↓neg_vA, ↓neg_vN, lit_nI, nI_leI, nI_ltI, nI_eq, jm_in_nI, nI_clamp, nI_add, n_mul, pk_sub, n_le_t, n_le_f, n_lt_t, n_lt_f, n_eq_t, n_eq_f, true_and, and_true, ne_eq, not_false_eq_true, not_true_eq_false, min_n, max_n, dif_n, n_rem, n_div, or_nI, shl_nI, Option.toList_some, Option.toList_none, List.singleton_append, List.nil_append, if_true, if_false, or_true, true_or, or_false, false_or, and_false, false_and, Bool.false_eq_true, r_isRule hM5 v0, h, lit_lN, nI_l, r_in, lN_le]
            refine r_sleep hM5 hV h999 hn hr hc hw (fun U uf => ?_)
            refine fin U ⟨k, InvK_same hI (Same_q (fun o ho h1 => ?_) (fun i hi => ?_))⟩
            · unfold scr at ho
              rw [uf o (by omega) (by omega) (by omega), upd_ne h1, tf o (by omega)]
            · rw [uf 128 (by omega) (by omega) (by omega), upd_at, if_neg (fun q => hi q.2), tf 128 (by omega)]
          unfold slR at R
          generalize sH k r n c (2 ^ k 1) = A at hsl hg hgl R ⊢
          generalize 10 ^ k 1 = B at h10 h10p hg hgl R ⊢
          generalize Nat.gcd B A = G at hg hgl R ⊢
          have ne : (lN G = lN 0) = False := eq_false (fun q => by rw [pk_lEQ (by omega) (by decide)] at q; omega)
          have d1 : lN A / lN G = lN (A / G) := pk_lDiv (by omega) hg (by omega)
          have d2 : lN B / lN G = lN (B / G) := pk_lDiv (by omega) hg (by omega)
          by_cases cw : w = 0
          · rw [if_pos cw] at R
            subst cw
            simp (disch := omega) only [w107_78, w107_80, w107_82, w107_83, w107_84, w107_87, w107_90, w107_91, w107_93, w107_96, w107_98, w107_100, w107_101, w107_104, w107_106, w107_108, w107_109, ht, ↓neg_vM, ↓neg_vB, ↓neg_vS, ↓neg_vF, ↓neg_vO, ↓neg_vA, ↓neg_vN, lit_nI, nI_leI, nI_ltI, nI_eq, jm_in_nI, nI_clamp, nI_add, n_mul, pk_sub, n_le_t, n_le_f, n_lt_t, n_lt_f, n_eq_t, n_eq_f, true_and, and_true, ne_eq, not_false_eq_true, not_true_eq_false, min_n, max_n, dif_n, n_rem, n_div, or_nI, shl_nI, Option.toList_some, Option.toList_none, List.singleton_append, List.nil_append, if_true, if_false, or_true, true_or, or_false, false_or, and_false, false_and, Bool.false_eq_true, lit_lN, lg_ge, lN_lt, ne, d1, d2, ZxL_some, kl_null, kl_int, kl_long]
            exact R
          · rw [if_neg cw] at R
            simp (disch := omega) only [w107_78, w107_80, w107_82, w107_83, w107_84, w107_87, w107_90, w107_91, w107_93, w107_96, w107_98, w107_100, w107_101, w107_104, w107_106, w107_108, w107_109, ht, ↓neg_vM, ↓neg_vB, ↓neg_vS, ↓neg_vF, ↓neg_vO, ↓neg_vA, ↓neg_vN, lit_nI, nI_leI, nI_ltI, nI_eq, jm_in_nI, nI_clamp, nI_add, n_mul, pk_sub, n_le_t, n_le_f, n_lt_t, n_lt_f, n_eq_t, n_eq_f, true_and, and_true, ne_eq, not_false_eq_true, not_true_eq_false, min_n, max_n, dif_n, n_rem, n_div, or_nI, shl_nI, Option.toList_some, Option.toList_none, List.singleton_append, List.nil_append, if_true, if_false, or_true, true_or, or_false, false_or, and_false, false_and, Bool.false_eq_true, lit_lN, lg_ge, lN_lt, ne, d1, d2, cw, ZxL_some, kl_null, kl_int, kl_long]
            exact R
        · simp (disch := omega) only [w107_0, w107_1, w107_2, w107_5, w107_8, w107_9, w107_10, w107_12, w107_15, w107_18, w107_19, w107_20, w107_22, w107_25, w107_28, w107_30, w107_31, w107_32, w107_35, w107_38, w107_41, cl107, ht, ↓neg_vM, ↓neg_vB, ↓neg_vS, ↓neg_vF, ↓neg_vO, ↓neg_vA, ↓neg_vN, lit_nI, nI_leI, nI_ltI, nI_eq, jm_in_nI, nI_clamp, nI_add, n_mul, pk_sub, n_le_t, n_le_f, n_lt_t, n_lt_f, n_eq_t, n_eq_f, true_and, and_true, ne_eq, not_false_eq_true, not_true_eq_false, min_n, max_n, dif_n, n_rem, n_div, or_nI, shl_nI, Option.toList_some, Option.toList_none, List.singleton_append, List.nil_append, if_true, if_false, or_true, true_or, or_false, false_or, and_false, false_and, Bool.false_eq_true, ↓neg_vBl, ZxL_some, c_noRule hX hV, h, c_withinP, h2, h3, h4]
          simp (disch := omega) only [w204_0, w204_1, w204_2, w204_5, w204_6, w204_7, w204_10, w204_13, w204_14, w204_15, w204_16, w204_19, w204_22, w204_25, w204_26, w204_27, w204_28, w204_31, w204_34, w204_37, w204_39, w204_40, w204_41, w204_42, w204_45, w204_48, w204_51, cl204, hm, ↓neg_vM, ↓neg_vB, ↓neg_vS, ↓neg_vF, ↓neg_vO, ↓neg_vA, ↓neg_vN, lit_nI, nI_leI, nI_ltI, nI_eq, jm_in_nI, nI_clamp, nI_add, n_mul, pk_sub, n_le_t, n_le_f, n_lt_t, n_lt_f, n_eq_t, n_eq_f, true_and, and_true, ne_eq, not_false_eq_true, not_true_eq_false, min_n, max_n, dif_n, n_rem, n_div, or_nI, shl_nI, Option.toList_some, Option.toList_none, List.singleton_append, List.nil_append, if_true, if_false, or_true, true_or, or_false, false_or, and_false, false_and, Bool.false_eq_true, ↓neg_vBl, ZmL_some, r_isRule hM4 v0, h, lit_lN, r_in, lx_le, xl_le, h2, h3, h4]
          exact ⟨k, InvK_same hI Same_thrown⟩
      · simp (disch := omega) only [w107_0, w107_1, w107_2, w107_5, w107_8, w107_9, w107_10, w107_12, w107_15, w107_18, w107_19, w107_20, w107_22, w107_25, w107_28, w107_30, w107_31, w107_32, w107_35, w107_38, w107_41, cl107, ht, ↓neg_vM, ↓neg_vB, ↓neg_vS, ↓neg_vF, ↓neg_vO, ↓neg_vA, ↓neg_vN, lit_nI, nI_leI, nI_ltI, nI_eq, jm_in_nI, nI_clamp, nI_add, n_mul, pk_sub, n_le_t, n_le_f, n_lt_t, n_lt_f, n_eq_t, n_eq_f, true_and, and_true, ne_eq, not_false_eq_true, not_true_eq_false, min_n, max_n, dif_n, n_rem, n_div, or_nI, shl_nI, Option.toList_some, Option.toList_none, List.singleton_append, List.nil_append, if_true, if_false, or_true, true_or, or_false, false_or, and_false, false_and, Bool.false_eq_true, ↓neg_vBl, ZxL_some, c_noRule hX hV, h, c_withinP, h2, h3]
        simp (disch := omega) only [w204_0, w204_1, w204_2, w204_5, w204_6, w204_7, w204_10, w204_13, w204_14, w204_15, w204_16, w204_19, w204_22, w204_25, w204_26, w204_27, w204_28, w204_31, w204_34, w204_37, w204_39, w204_40, w204_41, w204_42, w204_45, w204_48, w204_51, cl204, hm, ↓neg_vM, ↓neg_vB, ↓neg_vS, ↓neg_vF, ↓neg_vO, ↓neg_vA, ↓neg_vN, lit_nI, nI_leI, nI_ltI, nI_eq, jm_in_nI, nI_clamp, nI_add, n_mul, pk_sub, n_le_t, n_le_f, n_lt_t, n_lt_f, n_eq_t, n_eq_f, true_and, and_true, ne_eq, not_false_eq_true, not_true_eq_false, min_n, max_n, dif_n, n_rem, n_div, or_nI, shl_nI, Option.toList_some, Option.toList_none, List.singleton_append, List.nil_append, if_true, if_false, or_true, true_or, or_false, false_or, and_false, false_and, Bool.false_eq_true, ↓neg_vBl, ZmL_some, r_isRule hM4 v0, h, lit_lN, r_in, lx_le, xl_le, h2, h3]
        exact ⟨k, InvK_same hI Same_thrown⟩
    · simp (disch := omega) only [w107_0, w107_1, w107_2, w107_5, w107_8, w107_9, w107_10, w107_12, w107_15, w107_18, w107_19, w107_20, w107_22, w107_25, w107_28, w107_30, w107_31, w107_32, w107_35, w107_38, w107_41, cl107, ht, ↓neg_vM, ↓neg_vB, ↓neg_vS, ↓neg_vF, ↓neg_vO, ↓neg_vA, ↓neg_vN, lit_nI, nI_leI, nI_ltI, nI_eq, jm_in_nI, nI_clamp, nI_add, n_mul, pk_sub, n_le_t, n_le_f, n_lt_t, n_lt_f, n_eq_t, n_eq_f, true_and, and_true, ne_eq, not_false_eq_true, not_true_eq_false, min_n, max_n, dif_n, n_rem, n_div, or_nI, shl_nI, Option.toList_some, Option.toList_none, List.singleton_append, List.nil_append, if_true, if_false, or_true, true_or, or_false, false_or, and_false, false_and, Bool.false_eq_true, ↓neg_vBl, ZxL_some, c_noRule hX hV, h, c_withinP, h2]
      simp (disch := omega) only [w204_0, w204_1, w204_2, w204_5, w204_6, w204_7, w204_10, w204_13, w204_14, w204_15, w204_16, w204_19, w204_22, w204_25, w204_26, w204_27, w204_28, w204_31, w204_34, w204_37, w204_39, w204_40, w204_41, w204_42, w204_45, w204_48, w204_51, cl204, hm, ↓neg_vM, ↓neg_vB, ↓neg_vS, ↓neg_vF, ↓neg_vO, ↓neg_vA, ↓neg_vN, lit_nI, nI_leI, nI_ltI, nI_eq, jm_in_nI, nI_clamp, nI_add, n_mul, pk_sub, n_le_t, n_le_f, n_lt_t, n_lt_f, n_eq_t, n_eq_f, true_and, and_true, ne_eq, not_false_eq_true, not_true_eq_false, min_n, max_n, dif_n, n_rem, n_div, or_nI, shl_nI, Option.toList_some, Option.toList_none, List.singleton_append, List.nil_append, if_true, if_false, or_true, true_or, or_false, false_or, and_false, false_and, Bool.false_eq_true, ↓neg_vBl, ZmL_some, r_isRule hM4 v0, h, lit_lN, r_in, lx_le, xl_le, h2]
      exact ⟨k, InvK_same hI Same_thrown⟩
  · simp (disch := omega) only [w107_0, w107_1, w107_2, w107_5, w107_8, w107_9, w107_10, w107_12, w107_15, w107_18, w107_19, w107_20, w107_22, w107_25, w107_28, w107_30, w107_31, w107_32, w107_35, w107_38, w107_41, cl107, ht, ↓neg_vM, ↓neg_vB, ↓neg_vS, ↓neg_vF, ↓neg_vO, ↓neg_vA, ↓neg_vN, lit_nI, nI_leI, nI_ltI, nI_eq, jm_in_nI, nI_clamp, nI_add, n_mul, pk_sub, n_le_t, n_le_f, n_lt_t, n_lt_f, n_eq_t, n_eq_f, true_and, and_true, ne_eq, not_false_eq_true, not_true_eq_false, min_n, max_n, dif_n, n_rem, n_div, or_nI, shl_nI, Option.toList_some, Option.toList_none, List.singleton_append, List.nil_append, if_true, if_false, or_true, true_or, or_false, false_or, and_false, false_and, Bool.false_eq_true, ↓neg_vBl, ZxL_some, c_noRule hX hV, h]
    simp (disch := omega) only [w204_0, w204_1, w204_2, w204_5, w204_6, w204_7, w204_10, w204_13, w204_14, w204_15, w204_16, w204_19, w204_22, w204_25, w204_26, w204_27, w204_28, w204_31, w204_34, w204_37, w204_39, w204_40, w204_41, w204_42, w204_45, w204_48, w204_51, cl204, hm, ↓neg_vM, ↓neg_vB, ↓neg_vS, ↓neg_vF, ↓neg_vO, ↓neg_vA, ↓neg_vN, lit_nI, nI_leI, nI_ltI, nI_eq, jm_in_nI, nI_clamp, nI_add, n_mul, pk_sub, n_le_t, n_le_f, n_lt_t, n_lt_f, n_eq_t, n_eq_f, true_and, and_true, ne_eq, not_false_eq_true, not_true_eq_false, min_n, max_n, dif_n, n_rem, n_div, or_nI, shl_nI, Option.toList_some, Option.toList_none, List.singleton_append, List.nil_append, if_true, if_false, or_true, true_or, or_false, false_or, and_false, false_and, Bool.false_eq_true, ↓neg_vBl, ZmL_some, r_isRule hM4 v0, h]
    exact ⟨k, InvK_same hI Same_thrown⟩
end
