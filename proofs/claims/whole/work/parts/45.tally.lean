section
variable {L d : Nat} {Z : Option Value → jm_I2 → Prop}
theorem fill_loop {a n : Nat} {v : Int32} (hn : n < 10000) (hlw : jm_lw 9 a = n) : ∀ (m i : Nat) (S : jm_I2), i + m = n → (WQ L d 222 5 [.ref a, .int v, .int (nI i), .int (nI n)] [] S Z ↔ Z none (jm_row S a (fun k => if i ≤ k ∧ k < n then v else S a k)))
  | 0, i, S, h => by
    have e : jm_row S a (fun k => if i ≤ k ∧ k < n then v else S a k) = S := by
      funext o k
      rw [row_at]
      by_cases ho : o = a
      · rw [if_pos ho, if_neg (by omega), ho]
      · rw [if_neg ho]
    rw [e, w222_5]
    simp only [w222_6, w222_7, w222_10, w222_11, w222_12, w222_13, w222_14, w222_17, w222_20]
    simp (disch := omega) only [nI_leI, show n ≤ i by omega, if_true]
  | m + 1, i, S, h => by
    have ih := fill_loop (v := v) hn hlw m (i + 1) (jm_upd S a i v) (by omega)
    rw [w222_5]
    simp only [w222_6, w222_7, w222_10, w222_11, w222_12, w222_13, w222_14, w222_17, w222_20]
    simp (disch := omega) only [lit_nI, nI_leI, show ¬ n ≤ i by omega, if_false, hlw, jm_in_nI, nI_clamp, nI_add, show i < n by omega, true_and, ih]
    have e : jm_row (jm_upd S a i v) a (fun k => if i + 1 ≤ k ∧ k < n then v else jm_upd S a i v a k) = jm_row S a (fun k => if i ≤ k ∧ k < n then v else S a k) := by
      funext o k
      rw [row_at, row_at, upd_at, upd_at]
      by_cases ho : o = a
      · subst ho
        by_cases hk : k = i
        · subst hk
          simp [show k < n by omega]
        · by_cases hk2 : i ≤ k ∧ k < n
          · simp [hk2, show i + 1 ≤ k by omega]
          · have : ¬ (i + 1 ≤ k ∧ k < n) := by omega
            simp [hk, hk2, this]
      · simp [ho]
    rw [e]
theorem c_fill {a n : Nat} {v : Int32} {S : jm_I2} (hn : n < 10000) (hlw : jm_lw 9 a = n) (hla : jm_la L a = n) (hha : jm_ha L a = true) : CL L d 222 [.ref a, .int v] S Z ↔ Z none (jm_row S a (fun k => if k < n then v else S a k)) := by
  simp only [w222_0, w222_1, w222_2, w222_3, w222_4, cl222, hla, hha, true_and, lit_nI, fill_loop hn hlw n 0 S (by omega), Nat.zero_le]
/-! ===== tally ===== -/
def kSg (k : kT) (r x : Nat) : Bool := decide (r < k 0) && decide (kKd k r < 4) && decide (kPl k x = r + 1) && decide (0 < kSt k x)
def kGs (k : kT) (r : Nat) : Nat → Nat
  | 0 => 0
  | n + 1 => kGs k r n + (if kSg k r n then kWt k n else 0)
def kSb (k : kT) (x : Nat) : Nat := if kSg k (kPl k x - 1) x then 2 ^ (kPl k x - 1) else 0
def tI1 (c : Nat) (S : jm_I2) (k : kT) (h : Nat) (T : jm_I2) : Prop := (∀ o, o ≠ c + 7 → o ≠ c + 8 → o ≠ c + 9 → T o = S o) ∧ (∀ r, r < 5 → T (c + 7) r = nI (bset (kSg k r) h) ∧ T (c + 9) r = nI (kGs k r h)) ∧ (∀ g, g < 5 → T (c + 8) g = nI (if g < h then kSb k g else 0))
theorem or_pow {a h : Nat} (ha : a < 2 ^ h) : a ||| 2 ^ h = a + 2 ^ h := by
  rw [Nat.or_comm, Nat.add_comm]
  have := Nat.two_pow_add_eq_or_of_lt ha 1
  rw [Nat.mul_one] at this
  exact this.symm
theorem kSg_no {k : kT} {r x : Nat} (h : kPl k x ≠ r + 1) : kSg k r x = false := by simp [kSg, h]
theorem ite10 {P : Prop} [Decidable P] : ((if P then (1 : Int32) else 0) = 0) ↔ ¬ P := by
  by_cases h : P <;> simp [h]
theorem tI1_skip {c h : Nat} {S T : jm_I2} {k : kT} (hI : tI1 c S k h T) (hs : ∀ r, r < 5 → kSg k r h = false) (hb : kSb k h = 0) : tI1 c S k (h + 1) T := by
  obtain ⟨i1, i2, i3⟩ := hI
  refine ⟨i1, fun r hr => ?_, fun g hg => ?_⟩
  · rw [(i2 r hr).1, (i2 r hr).2, bset, kGs, hs r hr]
    exact ⟨rfl, rfl⟩
  · rw [i3 g hg]
    by_cases e : g = h
    · subst e
      simp [hb]
    · by_cases e2 : g < h
      · simp [e2, Nat.lt_succ_of_lt e2]
      · simp [e2, show ¬ g < h + 1 by omega]
theorem tI1_add {c h p : Nat} {S T : jm_I2} {k : kT} (hI : tI1 c S k h T) (hp : p < 5) (hh : h < 5) (hs : kSg k p h = true) (hb : kPl k h = p + 1) : tI1 c S k (h + 1) (jm_upd (jm_upd (jm_upd T (c + 7) p (nI (bset (kSg k p) h ||| 2 ^ h))) (c + 8) h (nI (0 ||| 2 ^ p))) (c + 9) p (nI (kGs k p h + kWt k h))) := by
  obtain ⟨i1, i2, i3⟩ := hI
  refine ⟨fun o h7 h8 h9 => ?_, fun r hr => ?_, fun g hg => ?_⟩
  · funext i
    simp only [upd_at, h7, h8, h9, false_and, if_false, i1 o h7 h8 h9]
  · simp only [upd_at]
    by_cases e : r = p
    · subst e
      simp [bset, kGs, hs, or_pow (bset_lt (kSg k r) h)]
    · have hn : kSg k r h = false := kSg_no (by omega)
      simp [bset, kGs, hn, e, i2 r hr]
  · simp only [upd_at]
    have hb2 : kSb k h = 2 ^ p := by
      unfold kSb
      rw [hb, Nat.add_sub_cancel, hs]
      rfl
    by_cases e : g = h
    · subst e
      simp [hb2]
    · by_cases e2 : g < h
      · simp [e, i3 g hg, e2, Nat.lt_succ_of_lt e2]
      · simp [e, i3 g hg, e2, show ¬ g < h + 1 by omega]
theorem tally_loop1 {c : Nat} {S : jm_I2} {k : kT} (hc : isCamp c) (hX : RX c S k) (hV : KV k) (hZ : ∀ T u, tI1 c S k (k 1) T → WQ L (d + 1) 17 77 [.ref c, .int (nI (k 1)), u] [] T Z) : ∀ (m h : Nat) (u : Value) (T : jm_I2), h + m = k 1 → tI1 c S k h T → WQ L (d + 1) 17 26 [.ref c, .int (nI h), u] [] T Z
  | 0, h, u, T, e, hI => by
    have e0 : h = k 1 := by omega
    subst e0
    obtain ⟨v0, v1, v2, v3, v4, v5⟩ := hV
    obtain ⟨x0, x1, x2, x3, x4, x5⟩ := hX
    have hs := camp_sh hc
    have hT : T c = S c := hI.1 c (by omega) (by omega) (by omega)
    rw [w17_26]
    simp only [w17_27, w17_28, w17_31, hs, true_and, hT, x2]
    simp (disch := omega) only [nI_leI, Nat.le_refl, if_true]
    exact hZ T u hI
  | m + 1, h, u, T, e, hI => by
    have ih := tally_loop1 hc hX hV hZ m (h + 1)
    obtain ⟨v0, v1, v2, v3, v4, v5⟩ := hV
    obtain ⟨x0, x1, x2, x3, x4, x5⟩ := hX
    have hlt : h < k 1 := by omega
    have hs := camp_sh hc
    have hl := camp_ll L hc
    have hT : T c = S c := hI.1 c (by omega) (by omega) (by omega)
    have hT1 : T (c + 1) = S (c + 1) := hI.1 _ (by omega) (by omega) (by omega)
    have hT2 : T (c + 2) = S (c + 2) := hI.1 _ (by omega) (by omega) (by omega)
    have hT3 : T (c + 3) = S (c + 3) := hI.1 _ (by omega) (by omega) (by omega)
    obtain ⟨y1, y2⟩ := x4 h hlt
    obtain ⟨w1, w2⟩ := v4 h hlt
    rw [w17_26]
    simp only [w17_27, w17_28, w17_31, w17_34, w17_35, w17_38, w17_39, w17_40, w17_41, w17_42, w17_43, w17_44, w17_47, w17_48, w17_49, w17_52, w17_55, w17_56, w17_59, w17_60, w17_61, w17_62, w17_65, w17_66, w17_67, w17_68, w17_71, w17_74, hs, hl, true_and, hT, hT1, hT2, hT3, x2, x3]
    simp (disch := omega) only [lit_nI, nI_leI, jm_in_nI, nI_clamp, show ¬ k 1 ≤ h by omega, if_false, show h < 5 by omega, true_and, y2, c_within, Option.toList_some, List.singleton_append, nI_add, ite10]
    clear hs hl
    have hs := camp_sh hc
    have hl := camp_ll L hc
    by_cases hp0 : kPl k h = 0
    · have hpl : plv (kPl k h) = -1000000 := by rw [hp0]; rfl
      rw [hpl, if_neg (by rintro ⟨z, -⟩; revert z; decide)]
      simp only [w17_52, w17_55, w17_56, w17_59, w17_60, w17_61, w17_62, w17_65, w17_66, w17_67, w17_68, w17_71, w17_74, hs, hl, true_and]
      simp (disch := omega) only [lit_nI, if_true, nI_add]
      exact ih _ T (by omega) (tI1_skip hI (fun r _ => kSg_no (by omega)) (by
        unfold kSb
        rw [kSg_no (by omega)]
        rfl))
    · obtain ⟨q, hq⟩ : ∃ q, kPl k h = q + 1 := ⟨kPl k h - 1, by omega⟩
      have hpl : plv (kPl k h) = nI q := by rw [hq]; rfl
      obtain ⟨z1, z2, z3, z4⟩ := x5 q (by omega)
      obtain ⟨b1, b2, b3, b4, b5, b6⟩ := v5 q (by omega)
      rw [hpl, pk_sub (by omega), if_pos ⟨nI_le (by omega) (by omega), nI_le (by omega) (by omega)⟩]
      by_cases hk : 4 ≤ kKd k q
      · simp only [w17_52, w17_55, w17_56, w17_59, w17_60, w17_61, w17_62, w17_65, w17_66, w17_67, w17_68, w17_71, w17_74, hs, hl, true_and, hT3]
        simp (disch := omega) only [lit_nI, nI_eq, nI_leI, jm_in_nI, nI_clamp, z1, hk, show q < 5 by omega, true_and, if_true, nI_add, show ¬ (1 = 0) by omega, if_false]
        refine ih _ T (by omega) (tI1_skip hI (fun r _ => ?_) ?_)
        · unfold kSg
          by_cases er : r = q
          · subst er
            simp [show ¬ kKd k r < 4 by omega]
          · simp [show ¬ kPl k h = r + 1 by omega]
        · unfold kSb kSg
          rw [hq, Nat.add_sub_cancel]
          simp [show ¬ kKd k q < 4 by omega]
      · simp only [w17_52, w17_55, w17_56, w17_59, w17_60, w17_61, w17_62, w17_65, w17_66, w17_67, w17_68, hs, hl, true_and, hT3]
        simp (disch := omega) only [lit_nI, nI_eq, nI_leI, jm_in_nI, nI_clamp, z1, hk, show q < 5 by omega, true_and, if_false, show ¬ (1 = 0) by omega]
        have hi2 := hI.2.1 q (by omega)
        have hi3 := hI.2.2 h (by omega)
        rw [c_addPlayer hc (by omega) (by omega) (hT1 ▸ y1) (by omega) hi2.1 (p1 := 0) (by rw [hi3, if_neg (by omega)]) hi2.2]
        simp only [w17_71, w17_74, Option.toList_none, List.nil_append, lit_nI, nI_add]
        by_cases hst : 0 < kSt k h
        · rw [if_pos hst]
          refine ih _ _ (by omega) (tI1_add hI (by omega) (by omega) ?_ hq)
          unfold kSg
          simp [hq, hst, show q < k 0 by omega, show kKd k q < 4 by omega]
        · rw [if_neg hst]
          refine ih _ T (by omega) (tI1_skip hI (fun r _ => by simp [kSg, hst]) (by unfold kSb kSg; simp [hst]))
theorem c_keeper {c : Nat} {S : jm_I2} {k : kT} (hc : isCamp c) (hX : RX c S k) (hV : KV k) (hn : 0 < k 1) : CL L d 16 [.ref c] S Z ↔ Z (some (.int (nI (k 3 % k 1)))) S := by
  have hs := camp_sh hc
  obtain ⟨v0, v1, v2, v3, v4, v5⟩ := hV
  obtain ⟨x0, x1, x2, x3, x4, x5⟩ := hX
  simp only [cl16, w16_0, w16_1, w16_4, w16_5, w16_8, w16_9, w16_12, w16_13, w16_16, w16_17, w16_20, w16_21, hs, true_and, x1, x2]
  simp (disch := omega) only [lit_nI, nI_leI, pk_rem, ne_eq, nI_eq, show 1 ≤ k 1 by omega, if_true, show ¬ k 1 = 0 by omega, not_false_eq_true, true_and]
def kQ (k : kT) : Nat := k 3 % k 1
def kLp (k : kT) (x : Nat) : Bool := decide (4 ≤ kKd k x) && decide (0 < kSt k (kQ k))
def tI2 (c : Nat) (S : jm_I2) (k : kT) (r : Nat) (T : jm_I2) : Prop := (∀ o, o ≠ c + 7 → o ≠ c + 8 → o ≠ c + 9 → T o = S o) ∧ (∀ x, x < 5 → T (c + 7) x = nI (if x < r ∧ kLp k x = true then 2 ^ kQ k else bset (kSg k x) (k 1)) ∧ T (c + 9) x = nI (if x < r ∧ kLp k x = true then kWt k (kQ k) else kGs k x (k 1))) ∧ (∀ g, g < 5 → T (c + 8) g = nI ((if g < k 1 then kSb k g else 0) ||| (if g = kQ k then bset (kLp k) r else 0)))
theorem tI2_of {c : Nat} {S T : jm_I2} {k : kT} (h : tI1 c S k (k 1) T) : tI2 c S k 0 T := by
  obtain ⟨i1, i2, i3⟩ := h
  refine ⟨i1, fun x hx => ?_, fun g hg => ?_⟩
  · simp [i2 x hx]
  · rw [i3 g hg]
    simp [bset]
theorem kSg_lost {k : kT} {x : Nat} (h : 4 ≤ kKd k x) (n : Nat) : bset (kSg k x) n = 0 ∧ kGs k x n = 0 := by
  have key : ∀ y, kSg k x y = false := fun y => by simp [kSg, show ¬ kKd k x < 4 by omega]
  induction n with
  | zero => exact ⟨rfl, rfl⟩
  | succ n ih => simp [bset, kGs, key, ih]
theorem tI2_skip {c r : Nat} {S T : jm_I2} {k : kT} (hI : tI2 c S k r T) (hs : kLp k r = false) : tI2 c S k (r + 1) T := by
  obtain ⟨i1, i2, i3⟩ := hI
  refine ⟨i1, fun x hx => ?_, fun g hg => ?_⟩
  · have e : (x < r + 1 ∧ kLp k x = true) ↔ (x < r ∧ kLp k x = true) := by
      constructor
      · rintro ⟨h1, h2⟩
        by_cases ex : x = r
        · subst ex; rw [hs] at h2; cases h2
        · exact ⟨by omega, h2⟩
      · rintro ⟨h1, h2⟩
        exact ⟨by omega, h2⟩
    simp only [e]
    exact i2 x hx
  · rw [i3 g hg, bset, hs]
    rfl
theorem tI2_add {c r : Nat} {S T : jm_I2} {k : kT} (hI : tI2 c S k r T) (hr : r < 5) (hq : kQ k < 5) (hs : kLp k r = true) : tI2 c S k (r + 1) (jm_upd (jm_upd (jm_upd T (c + 7) r (nI (0 ||| 2 ^ kQ k))) (c + 8) (kQ k) (nI (((if kQ k < k 1 then kSb k (kQ k) else 0) ||| bset (kLp k) r) ||| 2 ^ r))) (c + 9) r (nI (0 + kWt k (kQ k)))) := by
  obtain ⟨i1, i2, i3⟩ := hI
  refine ⟨fun o h7 h8 h9 => ?_, fun x hx => ?_, fun g hg => ?_⟩
  · funext i
    simp only [upd_at, h7, h8, h9, false_and, if_false, i1 o h7 h8 h9]
  · simp only [upd_at]
    by_cases e : x = r
    · subst e
      simp [hs]
    · have e2 : x < r + 1 ↔ x < r := by omega
      simp [e, i2 x hx, e2]
  · simp only [upd_at]
    by_cases e : g = kQ k
    · subst e
      simp [bset, hs, Nat.or_assoc, or_pow (bset_lt (kLp k) r)]
    · simp [e, i3 g hg]
theorem tally_loop2 {c : Nat} {S : jm_I2} {k : kT} (hc : isCamp c) (hX : RX c S k) (hV : KV k) (hn : 0 < k 1) (hZ : ∀ T, tI2 c S k (k 0) T → Z none T) : ∀ (m r : Nat) (T : jm_I2), r + m = k 0 → tI2 c S k r T → WQ L (d + 1) 17 84 [.ref c, .int (nI (kQ k)), .int (nI r)] [] T Z
  | 0, r, T, e, hI => by
    have e0 : r = k 0 := by omega
    subst e0
    obtain ⟨v0, v1, v2, v3, v4, v5⟩ := hV
    obtain ⟨x0, x1, x2, x3, x4, x5⟩ := hX
    have hs := camp_sh hc
    have hT : T c = S c := hI.1 c (by omega) (by omega) (by omega)
    rw [w17_84]
    simp only [w17_85, w17_86, w17_89, w17_92, w17_93, w17_96, w17_97, w17_98, w17_99, w17_102, w17_103, w17_104, w17_105, w17_108, w17_111, w17_114, hs, true_and, hT, x3]
    simp (disch := omega) only [nI_leI, Nat.le_refl, if_true]
    exact hZ T hI
  | m + 1, r, T, e, hI => by
    have ih := tally_loop2 hc hX hV hn hZ m (r + 1)
    obtain ⟨v0, v1, v2, v3, v4, v5⟩ := hV
    obtain ⟨x0, x1, x2, x3, x4, x5⟩ := hX
    have hlt : r < k 0 := by omega
    have hq : kQ k < k 1 := Nat.mod_lt _ hn
    have hs := camp_sh hc
    have hl := camp_ll L hc
    have hT : T c = S c := hI.1 c (by omega) (by omega) (by omega)
    have hT1 : T (c + 1) = S (c + 1) := hI.1 _ (by omega) (by omega) (by omega)
    have hT3 : T (c + 3) = S (c + 3) := hI.1 _ (by omega) (by omega) (by omega)
    obtain ⟨y1, y2⟩ := x4 (kQ k) hq
    obtain ⟨w1, w2⟩ := v4 (kQ k) hq
    obtain ⟨z1, z2, z3, z4⟩ := x5 r hlt
    obtain ⟨b1, b2, b3, b4, b5, b6⟩ := v5 r hlt
    rw [w17_84]
    simp only [w17_85, w17_86, w17_89, w17_92, w17_93, w17_96, w17_97, w17_98, w17_99, w17_102, w17_103, w17_104, w17_105, hs, hl, true_and, hT, hT1, hT3, x3]
    simp (disch := omega) only [lit_nI, nI_leI, nI_ltI, jm_in_nI, nI_clamp, show ¬ k 0 ≤ r by omega, if_false, show r < 5 by omega, true_and, z1]
    by_cases hk : kKd k r < 4
    · rw [if_pos hk]
      simp only [w17_108, w17_111, lit_nI, nI_add]
      exact ih T (by omega) (tI2_skip hI (by simp [kLp, show ¬ 4 ≤ kKd k r by omega]))
    · rw [if_neg hk]
      have hi2 := hI.2.1 r (by omega)
      have hi3 := hI.2.2 (kQ k) (by omega)
      rw [if_pos rfl (c := kQ k = kQ k)] at hi3
      rw [if_neg (by omega), if_neg (by omega), (kSg_lost (show 4 ≤ kKd k r by omega) (k 1)).1, (kSg_lost (show 4 ≤ kKd k r by omega) (k 1)).2] at hi2
      rw [c_addPlayer hc (by omega) (by omega) (hT1 ▸ y1) (by omega) hi2.1 hi3 hi2.2]
      simp only [w17_108, w17_111, Option.toList_none, List.nil_append, lit_nI, nI_add]
      by_cases hst : 0 < kSt k (kQ k)
      · rw [if_pos hst]
        exact ih _ (by omega) (tI2_add hI (by omega) (by omega) (by simp [kLp, hst, show 4 ≤ kKd k r by omega]))
      · rw [if_neg hst]
        exact ih T (by omega) (tI2_skip hI (by simp [kLp, hst]))
end
