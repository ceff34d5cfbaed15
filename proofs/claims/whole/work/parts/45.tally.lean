section
variable {L d : Nat} {Z : Option Value → jm_I2 → Prop}
theorem fill_loop {a n : Nat} {v : Int32} (hn : n < 10000) (hlw : jm_lw 9 a = n) : ∀ (m i : Nat) (S : jm_I2), i + m = n → (WQ L d 222 5 [.ref a, .int v, .int (nI i), .int (nI n)] [] S Z ↔ Z none (jm_row S a (fun k => if i ≤ k ∧ k < n then v else S a k)))
  | 0, i, S, h => by
    have e : jm_row S a (fun k => if i ≤ k ∧ k < n then v else S a k) = S := by
      funext o k
      rw [row_at]
      by_cases ho : o = a
      · rw [if_pos ho, if_neg (by omega), ho]
      · rw [if_neg ho]
    rw [e, w222_5]
    simp only [w222_6, w222_7, w222_10, w222_11, w222_12, w222_13, w222_14, w222_17, w222_20]
    simp (disch := omega) only [nI_leI, show n ≤ i by omega, if_true]
  | m + 1, i, S, h => by
    have ih := fill_loop (v := v) hn hlw m (i + 1) (jm_upd S a i v) (by omega)
    rw [w222_5]
    simp only [w222_6, w222_7, w222_10, w222_11, w222_12, w222_13, w222_14, w222_17, w222_20]
    simp (disch := omega) only [lit_nI, nI_leI, show ¬ n ≤ i by omega, if_false, hlw, jm_in_nI, nI_clamp, nI_add, show i < n by omega, true_and, ih]
    have e : jm_row (jm_upd S a i v) a (fun k => if i + 1 ≤ k ∧ k < n then v else jm_upd S a i v a k) = jm_row S a (fun k => if i ≤ k ∧ k < n then v else S a k) := by
      funext o k
      rw [row_at, row_at, upd_at, upd_at]
      by_cases ho : o = a
      · subst ho
        by_cases hk : k = i
        · subst hk
          simp [show k < n by omega]
        · by_cases hk2 : i ≤ k ∧ k < n
          · simp [hk2, show i + 1 ≤ k by omega]
          · have : ¬ (i + 1 ≤ k ∧ k < n) := by omega
            simp [hk, hk2, this]
      · simp [ho]
    rw [e]
theorem c_fill {a n : Nat} {v : Int32} {S : jm_I2} (hn : n < 10000) (hlw : jm_lw 9 a = n) (hla : jm_la L a = n) (hha : jm_ha L a = true) : CL L d 222 [.ref a, .int v] S Z ↔ Z none (jm_row S a (fun k => if k < n then v else S a k)) := by
  simp only [w222_0, w222_1, w222_2, w222_3, w222_4, cl222, hla, hha, true_and, lit_nI, fill_loop hn hlw n 0 S (by omega), Nat.zero_le]
/-! ===== tally ===== -/
def kSg (k : kT) (r x : Nat) : Bool := decide (r < k 0) && decide (kKd k r < 4) && decide (kPl k x = r + 1) && decide (0 < kSt k x)
def kGs (k : kT) (r : Nat) : Nat → Nat
  | 0 => 0
  | n + 1 => kGs k r n + (if kSg k r n then kWt k n else 0)
def kSb (k : kT) (x : Nat) : Nat := if kSg k (kPl k x - 1) x then 2 ^ (kPl k x - 1) else 0
def tI1 (c : Nat) (S : jm_I2) (k : kT) (h : Nat) (T : jm_I2) : Prop := (∀ o, o ≠ c + 7 → o ≠ c + 8 → o ≠ c + 9 → T o = S o) ∧ (∀ r, r < 5 → T (c + 7) r = nI (bset (kSg k r) h) ∧ T (c + 9) r = nI (kGs k r h)) ∧ (∀ g, g < 5 → T (c + 8) g = nI (if g < h then kSb k g else 0))
theorem or_pow {a h : Nat} (ha : a < 2 ^ h) : a ||| 2 ^ h = a + 2 ^ h := by
  rw [Nat.or_comm, Nat.add_comm]
  have := Nat.two_pow_add_eq_or_of_lt ha 1
  rw [Nat.mul_one] at this
  exact this.symm
theorem kSg_no {k : kT} {r x : Nat} (h : kPl k x ≠ r + 1) : kSg k r x = false := by simp [kSg, h]
theorem ite10 {P : Prop} [Decidable P] : ((if P then (1 : Int32) else 0) = 0) ↔ ¬ P := by
  by_cases h : P <;> simp [h]
theorem tI1_skip {c h : Nat} {S T : jm_I2} {k : kT} (hI : tI1 c S k h T) (hs : ∀ r, r < 5 → kSg k r h = false) (hb : kSb k h = 0) : tI1 c S k (h + 1) T := by
  obtain ⟨i1, i2, i3⟩ := hI
  refine ⟨i1, fun r hr => ?_, fun g hg => ?_⟩
  · rw [(i2 r hr).1, (i2 r hr).2, bset, kGs, hs r hr]
    exact ⟨rfl, rfl⟩
  · rw [i3 g hg]
    by_cases e : g = h
    · subst e
      simp [hb]
    · by_cases e2 : g < h
      · simp [e2, Nat.lt_succ_of_lt e2]
      · simp [e2, show ¬ g < h + 1 by omega]
theorem tI1_add {c h p : Nat} {S T : jm_I2} {k : kT} (hI : tI1 c S k h T) (hp : p < 5) (hh : h < 5) (hs : kSg k p h = true) (hb : kPl k h = p + 1) : tI1 c S k (h + 1) (jm_upd (jm_upd (jm_upd T (c + 7) p (nI (bset (kSg k p) h ||| 2 ^ h))) (c + 8) h (nI (0 ||| 2 ^ p))) (c + 9) p (nI (kGs k p h + kWt k h))) := by
  obtain ⟨i1, i2, i3⟩ := hI
  refine ⟨fun o h7 h8 h9 => ?_, fun r hr => ?_, fun g hg => ?_⟩
  · funext i
    simp only [upd_at, h7, h8, h9, false_and, if_false, i1 o h7 h8 h9]
  · simp only [upd_at]
    by_cases e : r = p
    · subst e
      simp [bset, kGs, hs, or_pow (bset_lt (kSg k r) h)]
    · have hn : kSg k r h = false := kSg_no (by omega)
      simp [bset, kGs, hn, e, i2 r hr]
  · simp only [upd_at]
    have hb2 : kSb k h = 2 ^ p := by
      unfold kSb
      rw [hb, Nat.add_sub_cancel, hs]
      rfl
    by_cases e : g = h
    · subst e
      simp [hb2]
    · by_cases e2 : g < h
      · simp [e, i3 g hg, e2, Nat.lt_succ_of_lt e2]
      · simp [e, i3 g hg, e2, show ¬ g < h + 1 by omega]
theorem tally_loop1 {c : Nat} {S : jm_I2} {k : kT} (hc : isCamp c) (hX : RX c S k) (hV : KV k) (hZ : ∀ T u, tI1 c S k (k 1) T → WQ L (d + 1) 17 77 [.ref c, .int (nI (k 1)), u] [] T Z) : ∀ (m h : Nat) (u : Value) (T : jm_I2), h + m = k 1 → tI1 c S k h T → WQ L (d + 1) 17 26 [.ref c, .int (nI h), u] [] T Z
  | 0, h, u, T, e, hI => by
    have e0 : h = k 1 := by omega
    subst e0
    obtain ⟨v0, v1, v2, v3, v4, v5⟩ := hV
    obtain ⟨x0, x1, x2, x3, x4, x5⟩ := hX
    have hs := camp_sh hc
    have hT : T c = S c := hI.1 c (by omega) (by omega) (by omega)
    rw [w17_26]
    simp only [w17_27, w17_28, w17_31, hs, true_and, hT, x2]
    simp (disch := omega) only [nI_leI, Nat.le_refl, if_true]
    exact hZ T u hI
  | m + 1, h, u, T, e, hI => by
    have ih := tally_loop1 hc hX hV hZ m (h + 1)
    obtain ⟨v0, v1, v2, v3, v4, v5⟩ := hV
    obtain ⟨x0, x1, x2, x3, x4, x5⟩ := hX
    have hlt : h < k 1 := by omega
    have hs := camp_sh hc
    have hl := camp_ll L hc
    have hT : T c = S c := hI.1 c (by omega) (by omega) (by omega)
    have hT1 : T (c + 1) = S (c + 1) := hI.1 _ (by omega) (by omega) (by omega)
    have hT2 : T (c + 2) = S (c + 2) := hI.1 _ (by omega) (by omega) (by omega)
    have hT3 : T (c + 3) = S (c + 3) := hI.1 _ (by omega) (by omega) (by omega)
    obtain ⟨y1, y2⟩ := x4 h hlt
    obtain ⟨w1, w2⟩ := v4 h hlt
    rw [w17_26]
    simp only [w17_27, w17_28, w17_31, w17_34, w17_35, w17_38, w17_39, w17_40, w17_41, w17_42, w17_43, w17_44, w17_47, w17_48, w17_49, w17_52, w17_55, w17_56, w17_59, w17_60, w17_61, w17_62, w17_65, w17_66, w17_67, w17_68, w17_71, w17_74, hs, hl, true_and, hT, hT1, hT2, hT3, x2, x3]
    simp (disch := omega) only [lit_nI, nI_leI, jm_in_nI, nI_clamp, show ¬ k 1 ≤ h by omega, if_false, show h < 5 by omega, true_and, y2, c_within, Option.toList_some, List.singleton_append, nI_add, ite10]
    clear hs hl
    have hs := camp_sh hc
    have hl := camp_ll L hc
    by_cases hp0 : kPl k h = 0
    · have hpl : plv (kPl k h) = -1000000 := by rw [hp0]; rfl
      rw [hpl, if_neg (by rintro ⟨z, -⟩; revert z; decide)]
      simp only [w17_52, w17_55, w17_56, w17_59, w17_60, w17_61, w17_62, w17_65, w17_66, w17_67, w17_68, w17_71, w17_74, hs, hl, true_and]
      simp (disch := omega) only [lit_nI, if_true, nI_add]
      exact ih _ T (by omega) (tI1_skip hI (fun r _ => kSg_no (by omega)) (by
        unfold kSb
        rw [kSg_no (by omega)]
        rfl))
    · obtain ⟨q, hq⟩ : ∃ q, kPl k h = q + 1 := ⟨kPl k h - 1, by omega⟩
      have hpl : plv (kPl k h) = nI q := by rw [hq]; rfl
      obtain ⟨z1, z2, z3, z4⟩ := x5 q (by omega)
      obtain ⟨b1, b2, b3, b4, b5, b6⟩ := v5 q (by omega)
      rw [hpl, pk_sub (by omega), if_pos ⟨nI_le (by omega) (by omega), nI_le (by omega) (by omega)⟩]
      by_cases hk : 4 ≤ kKd k q
      · simp only [w17_52, w17_55, w17_56, w17_59, w17_60, w17_61, w17_62, w17_65, w17_66, w17_67, w17_68, w17_71, w17_74, hs, hl, true_and, hT3]
        simp (disch := omega) only [lit_nI, nI_eq, nI_leI, jm_in_nI, nI_clamp, z1, hk, show q < 5 by omega, true_and, if_true, nI_add, show ¬ (1 = 0) by omega, if_false]
        refine ih _ T (by omega) (tI1_skip hI (fun r _ => ?_) ?_)
        · unfold kSg
          by_cases er : r = q
          · subst er
            simp [show ¬ kKd k r < 4 by omega]
          · simp [show ¬ kPl k h = r + 1 by omega]
        · unfold kSb kSg
          rw [hq, Nat.add_sub_cancel]
          simp [show ¬ kKd k q < 4 by omega]
      · simp only [w17_52, w17_55, w17_56, w17_59, w17_60, w17_61, w17_62, w17_65, w17_66, w17_67, w17_68, hs, hl, true_and, hT3]
        simp (disch := omega) only [lit_nI, nI_eq, nI_leI, jm_in_nI, nI_clamp, z1, hk, show q < 5 by omega, true_and, if_false, show ¬ (1 = 0) by omega]
        have hi2 := hI.2.1 q (by omega)
        have hi3 := hI.2.2 h (by omega)
        rw [c_addPlayer hc (by omega) (by omega) (hT1 ▸ y1) (by omega) hi2.1 (p1 := 0) (by rw [hi3, if_neg (by omega)]) hi2.2]
        simp only [w17_71, w17_74, Option.toList_none, List.nil_append, lit_nI, nI_add]
        by_cases hst : 0 < kSt k h
        · rw [if_pos hst]
          refine ih _ _ (by omega) (tI1_add hI (by omega) (by omega) ?_ hq)
          unfold kSg
          simp [hq, hst, show q < k 0 by omega, show kKd k q < 4 by omega]
        · rw [if_neg hst]
          refine ih _ T (by omega) (tI1_skip hI (fun r _ => by simp [kSg, hst]) (by unfold kSb kSg; simp [hst]))
end
