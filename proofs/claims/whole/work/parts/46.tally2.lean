/-! ===== tally, whole ===== -/
theorem down_ind {n : Nat} {P : Nat → Prop} (h0 : P n) (hs : ∀ i, i < n → P (i + 1) → P i) : ∀ i, i ≤ n → P i := by
  intro i hi
  obtain ⟨m, hm⟩ : ∃ m, i + m = n := ⟨n - i, by omega⟩
  clear hi
  induction m generalizing i with
  | zero => rw [show i = n by omega]; exact h0
  | succ m ih => exact hs i (by omega) (ih (i + 1) (by omega))
theorem camp_la (L : Nat) {c : Nat} (h : isCamp c) : jm_la L (c + 7) = 5 ∧ jm_la L (c + 8) = 5 ∧ jm_la L (c + 9) = 5 ∧ jm_ha L (c + 7) = true ∧ jm_ha L (c + 8) = true ∧ jm_ha L (c + 9) = true := by
  have hc : c < 200 := by
    simp only [isCamp] at h
    omega
  have key : ∀ i, i ≤ 9 → jm_la L (c + i) = jm_la 0 (c + i) := fun i hi => la_of (by show c + i ≠ 1000000; omega)
  have key2 : ∀ i, i ≤ 9 → jm_ha L (c + i) = jm_ha 0 (c + i) := fun i hi => ha_of (by show c + i ≠ 1000000; omega)
  rw [key 7 (by decide), key 8 (by decide), key 9 (by decide), key2 7 (by decide), key2 8 (by decide), key2 9 (by decide)]
  rcases h with rfl | rfl | rfl | rfl | rfl | rfl | rfl <;> decide +kernel
theorem bset_none {p : Nat → Bool} {n : Nat} (h : ∀ i, i < n → p i = false) : bset p n = 0 := by
  rw [bset_cong (q := fun _ => false) h]
  induction n with
  | zero => rfl
  | succ n ih => rw [bset, ih (fun i hi => h i (by omega))]; rfl
theorem bset_one {p : Nat → Bool} {q : Nat} : ∀ {n : Nat}, q < n → (∀ i, i < n → p i = decide (i = q)) → bset p n = 2 ^ q
  | 0, h, _ => by omega
  | n + 1, h, hp => by
    rw [bset]
    by_cases e : q = n
    · subst e
      rw [hp q (by omega), bset_none (fun i hi => by rw [hp i (by omega)]; simp; omega)]
      simp
    · rw [hp n (by omega), bset_one (q := q) (by omega) (fun i hi => hp i (by omega))]
      simp [show ¬ n = q by omega]
theorem kGn_none {k : kT} {r : Nat} : ∀ {n : Nat}, (∀ i, i < n → kPd k r i = false) → kGn k r n = 0
  | 0, _ => rfl
  | n + 1, h => by rw [kGn, kGn_none (fun i hi => h i (by omega)), h n (by omega)]; rfl
theorem kGn_one {k : kT} {r q : Nat} : ∀ {n : Nat}, q < n → (∀ i, i < n → kPd k r i = decide (i = q)) → kGn k r n = kWt k q
  | 0, h, _ => by omega
  | n + 1, h, hp => by
    rw [kGn]
    by_cases e : q = n
    · subst e
      rw [hp q (by omega), kGn_none (fun i hi => by rw [hp i (by omega)]; simp; omega)]
      simp
    · rw [hp n (by omega), kGn_one (q := q) (by omega) (fun i hi => hp i (by omega))]
      simp [show ¬ n = q by omega]
theorem kGn_sg {k : kT} {r : Nat} (h4 : kKd k r < 4) (hr : r < k 0) : ∀ n, kGs k r n = kGn k r n
  | 0 => rfl
  | n + 1 => by
    rw [kGs, kGn, kGn_sg h4 hr n]
    unfold kSg kPd
    simp [h4, hr, show ¬ 4 ≤ kKd k r by omega]
def tP (c : Nat) (S : jm_I2) (k : kT) (T : jm_I2) : Prop := (∀ o, o ≠ c + 7 → o ≠ c + 8 → o ≠ c + 9 → T o = S o) ∧ (∀ r, r < k 0 → T (c + 7) r = nI (bset (kPd k r) (k 1)) ∧ T (c + 9) r = nI (kGn k r (k 1))) ∧ (∀ h, h < k 1 → T (c + 8) h = nI (bset (fun r => kPd k r h) (k 0)))
theorem tP_of {c : Nat} {S T : jm_I2} {k : kT} (hV : KV k) (hn : 0 < k 1) (h : tI2 c S k (k 0) T) : tP c S k T := by
  obtain ⟨v0, v1, v2, v3, v4, v5⟩ := hV
  obtain ⟨i1, i2, i3⟩ := h
  have hq : kQ k < k 1 := Nat.mod_lt _ hn
  refine ⟨i1, fun r hr => ?_, fun g hg => ?_⟩
  · rw [(i2 r (by omega)).1, (i2 r (by omega)).2]
    by_cases hk : 4 ≤ kKd k r
    · by_cases hs : 0 < kSt k (kQ k)
      · have e : ∀ i, i < k 1 → kPd k r i = decide (i = kQ k) := fun i _ => by
          unfold kPd
          by_cases ei : i = kQ k
          · subst ei; simp [hk, hs]; rfl
          · simp [hk, ei]; intro e2; exact absurd e2 ei
        have hl : kLp k r = true := by simp [kLp, hk, hs]
        rw [if_pos ⟨hr, hl⟩, if_pos ⟨hr, hl⟩, bset_one hq e, kGn_one hq e]
        exact ⟨rfl, rfl⟩
      · have e : ∀ i, i < k 1 → kPd k r i = false := fun i _ => by
          unfold kPd
          by_cases ei : i = kQ k
          · subst ei; simp [hs]
          · simp [hk]; intro e2; exact absurd e2 ei
        have hl : ¬ (r < k 0 ∧ kLp k r = true) := by simp [kLp, hs]
        rw [if_neg hl, if_neg hl, bset_none e, kGn_none e, (kSg_lost hk (k 1)).1, (kSg_lost hk (k 1)).2]
        exact ⟨rfl, rfl⟩
    · have hl : ¬ (r < k 0 ∧ kLp k r = true) := by simp [kLp, hk]
      rw [if_neg hl, if_neg hl, kGn_sg (by omega) hr, bset_cong (q := kPd k r) (fun i _ => by unfold kSg kPd; simp [hk, hr, show kKd k r < 4 by omega])]
      exact ⟨rfl, rfl⟩
  · rw [i3 g (by omega), if_pos hg]
    congr 1
    apply Nat.eq_of_testBit_eq
    intro i
    rw [Nat.testBit_or, bset_bit]
    have e1 : (kSb k g).testBit i = (decide (kPl k g = i + 1) && kSg k i g) := by
      unfold kSb
      by_cases e : kPl k g = i + 1
      · rw [e, Nat.add_sub_cancel]
        by_cases e2 : kSg k i g = true
        · simp [e2]
        · simp [e2]
      · by_cases e2 : kSg k (kPl k g - 1) g = true
        · rw [if_pos e2]
          have e3 : kPl k g = kPl k g - 1 + 1 := by
            unfold kSg at e2
            simp at e2
            omega
          rw [Nat.testBit_two_pow]
          simp [e, show ¬ kPl k g - 1 = i by omega]
        · rw [if_neg e2]
          simp [e]
    have e4 : (if g = kQ k then bset (kLp k) (k 0) else 0).testBit i = (decide (g = kQ k) && (decide (i < k 0) && kLp k i)) := by
      by_cases e : g = kQ k
      · simp [e, bset_bit]
      · simp [e]
    rw [e1, e4]
    unfold kSg kLp kPd
    by_cases e0 : i < k 0
    · by_cases ek : 4 ≤ kKd k i
      · by_cases eg : g = kQ k
        · have eg2 : g = k 3 % k 1 := eg
          rw [← eg]
          simp [e0, ek, ← eg2, show ¬ kKd k i < 4 by omega]
        · have eg2 : ¬ g = k 3 % k 1 := eg
          simp [e0, ek, eg, eg2, show ¬ kKd k i < 4 by omega]
      · simp [e0, ek, show kKd k i < 4 by omega]
    · simp [e0]
section
variable {L d : Nat} {Z : Option Value → jm_I2 → Prop}
theorem c_tally {c : Nat} {S : jm_I2} {k : kT} (hc : isCamp c) (hX : RX c S k) (hV : KV k) (hn : 0 < k 1) (hZ : ∀ T, tP c S k T → Z none T) : CL L (d + 1) 17 [.ref c] S Z := by
  have hs := camp_sh hc
  have hl := camp_ll L hc
  have ha := camp_la L hc
  simp only [w17_0, w17_1, cl17, hs, true_and]
  simp only [w17_4, w17_5, w17_8, w17_9, hs, true_and, c_fill (n := 5) (a := c + 7) (by decide) (by simp only [hs]) ha.1 ha.2.2.2.1, Option.toList_none, List.nil_append]
  simp only [w17_12, w17_13, w17_16, w17_17, hs, true_and, c_fill (n := 5) (a := c + 8) (by decide) (by simp only [hs]) ha.2.1 ha.2.2.2.2.1, Option.toList_none, List.nil_append]
  simp only [w17_20, w17_21, w17_24, w17_25, hs, true_and, c_fill (n := 5) (a := c + 9) (by decide) (by simp only [hs]) ha.2.2.1 ha.2.2.2.2.2, Option.toList_none, List.nil_append]
  refine tally_loop1 hc hX hV (fun T u hT => ?_) (k 1) 0 _ _ (by omega) ?_
  · have hX2 : RX c T k := by
      unfold RX at hX ⊢
      have f := hT.1
      rw [f c (by omega) (by omega) (by omega), f (c + 1) (by omega) (by omega) (by omega), f (c + 2) (by omega) (by omega) (by omega), f (c + 3) (by omega) (by omega) (by omega), f (c + 4) (by omega) (by omega) (by omega), f (c + 5) (by omega) (by omega) (by omega), f (c + 6) (by omega) (by omega) (by omega)]
      exact hX
    simp only [w17_77, w17_78, w17_81, w17_82, w17_83, hs, true_and, c_keeper hc hX2 hV hn, Option.toList_some, List.singleton_append]
    exact tally_loop2 hc hX hV hn (fun T2 h2 => hZ T2 (tP_of hV hn h2)) (k 0) 0 T (by omega) (tI2_of hT)
  · refine ⟨fun o h7 h8 h9 => ?_, fun r hr => ?_, fun g hg => ?_⟩
    · funext i
      simp only [row_at, h7, h8, h9, if_false]
    · simp [row_at, bset, kGs, hr]
      rfl
    · simp [row_at, hg]
      rfl
end
