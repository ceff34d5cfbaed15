/-! ===== numbers ===== -/
theorem lit_nI (n : Nat) : (OfNat.ofNat n : Int32) = nI n := rfl
theorem jm_in_nI {k n : Nat} (hk : k < 2 ^ 31) : jm_in (nI k) n = true ↔ k < n := by
  unfold jm_in
  rw [decide_eq_true_eq, nI_clamp hk]
  constructor
  · intro h
    exact Nat.not_le.mp (fun q => h (Or.inr q))
  · rintro h (q | q)
    · exact nI_pos hk q
    · omega
theorem or_nI (a b : Nat) : nI a ||| nI b = nI (a ||| b) := by
  apply Int32.toBitVec_inj.mp
  show BitVec.ofNat 32 a ||| BitVec.ofNat 32 b = BitVec.ofNat 32 (a ||| b)
  rw [BitVec.ofNat_or]
theorem and_nI (a b : Nat) : nI a &&& nI b = nI (a &&& b) := by
  apply Int32.toBitVec_inj.mp
  show BitVec.ofNat 32 a &&& BitVec.ofNat 32 b = BitVec.ofNat 32 (a &&& b)
  rw [BitVec.ofNat_and]
theorem shl_nI : ∀ h, h < 31 → nI 1 <<< (nI h &&& nI 31) = nI (2 ^ h) := by decide +kernel
theorem upd_at (S : jm_I2) (a k : Nat) (x : Int32) (b i : Nat) : jm_upd S a k x b i = if b = a ∧ i = k then x else S b i := by
  unfold jm_upd upd
  by_cases h : b = a
  · subst h
    by_cases h2 : i = k <;> simp [h2]
  · simp [h]
theorem row_at (S : jm_I2) (a : Nat) (f : Nat → Int32) (b i : Nat) : jm_row S a f b i = if b = a then f i else S b i := by
  unfold jm_row
  by_cases h : b = a
  · rw [if_pos h, if_pos h]
  · rw [if_neg h, if_neg h]
section
variable {L d : Nat} {S : jm_I2} {Z : Option Value → jm_I2 → Prop}
theorem c_within {v a b : Int32} : CL L d 117 [.int v, .int a, .int b] S Z ↔ Z (some (.int (if a ≤ v ∧ v ≤ b then 1 else 0))) S := by
  simp only [cl117, w117_0, w117_1, w117_2, w117_5, w117_6, w117_7, w117_10, w117_11, w117_14, w117_15]
  by_cases h1 : v < a <;> by_cases h2 : b < v <;> simp [h1, h2, Int32.not_lt.mp, ← Int32.not_lt]
def bcI (x : Int32) : Int32 :=
  let a := x - ((x.toUInt32 >>> (Int32.toUInt32 1 &&& Int32.toUInt32 31)).toInt32 &&& 1431655765)
  let b := (a &&& 858993459) + ((a.toUInt32 >>> (Int32.toUInt32 2 &&& Int32.toUInt32 31)).toInt32 &&& 858993459)
  let e := (b + (b.toUInt32 >>> (Int32.toUInt32 4 &&& Int32.toUInt32 31)).toInt32) &&& 252645135
  let f := e + (e.toUInt32 >>> (Int32.toUInt32 8 &&& Int32.toUInt32 31)).toInt32
  let g := f + (f.toUInt32 >>> (Int32.toUInt32 16 &&& Int32.toUInt32 31)).toInt32
  g &&& 63
theorem c_bitCount {x : Int32} : CL L d 221 [.int x] S Z ↔ Z (some (.int (bcI x))) S := by
  simp only [cl221, w221_0, w221_1, w221_2, w221_3, w221_4, w221_7, w221_8, w221_9, w221_10, w221_11, w221_14, w221_15, w221_16, w221_17, w221_18, w221_21, w221_22, w221_23, w221_24, w221_25, w221_26, w221_27, w221_28, w221_29, w221_32, w221_33, w221_34, w221_35, w221_36, w221_38, w221_39, w221_40, w221_41, w221_42, w221_43, w221_45, w221_46, w221_47, w221_48, w221_49, w221_51, w221_52]
  exact Iff.rfl
/-- how many of the bits below n -/
def cnt (p : Nat → Bool) : Nat → Nat
  | 0 => 0
  | n + 1 => cnt p n + (if p n then 1 else 0)
/-- the set of those below n, as bits -/
def bset (p : Nat → Bool) : Nat → Nat
  | 0 => 0
  | n + 1 => bset p n + (if p n then 2 ^ n else 0)
theorem bset_lt (p : Nat → Bool) : ∀ n, bset p n < 2 ^ n
  | 0 => Nat.one_pos
  | n + 1 => by
    have := bset_lt p n
    rw [bset, Nat.pow_succ]
    split <;> omega
theorem bset_bit (p : Nat → Bool) : ∀ n i, (bset p n).testBit i = (decide (i < n) && p i)
  | 0, i => by simp [bset]
  | n + 1, i => by
    have ih := bset_bit p n i
    have hl := bset_lt p n
    rw [bset]
    by_cases h : p n = true
    · rw [if_pos h, Nat.add_comm, show 2 ^ n + bset p n = 2 ^ n * 1 + bset p n by omega, Nat.testBit_two_pow_mul_add _ hl]
      by_cases hi : i < n
      · rw [if_pos hi, ih]
        simp [hi, Nat.lt_succ_of_lt hi]
      · rw [if_neg hi]
        by_cases e : i = n
        · subst e; simp [h]
        · have : ¬ i < n + 1 := by omega
          simp [this]
          exact Nat.testBit_lt_two_pow (by
            have : 2 ^ 1 ≤ 2 ^ (i - n) := Nat.pow_le_pow_right (by decide) (by omega)
            omega)
    · have h' : p n = false := by simpa using h
      rw [if_neg h, Nat.add_zero, ih]
      by_cases e : i = n
      · subst e; simp [h']
      · by_cases hi : i < n
        · simp [hi, Nat.lt_succ_of_lt hi]
        · have : ¬ i < n + 1 := by omega
          simp [hi, this]
theorem bset_cong {p q : Nat → Bool} : ∀ {n}, (∀ i, i < n → p i = q i) → bset p n = bset q n
  | 0, _ => rfl
  | n + 1, h => by rw [bset, bset, bset_cong (fun i hi => h i (by omega)), h n (by omega)]
theorem cnt_cong {p q : Nat → Bool} : ∀ {n}, (∀ i, i < n → p i = q i) → cnt p n = cnt q n
  | 0, _ => rfl
  | n + 1, h => by rw [cnt, cnt, cnt_cong (fun i hi => h i (by omega)), h n (by omega)]
theorem cnt_le (p : Nat → Bool) : ∀ n, cnt p n ≤ n
  | 0 => Nat.le_refl _
  | n + 1 => by
    have := cnt_le p n
    rw [cnt]
    split <;> omega
/-- how many bits a number below 64 has -/
def pop6 (m : Nat) : Nat := cnt (fun i => m.testBit i) 6
theorem bcI_pop : ∀ m, m < 64 → bcI (nI m) = nI (pop6 m) := by decide +kernel
theorem cnt_ext (p : Nat → Bool) {n : Nat} : ∀ m, n ≤ m → (∀ i, n ≤ i → i < m → p i = false) → cnt p m = cnt p n
  | 0, h, _ => by rw [show n = 0 by omega]
  | m + 1, h, hp => by
    by_cases e : n = m + 1
    · rw [e]
    · rw [cnt, hp m (by omega) (by omega), cnt_ext p m (by omega) (fun i h1 h2 => hp i h1 (by omega))]
      rfl
theorem pop6_bset (p : Nat → Bool) {n : Nat} (h : n ≤ 6) : pop6 (bset p n) = cnt p n := by
  unfold pop6
  rw [cnt_ext _ (n := n) 6 h (fun i h1 _ => by rw [bset_bit]; simp [show ¬ i < n by omega])]
  exact cnt_cong (fun i hi => by rw [bset_bit]; simp [hi])
end
