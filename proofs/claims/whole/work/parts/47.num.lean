/-! ===== numbers, decided by what is known ===== -/
def vN : Int32 := -1000000
theorem neg_vN : (-1000000 : Int32) = vN := rfl
theorem n_le_t {a b : Nat} (h : a ≤ b) : (a ≤ b) = True := eq_true h
theorem n_le_f {a b : Nat} (h : b < a) : (a ≤ b) = False := eq_false (by omega)
theorem n_lt_t {a b : Nat} (h : a < b) : (a < b) = True := eq_true h
theorem n_lt_f {a b : Nat} (h : b ≤ a) : (a < b) = False := eq_false (by omega)
theorem n_eq_t {a b : Nat} (h : a = b) : (a = b) = True := eq_true h
theorem n_eq_f {a b : Nat} (h : a ≠ b) : (a = b) = False := eq_false h
theorem t_le {a b : Nat} (ha : a < 2 ^ 31) (hb : b < 2 ^ 31) (h : a ≤ b) : (nI a ≤ nI b) = True := eq_true ((nI_leI ha hb).mpr h)
theorem f_le {a b : Nat} (ha : a < 2 ^ 31) (hb : b < 2 ^ 31) (h : b < a) : (nI a ≤ nI b) = False := eq_false (fun q => by have := (nI_leI ha hb).mp q; omega)
theorem t_lt {a b : Nat} (ha : a < 2 ^ 31) (hb : b < 2 ^ 31) (h : a < b) : (nI a < nI b) = True := eq_true ((nI_ltI ha hb).mpr h)
theorem f_lt {a b : Nat} (ha : a < 2 ^ 31) (hb : b < 2 ^ 31) (h : b ≤ a) : (nI a < nI b) = False := eq_false (fun q => by have := (nI_ltI ha hb).mp q; omega)
theorem t_eq {a b : Nat} (h : a = b) : (nI a = nI b) = True := by rw [h]; exact eq_true rfl
theorem f_eq {a b : Nat} (ha : a < 2 ^ 31) (hb : b < 2 ^ 31) (h : a ≠ b) : (nI a = nI b) = False := eq_false (fun q => h ((nI_eq ha hb).mp q))
theorem t_in {k n : Nat} (hk : k < 2 ^ 31) (h : k < n) : (jm_in (nI k) n = true) = True := eq_true ((jm_in_nI hk).mpr h)
theorem n_mul (a b : Nat) : nI a * nI b = nI (a * b) := (Int32.ofNat_mul a b).symm
theorem vN_toInt : vN.toInt = -1000000 := by decide +kernel
theorem vN_eq {a : Nat} (h : a < 2 ^ 31) : (vN = nI a) = False := eq_false (fun q => by
  have e := congrArg Int32.toInt q
  rw [vN_toInt, nI_toInt h] at e
  omega)
theorem eq_vN {a : Nat} (h : a < 2 ^ 31) : (nI a = vN) = False := eq_false (fun q => by
  have e := congrArg Int32.toInt q
  rw [vN_toInt, nI_toInt h] at e
  omega)
theorem vN_lt {a : Nat} (h : a < 2 ^ 31) : (vN < nI a) = True := eq_true (by
  rw [Int32.lt_iff_toInt_lt, vN_toInt, nI_toInt h]; omega)
theorem lt_vN {a : Nat} (h : a < 2 ^ 31) : (nI a < vN) = False := eq_false (by
  rw [Int32.lt_iff_toInt_lt, vN_toInt, nI_toInt h]; omega)
theorem vN_le {a : Nat} (h : a < 2 ^ 31) : (vN ≤ nI a) = True := eq_true (by
  rw [Int32.le_iff_toInt_le, vN_toInt, nI_toInt h]; omega)
theorem le_vN {a : Nat} (h : a < 2 ^ 31) : (nI a ≤ vN) = False := eq_false (by
  rw [Int32.le_iff_toInt_le, vN_toInt, nI_toInt h]; omega)
theorem n_div {a b : Nat} (ha : a < 2 ^ 31) (h0 : 0 < b) (hb : b < 2 ^ 31) : nI a / nI b = nI (a / b) := pk_div ha h0 hb
theorem n_rem {a b : Nat} : nI a - nI (a / b * b) = nI (a % b) := by
  rw [pk_sub (Nat.div_mul_le_self a b)]
  congr 1
  have := Nat.div_add_mod a b
  rw [Nat.mul_comm] at this
  omega
theorem ite_n {P : Prop} [Decidable P] : ((if P then nI 1 else nI 0) = nI 0) = ¬ P := by
  by_cases h : P
  · simp only [h, if_true, not_true]; exact f_eq (by decide) (by decide) (by decide)
  · simp only [h, if_false, not_false_eq_true]
theorem min_n {a b : Nat} : (if a < b then nI a else nI b) = nI (min a b) := by
  by_cases h : a < b
  · rw [if_pos h, Nat.min_eq_left (by omega)]
  · rw [if_neg h, Nat.min_eq_right (by omega)]
theorem max_n {a b : Nat} : (if a < b then nI b else nI a) = nI (max a b) := by
  by_cases h : a < b
  · rw [if_pos h, Nat.max_eq_right (by omega)]
  · rw [if_neg h, Nat.max_eq_left (by omega)]
theorem sub_toInt {a b : Nat} (ha : a < 2 ^ 30) (hb : b < 2 ^ 30) : (nI a - nI b).toInt = (a : Int) - b := by
  rw [Int32.toInt_sub, nI_toInt (by omega), nI_toInt (by omega)]
  exact Int.bmod_eq_of_le (by show -(((4294967296 : Nat) : Int) / 2) ≤ (a : Int) - b; omega) (by show (a : Int) - b < (((4294967296 : Nat) : Int) + 1) / 2; omega)
/-- a difference below nothing, kept from below -/
theorem dif_n {a b m : Nat} (ha : a < 2 ^ 30) (hb : b < 2 ^ 30) (hm : m < 2 ^ 30) : (if nI m < nI a - nI b then nI a - nI b else nI m) = nI (max m (a - b)) := by
  by_cases h : b ≤ a
  · rw [pk_sub h, ← max_n]
    simp (disch := omega) only [nI_ltI]
  · have e : ¬ nI m < nI a - nI b := by
      rw [Int32.lt_iff_toInt_lt, nI_toInt (by omega), sub_toInt ha hb]
      omega
    rw [if_neg e, Nat.max_eq_left (by omega)]
theorem shr_n : ∀ m, m < 64 → ∀ h, h < 6 → (nI m >>> (nI h &&& nI 31)) &&& nI 1 = nI (if m.testBit h = true then 1 else 0) := by decide +kernel
theorem shr_n5 {m h : Nat} (hm : m < 64) (hh : h < 6) : (nI m >>> (nI h &&& nI 31)) &&& nI 1 = nI (if m.testBit h = true then 1 else 0) := shr_n m hm h hh
theorem ite_nI {P : Prop} [Decidable P] {a b : Nat} : (if P then nI a else nI b) = nI (if P then a else b) := by
  by_cases h : P <;> simp [h]
theorem nI10 {P : Prop} [Decidable P] : (nI (if P then 1 else 0) = nI 0) = ¬ P := by rw [← ite_nI, ite_n]
theorem plv_S (q : Nat) : plv (q + 1) = nI q := rfl
theorem plv_0 : plv 0 = vN := rfl
