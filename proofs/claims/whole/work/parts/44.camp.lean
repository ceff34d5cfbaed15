/-! ===== a camp as numbers, laid as the reference lays it ===== -/
abbrev kT : Type := Nat → Nat
def kSt (k : kT) (h : Nat) : Nat := k (4 + 2 * h)
def kPl (k : kT) (h : Nat) : Nat := k (5 + 2 * h)
def kKd (k : kT) (r : Nat) : Nat := k (14 + 4 * r)
def kBt (k : kT) (r : Nat) : Nat := k (15 + 4 * r)
def kLs (k : kT) (r : Nat) : Nat := k (16 + 4 * r)
def kBr (k : kT) (r : Nat) : Nat := k (17 + 4 * r)
/-- what a hand plays, as the class has it -/
def plv (n : Nat) : Int32 := if n = 0 then -1000000 else nI (n - 1)
/-- a camp's object holds k -/
def RX (c : Nat) (S : jm_I2) (k : kT) : Prop := S c 0 = nI (k 2) ∧ S c 1 = nI (k 3) ∧ S c 2 = nI (k 1) ∧ S c 3 = nI (k 0) ∧ (∀ h, h < k 1 → S (c + 1) h = nI (kSt k h) ∧ S (c + 2) h = plv (kPl k h)) ∧ (∀ r, r < k 0 → S (c + 3) r = nI (kKd k r) ∧ S (c + 4) r = nI (kBt k r) ∧ S (c + 5) r = nI (kLs k r) ∧ S (c + 6) r = nI (kBr k r))
/-- bounds -/
def KV (k : kT) : Prop := k 0 ≤ 5 ∧ k 1 ≤ 5 ∧ k 2 ≤ 60 ∧ k 3 ≤ 100000 ∧ (∀ h, h < k 1 → kSt k h ≤ 20 ∧ kPl k h ≤ k 0) ∧ (∀ r, r < k 0 → 1 ≤ kKd k r ∧ kKd k r ≤ 5 ∧ kBt k r ≤ 60 ∧ 1 ≤ kLs k r ∧ kLs k r ≤ 9 ∧ kBr k r ≤ 63)
/-- rule r is played by hand h in this hour -/
def kPd (k : kT) (r h : Nat) : Bool := (if 4 ≤ kKd k r then decide (h = k 3 % k 1) else decide (kPl k h = r + 1)) && decide (0 < kSt k h)
/-- what a hand gives -/
def kWt (k : kT) (h : Nat) : Nat := if 10 ≤ kSt k h then 3 else 2
def kGn (k : kT) (r : Nat) : Nat → Nat
  | 0 => 0
  | n + 1 => kGn k r n + (if kPd k r n then kWt k n else 0)
section
variable {L d : Nat} {S : jm_I2} {Z : Option Value → jm_I2 → Prop}
/-- rows of the camp's own lists and fields -/
def camp_cells (c : Nat) (o : Nat) : Prop := c ≤ o ∧ o ≤ c + 9
theorem camp_ll (L : Nat) {c : Nat} (h : isCamp c) : jm_ll L (c + 1) = 5 ∧ jm_ll L (c + 2) = 5 ∧ jm_ll L (c + 3) = 5 ∧ jm_ll L (c + 4) = 5 ∧ jm_ll L (c + 5) = 5 ∧ jm_ll L (c + 6) = 5 ∧ jm_ll L (c + 7) = 5 ∧ jm_ll L (c + 8) = 5 ∧ jm_ll L (c + 9) = 5 := by
  have hs := camp_sh h
  have hc : c < 200 := by
    simp only [isCamp] at h
    omega
  have key : ∀ i, i ≤ 9 → jm_ll L (c + i) = jm_ll 0 (c + i) := fun i hi => ll_of (by show c + i ≠ 1000000; omega)
  rw [key 1 (by decide), key 2 (by decide), key 3 (by decide), key 4 (by decide), key 5 (by decide), key 6 (by decide), key 7 (by decide), key 8 (by decide), key 9 (by decide)]
  simp only [hs, and_self]
theorem c_addPlayer {c r h st p0 p1 g0 : Nat} (hc : isCamp c) (hr : r < 5) (hh : h < 5) (hst : S (c + 1) h = nI st) (hst2 : st < 100) (h1 : S (c + 7) r = nI p0) (h2 : S (c + 8) h = nI p1) (h3 : S (c + 9) r = nI g0) : CL L d 18 [.ref c, .int (nI r), .int (nI h)] S Z ↔ Z none (if 0 < st then jm_upd (jm_upd (jm_upd S (c + 7) r (nI (p0 ||| 2 ^ h))) (c + 8) h (nI (p1 ||| 2 ^ r))) (c + 9) r (nI (g0 + (if 10 ≤ st then 3 else 2))) else S) := by
  have hs := camp_sh hc
  have hl := camp_ll L hc
  simp only [cl18, w18_0, w18_1, w18_4, w18_5, w18_6, w18_9, w18_10, w18_13, w18_14, w18_15, w18_16, w18_17, w18_18, w18_19, w18_20, w18_21, w18_22, w18_25, w18_26, w18_27, w18_28, w18_29, w18_30, w18_31, w18_32, w18_33, w18_34, w18_37, w18_38, w18_39, w18_40, w18_41, w18_44, w18_45, w18_46, w18_48, w18_51, w18_52, w18_55, w18_56, w18_57, w18_58, hs, hl]
  clear hs hl
  simp (disch := omega) only [lit_nI, jm_in_nI, nI_clamp, hst, nI_leI, nI_ltI, upd_at, h1, h2, h3, shl_nI, or_nI, nI_add]
  by_cases hp : 0 < st
  · by_cases hq : 10 ≤ st
    · simp (disch := omega) [hr, hh, hp, hq, show ¬ st ≤ 0 by omega, show ¬ st = 0 by omega, show ¬ st < 10 by omega, or_nI, nI_add, nI_ltI]
    · simp (disch := omega) [hr, hh, hp, hq, show ¬ st ≤ 0 by omega, show ¬ st = 0 by omega, show st < 10 by omega, or_nI, nI_add, nI_ltI]
  · simp [hh, show st = 0 by omega]
end
