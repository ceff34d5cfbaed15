section
variable {L d : Nat} {Z : Option Value → jm_I2 → Prop}
theorem fill_loop {a n : Nat} {v : Int32} (hn : n < 10000) (hlw : jm_lw 9 a = n) : ∀ (m i : Nat) (S : jm_I2), i + m = n → (WQ L d 222 5 [.ref a, .int v, .int (nI i), .int (nI n)] [] S Z ↔ Z none (jm_row S a (fun k => if i ≤ k ∧ k < n then v else S a k)))
  | 0, i, S, h => by
    have e : jm_row S a (fun k => if i ≤ k ∧ k < n then v else S a k) = S := by
      funext o k
      rw [row_at]
      by_cases ho : o = a
      · rw [if_pos ho, if_neg (by omega), ho]
      · rw [if_neg ho]
    rw [e, w222_5]
    simp only [w222_6, w222_7, w222_10, w222_11, w222_12, w222_13, w222_14, w222_17, w222_20]
    simp (disch := omega) only [nI_leI, show n ≤ i by omega, if_true]
  | m + 1, i, S, h => by
    have ih := fill_loop (v := v) hn hlw m (i + 1) (jm_upd S a i v) (by omega)
    rw [w222_5]
    simp only [w222_6, w222_7, w222_10, w222_11, w222_12, w222_13, w222_14, w222_17, w222_20]
    simp (disch := omega) only [lit_nI, nI_leI, show ¬ n ≤ i by omega, if_false, hlw, jm_in_nI, nI_clamp, nI_add, show i < n by omega, true_and, ih]
    have e : jm_row (jm_upd S a i v) a (fun k => if i + 1 ≤ k ∧ k < n then v else jm_upd S a i v a k) = jm_row S a (fun k => if i ≤ k ∧ k < n then v else S a k) := by
      funext o k
      rw [row_at, row_at, upd_at, upd_at]
      by_cases ho : o = a
      · subst ho
        by_cases hk : k = i
        · subst hk
          simp [show k < n by omega]
        · by_cases hk2 : i ≤ k ∧ k < n
          · simp [hk2, show i + 1 ≤ k by omega]
          · have : ¬ (i + 1 ≤ k ∧ k < n) := by omega
            simp [hk, hk2, this]
      · simp [ho]
    rw [e]
theorem c_fill {a n : Nat} {v : Int32} {S : jm_I2} (hn : n < 10000) (hlw : jm_lw 9 a = n) (hla : jm_la L a = n) (hha : jm_ha L a = true) : CL L d 222 [.ref a, .int v] S Z ↔ Z none (jm_row S a (fun k => if k < n then v else S a k)) := by
  simp only [w222_0, w222_1, w222_2, w222_3, w222_4, cl222, hla, hha, true_and, lit_nI, fill_loop hn hlw n 0 S (by omega), Nat.zero_le]
end
