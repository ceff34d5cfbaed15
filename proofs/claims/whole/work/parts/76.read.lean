/-! ===== a camp is read: what is said ===== -/
def byt (b : Nat → Nat) (n p : Nat) : Nat := if p < n then b p else 256
def bI (b : Nat → Nat) (n p : Nat) : Int32 := if p < n then nI (b p) else vM
def dgt (b : Nat → Nat) (n p : Nat) : Bool := decide (48 ≤ byt b n p) && decide (byt b n p ≤ 57)
def nln (b : Nat → Nat) (n p : Nat) : Nat := if dgt b n p = true then (if dgt b n (p + 1) = true then (if dgt b n (p + 2) = true then 3 else 2) else 1) else 0
def nvl (b : Nat → Nat) (n p : Nat) : Nat := if dgt b n (p + 1) = true then 10 * (byt b n p - 48) + (byt b n (p + 1) - 48) else byt b n p - 48
def pB (b : Nat → Nat) (n c p f : Nat) : Nat × Nat := if f ≠ 0 then (p, f) else if byt b n p = c then (p + 1, 0) else (p, 1)
def pNb (b : Nat → Nat) (n lo hi p f : Nat) : Nat × Nat := if f ≠ 0 then (p, f) else if nln b n p = 0 ∨ nln b n p = 3 then (p, 1) else if lo ≤ nvl b n p ∧ nvl b n p ≤ hi then (p + nln b n p, 0) else (p, 2)
def srt (c : Nat) : Nat := if c = 115 then 1 else if c = 103 then 2 else if c = 119 then 3 else if c = 108 then 4 else if c = 111 then 5 else 0
def hP1 (b : Nat → Nat) (n p f : Nat) : Nat × Nat := pB b n 104 p f
def hP2 (b : Nat → Nat) (n p f : Nat) : Nat × Nat := pNb b n 0 20 (hP1 b n p f).1 (hP1 b n p f).2
def hP3 (b : Nat → Nat) (n p f : Nat) : Nat × Nat := pB b n 59 (hP2 b n p f).1 (hP2 b n p f).2
def addH (k : kT) (v : Nat) : kT := kU (kU k (4 + 2 * k 1) v) 1 (k 1 + 1)
def rH (b : Nat → Nat) (n p : Nat) (k : kT) : Nat × Nat × kT := if byt b n p = 104 ∧ 5 ≤ k 1 then (p, 3, k) else ((hP3 b n p 0).1, (hP3 b n p 0).2, addH k (nvl b n (hP1 b n p 0).1))
def gP1 (b : Nat → Nat) (n lo p f : Nat) : Nat × Nat := pNb b n 0 lo p f
def gP2 (b : Nat → Nat) (n lo p f : Nat) : Nat × Nat := pB b n 44 (gP1 b n lo p f).1 (gP1 b n lo p f).2
def gP3 (b : Nat → Nat) (n lo p f : Nat) : Nat × Nat := pNb b n 1 9 (gP2 b n lo p f).1 (gP2 b n lo p f).2
def gP4 (b : Nat → Nat) (n lo p f : Nat) : Nat × Nat := pB b n 44 (gP3 b n lo p f).1 (gP3 b n lo p f).2
def gP5 (b : Nat → Nat) (n lo p f : Nat) : Nat × Nat := pNb b n 0 63 (gP4 b n lo p f).1 (gP4 b n lo p f).2
def gP6 (b : Nat → Nat) (n lo p f : Nat) : Nat × Nat := pB b n 59 (gP5 b n lo p f).1 (gP5 b n lo p f).2
def addR (k : kT) (kd bt ls br : Nat) : kT := kU (kU (kU (kU (kU k (14 + 4 * k 0) kd) (14 + 4 * k 0 + 1) bt) (14 + 4 * k 0 + 2) ls) (14 + 4 * k 0 + 3) br) 0 (k 0 + 1)
def rR (b : Nat → Nat) (n p : Nat) (k : kT) : Nat × Nat × kT := if srt (byt b n p) = 0 then (p, 1, k) else if 5 ≤ k 0 then (p, 3, k) else ((gP6 b n (k 2) (p + 1) 0).1, (gP6 b n (k 2) (p + 1) 0).2, addR k (srt (byt b n p)) (nvl b n (p + 1)) (nvl b n (gP2 b n (k 2) (p + 1) 0).1) (nvl b n (gP4 b n (k 2) (p + 1) 0).1))
def hnd (b : Nat → Nat) (n : Nat) : Nat → Nat × Nat × kT → Nat × Nat × kT
  | 0, s => s
  | g + 1, s => if s.2.1 = 0 ∧ byt b n s.1 = 104 then hnd b n g (rH b n s.1 s.2.2) else s
def rul (b : Nat → Nat) (n : Nat) : Nat → Nat × Nat × kT → Nat × Nat × kT
  | 0, s => s
  | g + 1, s => if s.2.1 = 0 ∧ s.1 < n then rul b n g (rR b n s.1 s.2.2) else s
def fP1 (b : Nat → Nat) (n : Nat) : Nat × Nat := pB b n 102 0 0
def fP2 (b : Nat → Nat) (n : Nat) : Nat × Nat := pNb b n 10 60 (fP1 b n).1 (fP1 b n).2
def fP3 (b : Nat → Nat) (n : Nat) : Nat × Nat := pB b n 59 (fP2 b n).1 (fP2 b n).2
def kL (b : Nat → Nat) (n : Nat) : kT := kU (fun _ => 0) 2 (nvl b n (fP1 b n).1)
def pS1 (b : Nat → Nat) (n : Nat) : Nat × Nat × kT := if (fP3 b n).2 = 0 then rH b n (fP3 b n).1 (kL b n) else ((fP3 b n).1, (fP3 b n).2, kL b n)
def pS2 (b : Nat → Nat) (n : Nat) : Nat × Nat × kT := hnd b n 5 (pS1 b n)
def pS3 (b : Nat → Nat) (n : Nat) : Nat × Nat × kT := if (pS2 b n).2.1 = 0 then rR b n (pS2 b n).1 (pS2 b n).2.2 else pS2 b n
def pS4 (b : Nat → Nat) (n : Nat) : Nat × Nat × kT := rul b n 5 (pS3 b n)
def DV (k : kT) : Prop := KV k ∧ k 3 = 0 ∧ ∀ h, h < 5 → k (5 + 2 * h) = 0
/-- a good state -/
def GS (n : Nat) (s : Nat × Nat × kT) : Prop := s.1 ≤ n ∧ s.2.1 ≤ 3 ∧ (s.2.1 = 0 → DV s.2.2)
theorem byt_lt {b : Nat → Nat} {n p : Nat} (h : byt b n p < 256) : p < n ∧ byt b n p = b p := by
  unfold byt at h ⊢
  by_cases c : p < n
  · rw [if_pos c]; exact ⟨c, rfl⟩
  · rw [if_neg c] at h; omega
theorem byt_in {b : Nat → Nat} {n p : Nat} (h : p < n) : byt b n p = b p := if_pos h
theorem byt_out {b : Nat → Nat} {n p : Nat} (h : n ≤ p) : byt b n p = 256 := if_neg (by omega)
theorem dgt_T {b : Nat → Nat} {n p : Nat} (h : dgt b n p = true) : p < n ∧ byt b n p = b p ∧ 48 ≤ b p ∧ b p ≤ 57 := by
  unfold dgt at h
  simp at h
  obtain ⟨h1, h2⟩ := byt_lt (show byt b n p < 256 by omega)
  omega
theorem dgt_F {b : Nat → Nat} {n p : Nat} (h : dgt b n p = false) : ¬ (48 ≤ byt b n p ∧ byt b n p ≤ 57) := by
  unfold dgt at h
  simp at h
  omega
theorem nln_le {b : Nat → Nat} {n p : Nat} : nln b n p ≤ 3 := by
  unfold nln
  split
  · split
    · split <;> omega
    · omega
  · omega
theorem nln_in {b : Nat → Nat} {n p : Nat} (hp : p ≤ n) : p + nln b n p ≤ n := by
  unfold nln
  split
  · rename_i h0
    have := dgt_T h0
    split
    · rename_i h1
      have := dgt_T h1
      split
      · rename_i h2
        have := dgt_T h2
        omega
      · omega
    · omega
  · omega
theorem nvl_le {b : Nat → Nat} {n p : Nat} (h : nln b n p = 1 ∨ nln b n p = 2) : nvl b n p ≤ 99 := by
  unfold nln at h
  unfold nvl
  by_cases c0 : dgt b n p = true
  · have := dgt_T c0
    by_cases c1 : dgt b n (p + 1) = true
    · have := dgt_T c1
      rw [if_pos c1]
      omega
    · rw [if_neg c1]
      omega
  · rw [if_neg c0] at h
    omega
theorem pB_z {b : Nat → Nat} {n c p f : Nat} (h : (pB b n c p f).2 = 0) : f = 0 ∧ byt b n p = c ∧ (pB b n c p f).1 = p + 1 := by
  unfold pB at h ⊢
  by_cases c1 : f ≠ 0
  · rw [if_pos c1] at h; exact absurd h c1
  · rw [if_neg c1] at h ⊢
    by_cases c2 : byt b n p = c
    · rw [if_pos c2]; exact ⟨by omega, c2, rfl⟩
    · rw [if_neg c2] at h; exact absurd h (show ¬ 1 = 0 by decide)
theorem pN_z {b : Nat → Nat} {n lo hi p f : Nat} (h : (pNb b n lo hi p f).2 = 0) : f = 0 ∧ lo ≤ nvl b n p ∧ nvl b n p ≤ hi := by
  unfold pNb at h
  by_cases c1 : f ≠ 0
  · rw [if_pos c1] at h; exact absurd h c1
  · rw [if_neg c1] at h
    by_cases c2 : nln b n p = 0 ∨ nln b n p = 3
    · rw [if_pos c2] at h; exact absurd h (show ¬ 1 = 0 by decide)
    · rw [if_neg c2] at h
      by_cases c3 : lo ≤ nvl b n p ∧ nvl b n p ≤ hi
      · exact ⟨by omega, c3.1, c3.2⟩
      · rw [if_neg c3] at h; exact absurd h (show ¬ 2 = 0 by decide)
theorem pB_le {b : Nat → Nat} {n c p f : Nat} (hp : p ≤ n) (hf : f ≤ 3) (hc : c < 256) : (pB b n c p f).1 ≤ n ∧ (pB b n c p f).2 ≤ 3 := by
  unfold pB
  by_cases c1 : f ≠ 0
  · rw [if_pos c1]; exact ⟨hp, hf⟩
  · rw [if_neg c1]
    by_cases c2 : byt b n p = c
    · have := (byt_lt (show byt b n p < 256 by omega)).1
      rw [if_pos c2]
      exact ⟨this, show 0 ≤ 3 by decide⟩
    · rw [if_neg c2]; exact ⟨hp, show 1 ≤ 3 by decide⟩
theorem pN_le {b : Nat → Nat} {n lo hi p f : Nat} (hp : p ≤ n) (hf : f ≤ 3) : (pNb b n lo hi p f).1 ≤ n ∧ (pNb b n lo hi p f).2 ≤ 3 := by
  unfold pNb
  by_cases c1 : f ≠ 0
  · rw [if_pos c1]; exact ⟨hp, hf⟩
  · rw [if_neg c1]
    split
    · exact ⟨hp, show 1 ≤ 3 by decide⟩
    · split
      · exact ⟨nln_in hp, show 0 ≤ 3 by decide⟩
      · exact ⟨hp, show 2 ≤ 3 by decide⟩
theorem srt_le (c : Nat) : srt c ≤ 5 := by
  unfold srt
  split
  · omega
  · split
    · omega
    · split
      · omega
      · split
        · omega
        · split <;> omega
theorem srt_pos {c : Nat} (h : srt c ≠ 0) : 97 ≤ c ∧ c ≤ 122 := by
  unfold srt at h
  by_cases c1 : c = 115
  · omega
  · by_cases c2 : c = 103
    · omega
    · by_cases c3 : c = 119
      · omega
      · by_cases c4 : c = 108
        · omega
        · by_cases c5 : c = 111
          · omega
          · rw [if_neg c1, if_neg c2, if_neg c3, if_neg c4, if_neg c5] at h
            exact absurd rfl h
theorem hP_le {b : Nat → Nat} {n p f : Nat} (hp : p ≤ n) (hf : f ≤ 3) : ((hP1 b n p f).1 ≤ n ∧ (hP1 b n p f).2 ≤ 3) ∧ ((hP2 b n p f).1 ≤ n ∧ (hP2 b n p f).2 ≤ 3) ∧ ((hP3 b n p f).1 ≤ n ∧ (hP3 b n p f).2 ≤ 3) := by
  have h1 : (hP1 b n p f).1 ≤ n ∧ (hP1 b n p f).2 ≤ 3 := pB_le hp hf (by decide)
  have h2 : (hP2 b n p f).1 ≤ n ∧ (hP2 b n p f).2 ≤ 3 := pN_le h1.1 h1.2
  exact ⟨h1, h2, pB_le h2.1 h2.2 (by decide)⟩
theorem gP_le {b : Nat → Nat} {n lo p f : Nat} (hp : p ≤ n) (hf : f ≤ 3) : ((gP1 b n lo p f).1 ≤ n ∧ (gP1 b n lo p f).2 ≤ 3) ∧ ((gP2 b n lo p f).1 ≤ n ∧ (gP2 b n lo p f).2 ≤ 3) ∧ ((gP3 b n lo p f).1 ≤ n ∧ (gP3 b n lo p f).2 ≤ 3) ∧ ((gP4 b n lo p f).1 ≤ n ∧ (gP4 b n lo p f).2 ≤ 3) ∧ ((gP5 b n lo p f).1 ≤ n ∧ (gP5 b n lo p f).2 ≤ 3) ∧ ((gP6 b n lo p f).1 ≤ n ∧ (gP6 b n lo p f).2 ≤ 3) := by
  have h1 : (gP1 b n lo p f).1 ≤ n ∧ (gP1 b n lo p f).2 ≤ 3 := pN_le hp hf
  have h2 : (gP2 b n lo p f).1 ≤ n ∧ (gP2 b n lo p f).2 ≤ 3 := pB_le h1.1 h1.2 (by decide)
  have h3 : (gP3 b n lo p f).1 ≤ n ∧ (gP3 b n lo p f).2 ≤ 3 := pN_le h2.1 h2.2
  have h4 : (gP4 b n lo p f).1 ≤ n ∧ (gP4 b n lo p f).2 ≤ 3 := pB_le h3.1 h3.2 (by decide)
  have h5 : (gP5 b n lo p f).1 ≤ n ∧ (gP5 b n lo p f).2 ≤ 3 := pN_le h4.1 h4.2
  exact ⟨h1, h2, h3, h4, h5, pB_le h5.1 h5.2 (by decide)⟩
theorem hP_z {b : Nat → Nat} {n p f : Nat} (h : (hP3 b n p f).2 = 0) : f = 0 ∧ (hP1 b n p f).2 = 0 ∧ (hP2 b n p f).2 = 0 ∧ nvl b n (hP1 b n p f).1 ≤ 20 := by
  have h2 := (pB_z (p := (hP2 b n p f).1) h).1
  obtain ⟨h1, -, h5⟩ := pN_z (p := (hP1 b n p f).1) h2
  exact ⟨(pB_z h1).1, h1, h2, h5⟩
theorem gP_z {b : Nat → Nat} {n lo p f : Nat} (h : (gP6 b n lo p f).2 = 0) : f = 0 ∧ (gP1 b n lo p f).2 = 0 ∧ (gP3 b n lo p f).2 = 0 ∧ (gP5 b n lo p f).2 = 0 ∧ nvl b n p ≤ lo ∧ 1 ≤ nvl b n (gP2 b n lo p f).1 ∧ nvl b n (gP2 b n lo p f).1 ≤ 9 ∧ nvl b n (gP4 b n lo p f).1 ≤ 63 := by
  have h5 := (pB_z (p := (gP5 b n lo p f).1) h).1
  obtain ⟨h4, -, a⟩ := pN_z (p := (gP4 b n lo p f).1) h5
  have h3 := (pB_z (p := (gP3 b n lo p f).1) h4).1
  obtain ⟨h2, c1, c2⟩ := pN_z (p := (gP2 b n lo p f).1) h3
  have h1 := (pB_z (p := (gP1 b n lo p f).1) h2).1
  obtain ⟨h0, -, e⟩ := pN_z (p := p) h1
  exact ⟨h0, h1, h3, h5, e, c1, c2, a⟩
theorem addH_low (k : kT) (v : Nat) : addH k v 0 = k 0 ∧ addH k v 1 = k 1 + 1 ∧ addH k v 2 = k 2 ∧ addH k v 3 = k 3 := by
  unfold addH
  refine ⟨?_, kU_eq _ _ _, ?_, ?_⟩ <;> rw [kU_ne (by omega), kU_ne (by omega)]
theorem addR_low (k : kT) (a c e g : Nat) : addR k a c e g 0 = k 0 + 1 ∧ addR k a c e g 1 = k 1 ∧ addR k a c e g 2 = k 2 ∧ addR k a c e g 3 = k 3 := by
  unfold addR
  refine ⟨kU_eq _ _ _, ?_, ?_, ?_⟩ <;> rw [kU_ne (by omega), kU_ne (by omega), kU_ne (by omega), kU_ne (by omega), kU_ne (by omega)]
theorem DV_addH {k : kT} {v : Nat} (h : DV k) (h1 : k 1 < 5) (hv : v ≤ 20) : DV (addH k v) := by
  obtain ⟨hV, h3, hp⟩ := h
  obtain ⟨v0, v1, v2, v3, v4, v5⟩ := hV
  obtain ⟨l0, l1, l2, l3⟩ := addH_low k v
  have hi : ∀ i, 14 ≤ i → addH k v i = k i := fun i q => by
    unfold addH
    rw [kU_ne (by omega), kU_ne (by omega)]
  have hpl : ∀ g, g < 5 → addH k v (5 + 2 * g) = k (5 + 2 * g) := fun g q => by
    unfold addH
    rw [kU_ne (by omega), kU_ne (by omega)]
  have hst : ∀ g, g < 5 → addH k v (4 + 2 * g) = if g = k 1 then v else k (4 + 2 * g) := fun g q => by
    unfold addH
    rw [kU_ne (by omega)]
    by_cases e : g = k 1
    · rw [if_pos e, e, kU_eq]
    · rw [if_neg e, kU_ne (by omega)]
  refine ⟨⟨by omega, by omega, by omega, by omega, fun g hg => ⟨?_, ?_⟩, fun r hr => ?_⟩, by omega, fun g hg => by rw [hpl g hg]; exact hp g hg⟩
  · unfold kSt
    rw [hst g (by omega)]
    by_cases e : g = k 1
    · rw [if_pos e]; exact hv
    · rw [if_neg e]; exact (v4 g (by omega)).1
  · unfold kPl
    rw [hpl g (by omega), hp g (by omega)]
    exact Nat.zero_le _
  · unfold kKd kBt kLs kBr
    rw [hi _ (by omega), hi _ (by omega), hi _ (by omega), hi _ (by omega)]
    exact v5 r (by omega)
theorem addR_at (k : kT) (a c e g : Nat) : addR k a c e g (14 + 4 * k 0) = a ∧ addR k a c e g (14 + 4 * k 0 + 1) = c ∧ addR k a c e g (14 + 4 * k 0 + 2) = e ∧ addR k a c e g (14 + 4 * k 0 + 3) = g := by
  unfold addR
  refine ⟨?_, ?_, ?_, ?_⟩
  · rw [kU_ne (by omega), kU_ne (by omega), kU_ne (by omega), kU_ne (by omega), kU_eq]
  · rw [kU_ne (by omega), kU_ne (by omega), kU_ne (by omega), kU_eq]
  · rw [kU_ne (by omega), kU_ne (by omega), kU_eq]
  · rw [kU_ne (by omega), kU_eq]
theorem addR_ne {k : kT} {a c e g i : Nat} (h0 : i ≠ 0) (h : i < 14 + 4 * k 0 ∨ 14 + 4 * k 0 + 4 ≤ i) : addR k a c e g i = k i := by
  unfold addR
  rw [kU_ne (by omega), kU_ne (by omega), kU_ne (by omega), kU_ne (by omega), kU_ne (by omega)]
theorem DV_addR {k : kT} {a c e g : Nat} (h : DV k) (h0 : k 0 < 5) (ha : 1 ≤ a) (ha2 : a ≤ 5) (hc : c ≤ 60) (he : 1 ≤ e) (he2 : e ≤ 9) (hg : g ≤ 63) : DV (addR k a c e g) := by
  obtain ⟨hV, h3, hp⟩ := h
  obtain ⟨v0, v1, v2, v3, v4, v5⟩ := hV
  obtain ⟨l0, l1, l2, l3⟩ := addR_low k a c e g
  obtain ⟨q0, q1, q2, q3⟩ := addR_at k a c e g
  refine ⟨⟨by omega, by omega, by omega, by omega, fun x hx => ?_, fun r hr => ?_⟩, by omega, fun x hx => by rw [addR_ne (by omega) (by omega)]; exact hp x hx⟩
  · unfold kSt kPl
    rw [addR_ne (by omega) (by omega), addR_ne (by omega) (by omega)]
    have := v4 x (by omega)
    exact ⟨this.1, by rw [hp x (by omega)]; exact Nat.zero_le _⟩
  · unfold kKd kBt kLs kBr
    by_cases er : r = k 0
    · subst er
      rw [show 15 + 4 * k 0 = 14 + 4 * k 0 + 1 by omega, show 16 + 4 * k 0 = 14 + 4 * k 0 + 2 by omega, show 17 + 4 * k 0 = 14 + 4 * k 0 + 3 by omega, q0, q1, q2, q3]
      omega
    · rw [addR_ne (by omega) (by omega), addR_ne (by omega) (by omega), addR_ne (by omega) (by omega), addR_ne (by omega) (by omega)]
      exact v5 r (by omega)
theorem GS_rH {b : Nat → Nat} {n p : Nat} {k : kT} (hp : p ≤ n) (hD : DV k) : GS n (rH b n p k) ∧ ((rH b n p k).2.1 = 0 → (rH b n p k).2.2 1 = k 1 + 1 ∧ (rH b n p k).2.2 0 = k 0) := by
  unfold rH
  by_cases c : byt b n p = 104 ∧ 5 ≤ k 1
  · rw [if_pos c]
    exact ⟨⟨hp, Nat.le_refl _, fun q => absurd q (show ¬ 3 = 0 by decide)⟩, fun q => absurd q (show ¬ 3 = 0 by decide)⟩
  · rw [if_neg c]
    have hl := (hP_le (b := b) hp (show 0 ≤ 3 by decide)).2.2
    refine ⟨⟨hl.1, hl.2, fun q => ?_⟩, fun _ => ⟨(addH_low k (nvl b n (hP1 b n p 0).1)).2.1, (addH_low k (nvl b n (hP1 b n p 0).1)).1⟩⟩
    obtain ⟨-, a1, a2, a3⟩ := hP_z (show (hP3 b n p 0).2 = 0 from q)
    have a4 := (pB_z a1).2.1
    exact DV_addH hD (by omega) a3
theorem GS_rR {b : Nat → Nat} {n p : Nat} {k : kT} (hp : p ≤ n) (hD : DV k) : GS n (rR b n p k) ∧ ((rR b n p k).2.1 = 0 → (rR b n p k).2.2 1 = k 1 ∧ (rR b n p k).2.2 0 = k 0 + 1) := by
  unfold rR
  by_cases c : srt (byt b n p) = 0
  · rw [if_pos c]
    exact ⟨⟨hp, show 1 ≤ 3 by decide, fun q => absurd q (show ¬ 1 = 0 by decide)⟩, fun q => absurd q (show ¬ 1 = 0 by decide)⟩
  · rw [if_neg c]
    by_cases c2 : 5 ≤ k 0
    · rw [if_pos c2]
      exact ⟨⟨hp, Nat.le_refl _, fun q => absurd q (show ¬ 3 = 0 by decide)⟩, fun q => absurd q (show ¬ 3 = 0 by decide)⟩
    · rw [if_neg c2]
      have hs := srt_pos c
      have hs5 := srt_le (byt b n p)
      have hpn := (byt_lt (show byt b n p < 256 by omega)).1
      have hl := (gP_le (b := b) (lo := k 2) (show p + 1 ≤ n by omega) (show 0 ≤ 3 by decide)).2.2.2.2.2
      refine ⟨⟨hl.1, hl.2, fun q => ?_⟩, fun _ => ⟨(addR_low k (srt (byt b n p)) (nvl b n (p + 1)) (nvl b n (gP2 b n (k 2) (p + 1) 0).1) (nvl b n (gP4 b n (k 2) (p + 1) 0).1)).2.1, (addR_low k (srt (byt b n p)) (nvl b n (p + 1)) (nvl b n (gP2 b n (k 2) (p + 1) 0).1) (nvl b n (gP4 b n (k 2) (p + 1) 0).1)).1⟩⟩
      obtain ⟨-, -, -, -, a1, a2, a3, a4⟩ := gP_z (show (gP6 b n (k 2) (p + 1) 0).2 = 0 from q)
      have v2 := hD.1.2.2.1
      exact DV_addR hD (by omega) (by omega) hs5 (by omega) a2 a3 a4
theorem bI_eq {b : Nat → Nat} {n p c : Nat} (hb : ∀ i, i < n → b i ≤ 255) (hc : c ≤ 255) : (bI b n p = nI c) ↔ byt b n p = c := by
  unfold bI byt
  by_cases h : p < n
  · have := hb p h
    rw [if_pos h, if_pos h, nI_eq (by omega) (by omega)]
  · rw [if_neg h, if_neg h]
    constructor
    · intro q
      have e := congrArg Int32.toInt q
      rw [vM_toInt, nI_toInt (by omega)] at e
      omega
    · intro q; omega
theorem bI_vM {b : Nat → Nat} {n p : Nat} (hb : ∀ i, i < n → b i ≤ 255) : (bI b n p = vM) ↔ ¬ p < n := by
  unfold bI
  by_cases h : p < n
  · have := hb p h
    rw [if_pos h]
    constructor
    · intro q
      have e := congrArg Int32.toInt q
      rw [vM_toInt, nI_toInt (by omega)] at e
      omega
    · intro q; exact absurd h q
  · rw [if_neg h]
    exact ⟨fun _ => h, fun _ => rfl⟩
theorem bI_dg {b : Nat → Nat} {n p : Nat} (hb : ∀ i, i < n → b i ≤ 255) : (nI 48 ≤ bI b n p ∧ bI b n p ≤ nI 57) ↔ dgt b n p = true := by
  unfold bI dgt byt
  by_cases h : p < n
  · have := hb p h
    rw [if_pos h, if_pos h, nI_leI (by decide) (by omega), nI_leI (by omega) (by decide)]
    simp
  · rw [if_neg h, if_neg h]
    constructor
    · intro q
      have q1 := q.1
      rw [Int32.le_iff_toInt_le, vM_toInt, nI_toInt (by decide)] at q1
      omega
    · intro q
      simp at q
theorem bI_T {b : Nat → Nat} {n p : Nat} (h : dgt b n p = true) : bI b n p = nI (b p) := if_pos (dgt_T h).1
/-! ===== a camp is read: the class ===== -/
def CP (b : Nat → Nat) (n p f : Nat) (S : jm_I2) : Prop := S 13 1 = nI n ∧ (∀ i, i < n → S 14 i = nI (b i)) ∧ S 13 3 = nI p ∧ S 13 4 = nI f
theorem CP_at {b : Nat → Nat} {n p p' f : Nat} {S : jm_I2} (h : CP b n p f S) : CP b n p' f (jm_upd S 13 3 (nI p')) := by
  obtain ⟨h1, h2, h3, h4⟩ := h
  refine ⟨?_, fun i hi => ?_, ?_, ?_⟩
  · rw [upd_at, if_neg (by omega), h1]
  · rw [upd_ne (by decide)]; exact h2 i hi
  · rw [upd_at, if_pos ⟨rfl, rfl⟩]
  · rw [upd_at, if_neg (by omega), h4]
theorem CP_ft {b : Nat → Nat} {n p f f' : Nat} {S : jm_I2} (h : CP b n p f S) : CP b n p f' (jm_upd S 13 4 (nI f')) := by
  obtain ⟨h1, h2, h3, h4⟩ := h
  refine ⟨?_, fun i hi => ?_, ?_, ?_⟩
  · rw [upd_at, if_neg (by omega), h1]
  · rw [upd_ne (by decide)]; exact h2 i hi
  · rw [upd_at, if_neg (by omega), h3]
  · rw [upd_at, if_pos ⟨rfl, rfl⟩]
theorem CP_of {b : Nat → Nat} {n p f : Nat} {S T : jm_I2} (h : CP b n p f S) (f1 : T 13 = S 13) (f2 : T 14 = S 14) : CP b n p f T := by
  unfold CP at h ⊢
  rw [f1, f2]
  exact h
theorem isC15 : isCamp 15 := Or.inl rfl
theorem RX_addH {c v : Nat} {T : jm_I2} {k : kT} (h : RX c T k) (hD : DV k) (h1 : k 1 < 5) : RX c (jm_upd (jm_upd (jm_upd T (c + 1) (k 1) (nI v)) (c + 2) (k 1) vN) c 2 (nI (k 1 + 1))) (addH k v) := by
  obtain ⟨x0, x1, x2, x3, x4, x5⟩ := h
  obtain ⟨hV, h3, hp⟩ := hD
  have v0 := hV.1
  obtain ⟨l0, l1, l2, l3⟩ := addH_low k v
  have hi : ∀ i, 14 ≤ i → addH k v i = k i := fun i q => by
    unfold addH
    rw [kU_ne (by omega), kU_ne (by omega)]
  have hpl : ∀ g, g < 5 → addH k v (5 + 2 * g) = k (5 + 2 * g) := fun g q => by
    unfold addH
    rw [kU_ne (by omega), kU_ne (by omega)]
  have hst : ∀ g, g < 5 → addH k v (4 + 2 * g) = if g = k 1 then v else k (4 + 2 * g) := fun g q => by
    unfold addH
    rw [kU_ne (by omega)]
    by_cases e : g = k 1
    · rw [if_pos e, e, kU_eq]
    · rw [if_neg e, kU_ne (by omega)]
  unfold RX
  rw [l0, l1, l2, l3]
  refine ⟨?_, ?_, ?_, ?_, fun g hg => ?_, fun r hr => ?_⟩
  · simp (disch := omega) only [upd_at, n_eq_f, and_false, false_and, if_false, x0]
  · simp (disch := omega) only [upd_at, n_eq_f, and_false, false_and, if_false, x1]
  · simp (disch := omega) only [upd_at, and_self, if_true]
  · simp (disch := omega) only [upd_at, n_eq_f, and_false, false_and, if_false, x3]
  · unfold kSt kPl
    rw [hst g (by omega), hpl g (by omega), hp g (by omega)]
    by_cases e : g = k 1
    · subst e
      rw [if_pos rfl]
      simp (disch := omega) only [upd_at, n_eq_f, and_false, false_and, and_true, true_and, and_self, if_false, if_true]
      rfl
    · have y := x4 g (by omega)
      rw [if_neg e]
      unfold kSt kPl at y
      rw [hp g (by omega)] at y
      simp (disch := omega) only [upd_at, n_eq_f, and_false, false_and, and_true, true_and, and_self, if_false, if_true, e, y]
  · unfold kKd kBt kLs kBr
    rw [hi _ (by omega), hi _ (by omega), hi _ (by omega), hi _ (by omega)]
    obtain ⟨y1, y2, y3, y4⟩ := x5 r hr
    unfold kKd at y1
    unfold kBt at y2
    unfold kLs at y3
    unfold kBr at y4
    simp (disch := omega) only [upd_at, n_eq_f, and_false, false_and, and_true, true_and, and_self, if_false, if_true, y1, y2, y3, y4]
theorem RX_addR {c a e g l : Nat} {T : jm_I2} {k : kT} (h : RX c T k) (hD : DV k) (h0 : k 0 < 5) : RX c (jm_upd (jm_upd (jm_upd (jm_upd (jm_upd T (c + 3) (k 0) (nI a)) (c + 4) (k 0) (nI e)) (c + 5) (k 0) (nI l)) (c + 6) (k 0) (nI g)) c 3 (nI (k 0 + 1))) (addR k a e l g) := by
  obtain ⟨x0, x1, x2, x3, x4, x5⟩ := h
  obtain ⟨hV, h3, hp⟩ := hD
  have v1 := hV.2.1
  obtain ⟨l0, l1, l2, l3⟩ := addR_low k a e l g
  obtain ⟨q0, q1, q2, q3⟩ := addR_at k a e l g
  unfold RX
  rw [l0, l1, l2, l3]
  refine ⟨?_, ?_, ?_, ?_, fun x hx => ?_, fun r hr => ?_⟩
  · simp (disch := omega) only [upd_at, n_eq_f, and_false, false_and, if_false, x0]
  · simp (disch := omega) only [upd_at, n_eq_f, and_false, false_and, if_false, x1]
  · simp (disch := omega) only [upd_at, n_eq_f, and_false, false_and, if_false, x2]
  · simp (disch := omega) only [upd_at, and_self, if_true]
  · unfold kSt kPl
    rw [addR_ne (by omega) (by omega), addR_ne (by omega) (by omega)]
    have y := x4 x hx
    unfold kSt kPl at y
    simp (disch := omega) only [upd_at, n_eq_f, and_false, false_and, if_false, y, and_self]
  · unfold kKd kBt kLs kBr
    by_cases er : r = k 0
    · subst er
      rw [show 15 + 4 * k 0 = 14 + 4 * k 0 + 1 by omega, show 16 + 4 * k 0 = 14 + 4 * k 0 + 2 by omega, show 17 + 4 * k 0 = 14 + 4 * k 0 + 3 by omega, q0, q1, q2, q3]
      simp (disch := omega) only [upd_at, n_eq_f, and_false, false_and, and_true, true_and, and_self, if_false, if_true]
    · rw [addR_ne (by omega) (by omega), addR_ne (by omega) (by omega), addR_ne (by omega) (by omega), addR_ne (by omega) (by omega)]
      obtain ⟨y1, y2, y3, y4⟩ := x5 r (by omega)
      unfold kKd at y1
      unfold kBt at y2
      unfold kLs at y3
      unfold kBr at y4
      simp (disch := omega) only [upd_at, n_eq_f, and_false, false_and, and_true, true_and, and_self, if_false, if_true, er, y1, y2, y3, y4]
def offK (S T : jm_I2) : Prop := ∀ o, o ≠ 13 → ¬ (15 ≤ o ∧ o ≤ 24) → T o = S o
section
variable {xs : Nat → Int32} {L d : Nat} {S : jm_I2} {k : kT} {Z : Option Value → jm_I2 → Prop} {b : Nat → Nat} {n p f : Nat}
theorem c_byteAt {q : Nat} (h : CP b n p f S) (hn : n ≤ 120) (hq : q < 1000) : CL L (d + 1) 56 [.ref 13, .int (nI q)] S Z ↔ Z (some (.int (bI b n q))) S := by
  have ht := top_sh L
  obtain ⟨h1, h2, h3, h4⟩ := h
  have q1 := isN_iff (v := nI q) (n := n) (by omega)
  have q2 := isN_nI (q := q) (n := n) (by omega)
  unfold bI
  by_cases c : q < n
  · have e := h2 q c
    have e2 : isN (nI q) n = true := by rw [q2]; simp [c]
    rw [if_pos c]
    simp (disch := omega) only [cl56, w56_0, w56_1, w56_2, w56_3, w56_6, w56_7, w56_8, w56_11, w56_14, w56_15, w56_18, w56_19, w56_20, w56_23, w56_24, ht, lit_nI, c_withinP, h1, q1, e2, true_and, if_true, if_false, Option.toList_some, List.singleton_append, nI_eq, n_eq_t, n_eq_f, jm_in_nI, nI_clamp, n_lt_t, e]
  · have e2 : isN (nI q) n = false := by rw [q2]; simp; omega
    rw [if_neg c]
    simp (disch := omega) only [cl56, w56_0, w56_1, w56_2, w56_3, w56_6, w56_7, w56_8, w56_11, w56_14, w56_15, w56_18, w56_19, w56_20, w56_23, w56_24, ht, ↓neg_vM, lit_nI, c_withinP, h1, q1, e2, true_and, if_true, if_false, Option.toList_some, List.singleton_append, nI_eq, n_eq_t, n_eq_f, Bool.false_eq_true]
theorem c_next (h : CP b n p f S) (hn : n ≤ 120) (hp : p < 1000) : CL L (d + 2) 55 [.ref 13] S Z ↔ Z (some (.int (bI b n p))) S := by
  have ht := top_sh L
  have h3 := h.2.2.1
  simp (disch := omega) only [cl55, w55_0, w55_1, w55_2, w55_5, w55_8, ht, ↓neg_vM, ↓neg_vB, ↓neg_vS, ↓neg_vF, ↓neg_vO, ↓neg_vA, ↓neg_vN, lit_nI, nI_leI, nI_ltI, nI_eq, jm_in_nI, nI_clamp, nI_add, n_mul, pk_sub, n_le_t, n_le_f, n_lt_t, n_lt_f, n_eq_t, n_eq_f, true_and, and_true, ne_eq, not_false_eq_true, not_true_eq_false, min_n, max_n, dif_n, n_rem, n_div, or_nI, shl_nI, Option.toList_some, Option.toList_none, List.singleton_append, List.nil_append, if_true, if_false, or_true, true_or, or_false, false_or, and_false, false_and, Bool.false_eq_true, h3, c_byteAt h hn hp]
theorem c_readByte {c : Nat} (h : CP b n p f S) (hn : n ≤ 120) (hp : p ≤ n) (hf : f ≤ 3) (hb : ∀ i, i < n → b i ≤ 255) (hc : c ≤ 255) (hZ : ∀ T, CP b n (pB b n c p f).1 (pB b n c p f).2 T → (∀ o, o ≠ 13 → T o = S o) → Z none T) : CL L (d + 3) 57 [.ref 13, .int (nI c)] S Z := by
  have ht := top_sh L
  have h3 := h.2.2.1
  have h4 := h.2.2.2
  unfold pB at hZ
  by_cases c1 : f = 0
  · subst c1
    by_cases c2 : byt b n p = c
    · rw [if_neg (by decide), if_pos c2] at hZ
      simp (disch := omega) only [cl57, w57_0, w57_1, w57_4, w57_7, w57_8, w57_9, w57_12, w57_13, w57_16, w57_17, w57_18, w57_21, w57_22, w57_23, w57_26, w57_29, w57_30, w57_31, w57_34, ht, ↓neg_vM, ↓neg_vB, ↓neg_vS, ↓neg_vF, ↓neg_vO, ↓neg_vA, ↓neg_vN, lit_nI, nI_leI, nI_ltI, nI_eq, jm_in_nI, nI_clamp, nI_add, n_mul, pk_sub, n_le_t, n_le_f, n_lt_t, n_lt_f, n_eq_t, n_eq_f, true_and, and_true, ne_eq, not_false_eq_true, not_true_eq_false, min_n, max_n, dif_n, n_rem, n_div, or_nI, shl_nI, Option.toList_some, Option.toList_none, List.singleton_append, List.nil_append, if_true, if_false, or_true, true_or, or_false, false_or, and_false, false_and, Bool.false_eq_true, h3, h4, c_next h hn, bI_eq hb hc, c2]
      exact hZ _ (CP_at h) (fun o ho => upd_ne ho)
    · rw [if_neg (by decide), if_neg c2] at hZ
      simp (disch := omega) only [cl57, w57_0, w57_1, w57_4, w57_7, w57_8, w57_9, w57_12, w57_13, w57_16, w57_17, w57_18, w57_21, w57_22, w57_23, w57_26, w57_29, w57_30, w57_31, w57_34, ht, ↓neg_vM, ↓neg_vB, ↓neg_vS, ↓neg_vF, ↓neg_vO, ↓neg_vA, ↓neg_vN, lit_nI, nI_leI, nI_ltI, nI_eq, jm_in_nI, nI_clamp, nI_add, n_mul, pk_sub, n_le_t, n_le_f, n_lt_t, n_lt_f, n_eq_t, n_eq_f, true_and, and_true, ne_eq, not_false_eq_true, not_true_eq_false, min_n, max_n, dif_n, n_rem, n_div, or_nI, shl_nI, Option.toList_some, Option.toList_none, List.singleton_append, List.nil_append, if_true, if_false, or_true, true_or, or_false, false_or, and_false, false_and, Bool.false_eq_true, h3, h4, c_next h hn, bI_eq hb hc, c2]
      exact hZ _ (CP_ft h) (fun o ho => upd_ne ho)
  · rw [if_pos c1] at hZ
    simp (disch := omega) only [cl57, w57_0, w57_1, w57_4, w57_7, w57_8, w57_9, w57_12, w57_13, w57_16, w57_17, w57_18, w57_21, w57_22, w57_23, w57_26, w57_29, w57_30, w57_31, w57_34, ht, ↓neg_vM, ↓neg_vB, ↓neg_vS, ↓neg_vF, ↓neg_vO, ↓neg_vA, ↓neg_vN, lit_nI, nI_leI, nI_ltI, nI_eq, jm_in_nI, nI_clamp, nI_add, n_mul, pk_sub, n_le_t, n_le_f, n_lt_t, n_lt_f, n_eq_t, n_eq_f, true_and, and_true, ne_eq, not_false_eq_true, not_true_eq_false, min_n, max_n, dif_n, n_rem, n_div, or_nI, shl_nI, Option.toList_some, Option.toList_none, List.singleton_append, List.nil_append, if_true, if_false, or_true, true_or, or_false, false_or, and_false, false_and, Bool.false_eq_true, h4, c1]
    exact hZ S h (fun o _ => rfl)
theorem rn_T {x y : Int32} {i v : Nat} (h : CP b n p f S) (hn : n ≤ 120) (hp : p ≤ n) (hb : ∀ i, i < n → b i ≤ 255) (hi : i < 3) (hv : v ≤ 1000) (hd : dgt b n (p + i) = true) : WQ L (d + 2) 58 17 [.ref 13, .int x, .int y, .int (nI i), .int (nI v), .int (nI i)] [] S Z ↔ WQ L (d + 2) 58 17 [.ref 13, .int x, .int y, .int (nI (i + 1)), .int (nI (10 * v + b (p + i) - 48)), .int (nI (i + 1))] [] S Z := by
  have ht := top_sh L
  have h3 := h.2.2.1
  have e := bI_T hd
  have t0 := dgt_T hd
  rw [w58_17]
  simp (disch := omega) only [w58_19, w58_20, w58_23, w58_24, w58_25, w58_28, w58_30, w58_31, w58_34, w58_36, w58_38, w58_41, w58_44, w58_46, w58_48, w58_49, w58_50, w58_51, w58_54, w58_56, w58_57, w58_60, w58_61, w58_63, w58_64, w58_66, w58_69, w58_72, ht, ↓neg_vM, ↓neg_vB, ↓neg_vS, ↓neg_vF, ↓neg_vO, ↓neg_vA, ↓neg_vN, lit_nI, nI_leI, nI_ltI, nI_eq, jm_in_nI, nI_clamp, nI_add, n_mul, pk_sub, n_le_t, n_le_f, n_lt_t, n_lt_f, n_eq_t, n_eq_f, true_and, and_true, ne_eq, not_false_eq_true, not_true_eq_false, min_n, max_n, dif_n, n_rem, n_div, or_nI, shl_nI, Option.toList_some, Option.toList_none, List.singleton_append, List.nil_append, if_true, if_false, or_true, true_or, or_false, false_or, and_false, false_and, Bool.false_eq_true, h3, c_byteAt h hn, c_withinP, bI_dg hb, hd]
  simp (disch := omega) only [w58_19, w58_20, w58_23, w58_24, w58_25, w58_28, w58_30, w58_31, w58_34, w58_36, w58_38, w58_41, w58_44, w58_46, w58_48, w58_49, w58_50, w58_51, w58_54, w58_56, w58_57, w58_60, w58_61, w58_63, w58_64, w58_66, w58_69, w58_72, ht, ↓neg_vM, ↓neg_vB, ↓neg_vS, ↓neg_vF, ↓neg_vO, ↓neg_vA, ↓neg_vN, lit_nI, nI_leI, nI_ltI, nI_eq, jm_in_nI, nI_clamp, nI_add, n_mul, pk_sub, n_le_t, n_le_f, n_lt_t, n_lt_f, n_eq_t, n_eq_f, true_and, and_true, ne_eq, not_false_eq_true, not_true_eq_false, min_n, max_n, dif_n, n_rem, n_div, or_nI, shl_nI, Option.toList_some, Option.toList_none, List.singleton_append, List.nil_append, if_true, if_false, or_true, true_or, or_false, false_or, and_false, false_and, Bool.false_eq_true, h3, c_byteAt h hn, e, kl_int]
theorem rn_F {x y : Int32} {i v : Nat} (h : CP b n p f S) (hn : n ≤ 120) (hp : p ≤ n) (hb : ∀ i, i < n → b i ≤ 255) (hi : i < 3) (hd : ¬ dgt b n (p + i) = true) : WQ L (d + 2) 58 17 [.ref 13, .int x, .int y, .int (nI i), .int (nI v), .int (nI i)] [] S Z ↔ WQ L (d + 2) 58 75 [.ref 13, .int x, .int y, .int (nI i), .int (nI v), .int (nI i)] [] S Z := by
  have ht := top_sh L
  have h3 := h.2.2.1
  rw [w58_17]
  simp (disch := omega) only [w58_19, w58_20, w58_23, w58_24, w58_25, w58_28, w58_30, w58_31, w58_34, w58_36, w58_38, w58_41, ht, ↓neg_vM, ↓neg_vB, ↓neg_vS, ↓neg_vF, ↓neg_vO, ↓neg_vA, ↓neg_vN, lit_nI, nI_leI, nI_ltI, nI_eq, jm_in_nI, nI_clamp, nI_add, n_mul, pk_sub, n_le_t, n_le_f, n_lt_t, n_lt_f, n_eq_t, n_eq_f, true_and, and_true, ne_eq, not_false_eq_true, not_true_eq_false, min_n, max_n, dif_n, n_rem, n_div, or_nI, shl_nI, Option.toList_some, Option.toList_none, List.singleton_append, List.nil_append, if_true, if_false, or_true, true_or, or_false, false_or, and_false, false_and, Bool.false_eq_true, h3, c_byteAt h hn, c_withinP, bI_dg hb, hd]
theorem rn_3 {x y : Int32} {v : Nat} : WQ L (d + 2) 58 17 [.ref 13, .int x, .int y, .int (nI 3), .int (nI v), .int (nI 3)] [] S Z ↔ WQ L (d + 2) 58 75 [.ref 13, .int x, .int y, .int (nI 3), .int (nI v), .int (nI 3)] [] S Z := by
  rw [w58_17]
  simp (disch := omega) only [w58_19, w58_20, ↓neg_vM, ↓neg_vB, ↓neg_vS, ↓neg_vF, ↓neg_vO, ↓neg_vA, ↓neg_vN, lit_nI, nI_leI, nI_ltI, nI_eq, jm_in_nI, nI_clamp, nI_add, n_mul, pk_sub, n_le_t, n_le_f, n_lt_t, n_lt_f, n_eq_t, n_eq_f, true_and, and_true, ne_eq, not_false_eq_true, not_true_eq_false, min_n, max_n, dif_n, n_rem, n_div, or_nI, shl_nI, Option.toList_some, Option.toList_none, List.singleton_append, List.nil_append, if_true, if_false, or_true, true_or, or_false, false_or, and_false, false_and, Bool.false_eq_true]
/-- behind the figures -/
theorem rn_E {lo hi c v : Nat} (h : CP b n p 0 S) (hn : n ≤ 120) (hp : p ≤ n) (hlo : lo ≤ 99) (hhi : hi ≤ 99) (hc : c ≤ 3) (hv : v ≤ 999) (hZ : ∀ T w, CP b n (if c = 0 ∨ c = 3 then p else if lo ≤ v ∧ v ≤ hi then p + c else p) (if c = 0 ∨ c = 3 then 1 else if lo ≤ v ∧ v ≤ hi then 0 else 2) T → w = nI v → (∀ o, o ≠ 13 → T o = S o) → Z (some (.int w)) T) : WQ L (d + 2) 58 75 [.ref 13, .int (nI lo), .int (nI hi), .int (nI c), .int (nI v), .int (nI c)] [] S Z := by
  have ht := top_sh L
  have h3 := h.2.2.1
  by_cases q : c = 0 ∨ c = 3
  · rw [if_pos q, if_pos q] at hZ
    rcases q with rfl | rfl
    · simp (disch := omega) only [w58_75, w58_76, w58_77, w58_80, w58_81, w58_82, w58_85, w58_86, w58_87, w58_90, w58_93, w58_95, w58_96, w58_97, w58_100, w58_103, w58_104, w58_105, w58_108, w58_111, w58_112, w58_113, w58_116, w58_117, w58_118, w58_121, w58_123, ht, ↓neg_vM, ↓neg_vB, ↓neg_vS, ↓neg_vF, ↓neg_vO, ↓neg_vA, ↓neg_vN, lit_nI, nI_leI, nI_ltI, nI_eq, jm_in_nI, nI_clamp, nI_add, n_mul, pk_sub, n_le_t, n_le_f, n_lt_t, n_lt_f, n_eq_t, n_eq_f, true_and, and_true, ne_eq, not_false_eq_true, not_true_eq_false, min_n, max_n, dif_n, n_rem, n_div, or_nI, shl_nI, Option.toList_some, Option.toList_none, List.singleton_append, List.nil_append, if_true, if_false, or_true, true_or, or_false, false_or, and_false, false_and, Bool.false_eq_true]
      exact hZ _ _ (CP_ft h) rfl (fun o ho => upd_ne ho)
    · simp (disch := omega) only [w58_75, w58_76, w58_77, w58_80, w58_81, w58_82, w58_85, w58_86, w58_87, w58_90, w58_93, w58_95, w58_96, w58_97, w58_100, w58_103, w58_104, w58_105, w58_108, w58_111, w58_112, w58_113, w58_116, w58_117, w58_118, w58_121, w58_123, ht, ↓neg_vM, ↓neg_vB, ↓neg_vS, ↓neg_vF, ↓neg_vO, ↓neg_vA, ↓neg_vN, lit_nI, nI_leI, nI_ltI, nI_eq, jm_in_nI, nI_clamp, nI_add, n_mul, pk_sub, n_le_t, n_le_f, n_lt_t, n_lt_f, n_eq_t, n_eq_f, true_and, and_true, ne_eq, not_false_eq_true, not_true_eq_false, min_n, max_n, dif_n, n_rem, n_div, or_nI, shl_nI, Option.toList_some, Option.toList_none, List.singleton_append, List.nil_append, if_true, if_false, or_true, true_or, or_false, false_or, and_false, false_and, Bool.false_eq_true]
      exact hZ _ _ (CP_ft h) rfl (fun o ho => upd_ne ho)
  · rw [if_neg q, if_neg q] at hZ
    by_cases g1 : lo ≤ v
    · by_cases g2 : v ≤ hi
      · rw [if_pos ⟨g1, g2⟩, if_pos ⟨g1, g2⟩] at hZ
        simp (disch := omega) only [w58_75, w58_76, w58_77, w58_80, w58_81, w58_82, w58_85, w58_86, w58_87, w58_90, w58_93, w58_95, w58_96, w58_97, w58_100, w58_103, w58_104, w58_105, w58_108, w58_111, w58_112, w58_113, w58_116, w58_117, w58_118, w58_121, w58_123, ht, ↓neg_vM, ↓neg_vB, ↓neg_vS, ↓neg_vF, ↓neg_vO, ↓neg_vA, ↓neg_vN, lit_nI, nI_leI, nI_ltI, nI_eq, jm_in_nI, nI_clamp, nI_add, n_mul, pk_sub, n_le_t, n_le_f, n_lt_t, n_lt_f, n_eq_t, n_eq_f, true_and, and_true, ne_eq, not_false_eq_true, not_true_eq_false, min_n, max_n, dif_n, n_rem, n_div, or_nI, shl_nI, Option.toList_some, Option.toList_none, List.singleton_append, List.nil_append, if_true, if_false, or_true, true_or, or_false, false_or, and_false, false_and, Bool.false_eq_true, c_withinP, h3]
        exact hZ _ _ (CP_at h) rfl (fun o ho => upd_ne ho)
      · rw [if_neg (fun z => g2 z.2), if_neg (fun z => g2 z.2)] at hZ
        simp (disch := omega) only [w58_75, w58_76, w58_77, w58_80, w58_81, w58_82, w58_85, w58_86, w58_87, w58_90, w58_93, w58_95, w58_96, w58_97, w58_100, w58_103, w58_104, w58_105, w58_108, w58_111, w58_112, w58_113, w58_116, w58_117, w58_118, w58_121, w58_123, ht, ↓neg_vM, ↓neg_vB, ↓neg_vS, ↓neg_vF, ↓neg_vO, ↓neg_vA, ↓neg_vN, lit_nI, nI_leI, nI_ltI, nI_eq, jm_in_nI, nI_clamp, nI_add, n_mul, pk_sub, n_le_t, n_le_f, n_lt_t, n_lt_f, n_eq_t, n_eq_f, true_and, and_true, ne_eq, not_false_eq_true, not_true_eq_false, min_n, max_n, dif_n, n_rem, n_div, or_nI, shl_nI, Option.toList_some, Option.toList_none, List.singleton_append, List.nil_append, if_true, if_false, or_true, true_or, or_false, false_or, and_false, false_and, Bool.false_eq_true, c_withinP]
        exact hZ _ _ (CP_ft h) rfl (fun o ho => upd_ne ho)
    · rw [if_neg (fun z => g1 z.1), if_neg (fun z => g1 z.1)] at hZ
      simp (disch := omega) only [w58_75, w58_76, w58_77, w58_80, w58_81, w58_82, w58_85, w58_86, w58_87, w58_90, w58_93, w58_95, w58_96, w58_97, w58_100, w58_103, w58_104, w58_105, w58_108, w58_111, w58_112, w58_113, w58_116, w58_117, w58_118, w58_121, w58_123, ht, ↓neg_vM, ↓neg_vB, ↓neg_vS, ↓neg_vF, ↓neg_vO, ↓neg_vA, ↓neg_vN, lit_nI, nI_leI, nI_ltI, nI_eq, jm_in_nI, nI_clamp, nI_add, n_mul, pk_sub, n_le_t, n_le_f, n_lt_t, n_lt_f, n_eq_t, n_eq_f, true_and, and_true, ne_eq, not_false_eq_true, not_true_eq_false, min_n, max_n, dif_n, n_rem, n_div, or_nI, shl_nI, Option.toList_some, Option.toList_none, List.singleton_append, List.nil_append, if_true, if_false, or_true, true_or, or_false, false_or, and_false, false_and, Bool.false_eq_true, c_withinP]
      exact hZ _ _ (CP_ft h) rfl (fun o ho => upd_ne ho)
set_option maxHeartbeats 8000000 in
theorem c_readNumber {lo hi : Nat} (h : CP b n p f S) (hn : n ≤ 120) (hp : p ≤ n) (hf : f ≤ 3) (hb : ∀ i, i < n → b i ≤ 255) (hlo : lo ≤ 99) (hhi : hi ≤ 99) (hZ : ∀ T v, CP b n (pNb b n lo hi p f).1 (pNb b n lo hi p f).2 T → ((pNb b n lo hi p f).2 = 0 → v = nI (nvl b n p)) → (∀ o, o ≠ 13 → T o = S o) → Z (some (.int v)) T) : CL L (d + 2) 58 [.ref 13, .int (nI lo), .int (nI hi)] S Z := by
  have ht := top_sh L
  have h4 := h.2.2.2
  unfold pNb at hZ
  by_cases c1 : f = 0
  · subst c1
    rw [if_neg (by decide)] at hZ
    -- by how many figures there are
    have fin : ∀ c v, nln b n p = c → v ≤ 999 → ((c = 1 ∨ c = 2) → v = nvl b n p) → WQ L (d + 2) 58 75 [.ref 13, .int (nI lo), .int (nI hi), .int (nI c), .int (nI v), .int (nI c)] [] S Z := fun c v hc hv hnv => by
      rw [hc] at hZ
      have hc3 : c ≤ 3 := by rw [← hc]; exact nln_le
      refine rn_E h hn hp hlo hhi hc3 hv (fun T w hT hw tf => ?_)
      by_cases q : c = 0 ∨ c = 3
      · rw [if_pos q] at hZ
        rw [if_pos q, if_pos q] at hT
        exact hZ T w hT (fun z => absurd z (show ¬ 1 = 0 by decide)) tf
      · have ev := hnv (by omega)
        rw [if_neg q, ← ev] at hZ
        rw [if_neg q, if_neg q] at hT
        by_cases g : lo ≤ v ∧ v ≤ hi
        · rw [if_pos g] at hZ
          rw [if_pos g, if_pos g] at hT
          exact hZ T w hT (fun _ => hw) tf
        · rw [if_neg g] at hZ
          rw [if_neg g, if_neg g] at hT
          exact hZ T w hT (fun z => absurd z (show ¬ 2 = 0 by decide)) tf
    have K : WQ L (d + 2) 58 17 [.ref 13, .int (nI lo), .int (nI hi), .int (nI 0), .int (nI 0), .int (nI 0)] [] S Z := by
      by_cases d0 : dgt b n p = true
      · obtain ⟨r0, s0, t0, w0⟩ := dgt_T d0
        rw [rn_T (i := 0) (v := 0) h hn hp hb (by decide) (by decide) d0]
        by_cases d1 : dgt b n (p + 1) = true
        · obtain ⟨r1, s1, t1, w1⟩ := dgt_T d1
          rw [rn_T (i := 0 + 1) h hn hp hb (by decide) (by rw [Nat.add_zero]; omega) d1]
          by_cases d2 : dgt b n (p + 2) = true
          · obtain ⟨r2, s2, t2, w2⟩ := dgt_T d2
            rw [rn_T (i := 0 + 1 + 1) h hn hp hb (by decide) (by rw [Nat.add_zero]; show 10 * (10 * 0 + b p - 48) + b (p + 1) - 48 ≤ 1000; omega) d2]
            exact rn_3.mpr (fin 3 _ (by unfold nln; rw [if_pos d0, if_pos d1, if_pos d2]) (by rw [Nat.add_zero]; show 10 * (10 * (10 * 0 + b p - 48) + b (p + 1) - 48) + b (p + 2) - 48 ≤ 999; omega) (fun q => by omega))
          · rw [rn_F (i := 0 + 1 + 1) h hn hp hb (by decide) d2]
            refine fin 2 _ (by unfold nln; rw [if_pos d0, if_pos d1, if_neg d2]) (by rw [Nat.add_zero]; show 10 * (10 * 0 + b p - 48) + b (p + 1) - 48 ≤ 999; omega) (fun _ => ?_)
            unfold nvl
            rw [if_pos d1, s0, s1, Nat.add_zero]
            show 10 * (10 * 0 + b p - 48) + b (p + 1) - 48 = _
            omega
        · rw [rn_F (i := 0 + 1) h hn hp hb (by decide) d1]
          refine fin 1 _ (by unfold nln; rw [if_pos d0, if_neg d1]) (by rw [Nat.add_zero]; omega) (fun _ => ?_)
          unfold nvl
          rw [if_neg d1, s0, Nat.add_zero]
          omega
      · rw [rn_F (i := 0) h hn hp hb (by decide) d0]
        exact fin 0 0 (by unfold nln; rw [if_neg d0]) (by decide) (fun q => by omega)
    simp (disch := omega) only [w58_0, w58_1, w58_4, w58_7, w58_8, w58_9, w58_10, w58_11, w58_12, w58_14, w58_15, cl58, ht, ↓neg_vM, ↓neg_vB, ↓neg_vS, ↓neg_vF, ↓neg_vO, ↓neg_vA, ↓neg_vN, lit_nI, nI_leI, nI_ltI, nI_eq, jm_in_nI, nI_clamp, nI_add, n_mul, pk_sub, n_le_t, n_le_f, n_lt_t, n_lt_f, n_eq_t, n_eq_f, true_and, and_true, ne_eq, not_false_eq_true, not_true_eq_false, min_n, max_n, dif_n, n_rem, n_div, or_nI, shl_nI, Option.toList_some, Option.toList_none, List.singleton_append, List.nil_append, if_true, if_false, or_true, true_or, or_false, false_or, and_false, false_and, Bool.false_eq_true, h4, kl_int]
    exact K
  · rw [if_pos c1] at hZ
    simp (disch := omega) only [w58_0, w58_1, w58_4, w58_7, w58_8, cl58, ht, ↓neg_vM, ↓neg_vB, ↓neg_vS, ↓neg_vF, ↓neg_vO, ↓neg_vA, ↓neg_vN, lit_nI, nI_leI, nI_ltI, nI_eq, jm_in_nI, nI_clamp, nI_add, n_mul, pk_sub, n_le_t, n_le_f, n_lt_t, n_lt_f, n_eq_t, n_eq_f, true_and, and_true, ne_eq, not_false_eq_true, not_true_eq_false, min_n, max_n, dif_n, n_rem, n_div, or_nI, shl_nI, Option.toList_some, Option.toList_none, List.singleton_append, List.nil_append, if_true, if_false, or_true, true_or, or_false, false_or, and_false, false_and, Bool.false_eq_true, h4, c1]
    exact hZ S _ h (fun q => absurd q c1) (fun o _ => rfl)
theorem c_kindTold (hb : ∀ i, i < n → b i ≤ 255) : CL L d 54 [.int (bI b n p)] S Z ↔ Z (some (.int (nI (srt (byt b n p))))) S := by
  have e : ∀ c, c ≤ 255 → ((bI b n p = nI c) ↔ byt b n p = c) := fun c hc => bI_eq hb hc
  unfold srt
  by_cases c1 : byt b n p = 103
  · simp (disch := omega) only [cl54, w54_0, w54_1, w54_52, w54_53, w54_54, w54_55, w54_56, w54_57, w54_58, w54_59, w54_60, w54_61, w54_62, w54_63, jm_sw, lit_nI, e, c1, if_true, if_false, n_eq_f]
  · by_cases c2 : byt b n p = 108
    · simp (disch := omega) only [cl54, w54_0, w54_1, w54_52, w54_53, w54_54, w54_55, w54_56, w54_57, w54_58, w54_59, w54_60, w54_61, w54_62, w54_63, jm_sw, lit_nI, e, c2, if_true, if_false, n_eq_f]
    · by_cases c3 : byt b n p = 111
      · simp (disch := omega) only [cl54, w54_0, w54_1, w54_52, w54_53, w54_54, w54_55, w54_56, w54_57, w54_58, w54_59, w54_60, w54_61, w54_62, w54_63, jm_sw, lit_nI, e, c3, if_true, if_false, n_eq_f]
      · by_cases c4 : byt b n p = 115
        · simp (disch := omega) only [cl54, w54_0, w54_1, w54_52, w54_53, w54_54, w54_55, w54_56, w54_57, w54_58, w54_59, w54_60, w54_61, w54_62, w54_63, jm_sw, lit_nI, e, c4, if_true, if_false, n_eq_f]
        · by_cases c5 : byt b n p = 119
          · simp (disch := omega) only [cl54, w54_0, w54_1, w54_52, w54_53, w54_54, w54_55, w54_56, w54_57, w54_58, w54_59, w54_60, w54_61, w54_62, w54_63, jm_sw, lit_nI, e, c5, if_true, if_false, n_eq_f]
          · simp (disch := omega) only [cl54, w54_0, w54_1, w54_52, w54_53, w54_54, w54_55, w54_56, w54_57, w54_58, w54_59, w54_60, w54_61, w54_62, w54_63, jm_sw, lit_nI, e, c1, c2, c3, c4, c5, if_true, if_false]
set_option maxHeartbeats 8000000 in
theorem c_readHand (h : CP b n p 0 S) (hX : RX 15 S k) (hD : DV k) (hn : n ≤ 120) (hp : p ≤ n) (hb : ∀ i, i < n → b i ≤ 255) (hZ : ∀ T, CP b n (rH b n p k).1 (rH b n p k).2.1 T → ((rH b n p k).2.1 = 0 → RX 15 T (rH b n p k).2.2) → offK S T → Z none T) : CL L (d + 4) 52 [.ref 13] S Z := by
  have ht := top_sh L
  have hs := camp_sh isC15
  have hl := camp_ll L isC15
  have x2 := hX.2.2.1
  have v1 := hD.1.2.1
  unfold rH at hZ
  by_cases c : byt b n p = 104 ∧ 5 ≤ k 1
  · obtain ⟨c1, c2⟩ := c
    rw [if_pos ⟨c1, c2⟩] at hZ
    simp (disch := omega) only [cl52, w52_0, w52_1, w52_4, w52_6, w52_9, w52_10, w52_13, w52_16, w52_17, w52_20, w52_21, w52_22, w52_25, ht, hs, ↓neg_vM, ↓neg_vB, ↓neg_vS, ↓neg_vF, ↓neg_vO, ↓neg_vA, ↓neg_vN, lit_nI, nI_leI, nI_ltI, nI_eq, jm_in_nI, nI_clamp, nI_add, n_mul, pk_sub, n_le_t, n_le_f, n_lt_t, n_lt_f, n_eq_t, n_eq_f, true_and, and_true, ne_eq, not_false_eq_true, not_true_eq_false, min_n, max_n, dif_n, n_rem, n_div, or_nI, shl_nI, Option.toList_some, Option.toList_none, List.singleton_append, List.nil_append, if_true, if_false, or_true, true_or, or_false, false_or, and_false, false_and, Bool.false_eq_true, c_next h hn, bI_eq hb, c1, x2]
    exact hZ _ (CP_ft h) (fun q => absurd q (show ¬ 3 = 0 by decide)) (fun o ho _ => upd_ne ho)
  · rw [if_neg c] at hZ
    have A : WQ L (d + 4) 52 26 [.ref 13, .null] [] S Z := by
      obtain ⟨l1, l2, l3⟩ := hP_le (b := b) hp (show 0 ≤ 3 by decide)
      simp (disch := omega) only [w52_26, w52_27, w52_29, ht, ↓neg_vM, ↓neg_vB, ↓neg_vS, ↓neg_vF, ↓neg_vO, ↓neg_vA, ↓neg_vN, lit_nI, nI_leI, nI_ltI, nI_eq, jm_in_nI, nI_clamp, nI_add, n_mul, pk_sub, n_le_t, n_le_f, n_lt_t, n_lt_f, n_eq_t, n_eq_f, true_and, and_true, ne_eq, not_false_eq_true, not_true_eq_false, min_n, max_n, dif_n, n_rem, n_div, or_nI, shl_nI, Option.toList_some, Option.toList_none, List.singleton_append, List.nil_append, if_true, if_false, or_true, true_or, or_false, false_or, and_false, false_and, Bool.false_eq_true]
      refine c_readByte h hn hp (by decide) hb (by decide) (fun T1 h1 f1 => ?_)
      simp (disch := omega) only [w52_32, w52_33, w52_34, w52_36, ht, ↓neg_vM, ↓neg_vB, ↓neg_vS, ↓neg_vF, ↓neg_vO, ↓neg_vA, ↓neg_vN, lit_nI, nI_leI, nI_ltI, nI_eq, jm_in_nI, nI_clamp, nI_add, n_mul, pk_sub, n_le_t, n_le_f, n_lt_t, n_lt_f, n_eq_t, n_eq_f, true_and, and_true, ne_eq, not_false_eq_true, not_true_eq_false, min_n, max_n, dif_n, n_rem, n_div, or_nI, shl_nI, Option.toList_some, Option.toList_none, List.singleton_append, List.nil_append, if_true, if_false, or_true, true_or, or_false, false_or, and_false, false_and, Bool.false_eq_true]
      refine c_readNumber h1 hn l1.1 l1.2 hb (by decide) (by decide) (fun T2 v h2 hv f2 => ?_)
      simp (disch := omega) only [w52_39, w52_40, w52_41, w52_43, ht, ↓neg_vM, ↓neg_vB, ↓neg_vS, ↓neg_vF, ↓neg_vO, ↓neg_vA, ↓neg_vN, lit_nI, nI_leI, nI_ltI, nI_eq, jm_in_nI, nI_clamp, nI_add, n_mul, pk_sub, n_le_t, n_le_f, n_lt_t, n_lt_f, n_eq_t, n_eq_f, true_and, and_true, ne_eq, not_false_eq_true, not_true_eq_false, min_n, max_n, dif_n, n_rem, n_div, or_nI, shl_nI, Option.toList_some, Option.toList_none, List.singleton_append, List.nil_append, if_true, if_false, or_true, true_or, or_false, false_or, and_false, false_and, Bool.false_eq_true]
      refine c_readByte h2 hn l2.1 l2.2 hb (by decide) (fun T3 h3 f3 => ?_)
      have hh : CP b n (hP3 b n p 0).1 (hP3 b n p 0).2 T3 := h3
      have h34 := hh.2.2.2
      have y2 : T3 15 2 = nI (k 1) := by rw [f3 15 (by decide), f2 15 (by decide), f1 15 (by decide)]; exact x2
      by_cases z : (hP3 b n p 0).2 = 0
      · obtain ⟨-, a1, a2, a3⟩ := hP_z z
        have ev : v = nI (nvl b n (hP1 b n p 0).1) := hv a2
        have a4 := (pB_z a1).2.1
        have hk5 : k 1 < 5 := by omega
        rw [z] at h34
        simp (disch := omega) only [w52_46, w52_47, w52_50, w52_53, w52_54, w52_57, w52_60, w52_61, w52_64, w52_67, w52_68, w52_69, w52_70, w52_73, w52_76, w52_77, w52_80, w52_83, w52_85, w52_86, w52_87, w52_90, w52_91, w52_94, w52_95, w52_96, w52_99, ht, hs, hl, ↓neg_vM, ↓neg_vB, ↓neg_vS, ↓neg_vF, ↓neg_vO, ↓neg_vA, ↓neg_vN, lit_nI, nI_leI, nI_ltI, nI_eq, jm_in_nI, nI_clamp, nI_add, n_mul, pk_sub, n_le_t, n_le_f, n_lt_t, n_lt_f, n_eq_t, n_eq_f, true_and, and_true, ne_eq, not_false_eq_true, not_true_eq_false, min_n, max_n, dif_n, n_rem, n_div, or_nI, shl_nI, Option.toList_some, Option.toList_none, List.singleton_append, List.nil_append, if_true, if_false, or_true, true_or, or_false, false_or, and_false, false_and, Bool.false_eq_true, h34, y2, upd_at]
        rw [ev]
        refine hZ _ ?_ (fun _ => RX_addH (RX_of hX (fun o q1 q2 => by rw [f3 o (by omega), f2 o (by omega), f1 o (by omega)])) hD hk5) (fun o q1 q2 => ?_)
        · exact CP_of hh (by rw [upd_ne (by decide), upd_ne (by decide), upd_ne (by decide)]) (by rw [upd_ne (by decide), upd_ne (by decide), upd_ne (by decide)])
        · rw [upd_ne (by omega), upd_ne (by omega), upd_ne (by omega), f3 o q1, f2 o q1, f1 o q1]
      · simp (disch := omega) only [w52_46, w52_47, w52_50, w52_99, ht, hs, ↓neg_vM, ↓neg_vB, ↓neg_vS, ↓neg_vF, ↓neg_vO, ↓neg_vA, ↓neg_vN, lit_nI, nI_leI, nI_ltI, nI_eq, jm_in_nI, nI_clamp, nI_add, n_mul, pk_sub, n_le_t, n_le_f, n_lt_t, n_lt_f, n_eq_t, n_eq_f, true_and, and_true, ne_eq, not_false_eq_true, not_true_eq_false, min_n, max_n, dif_n, n_rem, n_div, or_nI, shl_nI, Option.toList_some, Option.toList_none, List.singleton_append, List.nil_append, if_true, if_false, or_true, true_or, or_false, false_or, and_false, false_and, Bool.false_eq_true, h34, z]
        exact hZ T3 hh (fun q => absurd q z) (fun o q1 q2 => by rw [f3 o q1, f2 o q1, f1 o q1])
    by_cases c1 : byt b n p = 104
    · simp (disch := omega) only [cl52, w52_0, w52_1, w52_4, w52_6, w52_9, w52_10, w52_13, w52_16, w52_17, w52_20, ht, hs, ↓neg_vM, ↓neg_vB, ↓neg_vS, ↓neg_vF, ↓neg_vO, ↓neg_vA, ↓neg_vN, lit_nI, nI_leI, nI_ltI, nI_eq, jm_in_nI, nI_clamp, nI_add, n_mul, pk_sub, n_le_t, n_le_f, n_lt_t, n_lt_f, n_eq_t, n_eq_f, true_and, and_true, ne_eq, not_false_eq_true, not_true_eq_false, min_n, max_n, dif_n, n_rem, n_div, or_nI, shl_nI, Option.toList_some, Option.toList_none, List.singleton_append, List.nil_append, if_true, if_false, or_true, true_or, or_false, false_or, and_false, false_and, Bool.false_eq_true, c_next h hn, bI_eq hb, c1, x2]
      exact A
    · simp (disch := omega) only [cl52, w52_0, w52_1, w52_4, w52_6, w52_9, w52_10, w52_13, w52_16, w52_17, w52_20, ht, hs, ↓neg_vM, ↓neg_vB, ↓neg_vS, ↓neg_vF, ↓neg_vO, ↓neg_vA, ↓neg_vN, lit_nI, nI_leI, nI_ltI, nI_eq, jm_in_nI, nI_clamp, nI_add, n_mul, pk_sub, n_le_t, n_le_f, n_lt_t, n_lt_f, n_eq_t, n_eq_f, true_and, and_true, ne_eq, not_false_eq_true, not_true_eq_false, min_n, max_n, dif_n, n_rem, n_div, or_nI, shl_nI, Option.toList_some, Option.toList_none, List.singleton_append, List.nil_append, if_true, if_false, or_true, true_or, or_false, false_or, and_false, false_and, Bool.false_eq_true, c_next h hn, bI_eq hb, c1, x2]
      exact A
set_option maxHeartbeats 8000000 in
theorem c_readRule (h : CP b n p 0 S) (hX : RX 15 S k) (hD : DV k) (hn : n ≤ 120) (hp : p ≤ n) (hb : ∀ i, i < n → b i ≤ 255) (hZ : ∀ T, CP b n (rR b n p k).1 (rR b n p k).2.1 T → ((rR b n p k).2.1 = 0 → RX 15 T (rR b n p k).2.2) → offK S T → Z none T) : CL L (d + 4) 53 [.ref 13] S Z := by
  have ht := top_sh L
  have hs := camp_sh isC15
  have hl := camp_ll L isC15
  have x0 := hX.1
  have x3 := hX.2.2.2.1
  have v0 := hD.1.1
  have v2 := hD.1.2.2.1
  have h3 := h.2.2.1
  have hs5 := srt_le (byt b n p)
  unfold rR at hZ
  by_cases c : srt (byt b n p) = 0
  · rw [if_pos c] at hZ
    simp (disch := omega) only [cl53, w53_0, w53_1, w53_4, w53_7, w53_8, w53_9, w53_12, w53_13, w53_16, w53_19, w53_20, w53_23, w53_24, w53_25, w53_28, w53_29, w53_32, w53_33, w53_36, ht, hs, ↓neg_vM, ↓neg_vB, ↓neg_vS, ↓neg_vF, ↓neg_vO, ↓neg_vA, ↓neg_vN, lit_nI, nI_leI, nI_ltI, nI_eq, jm_in_nI, nI_clamp, nI_add, n_mul, pk_sub, n_le_t, n_le_f, n_lt_t, n_lt_f, n_eq_t, n_eq_f, true_and, and_true, ne_eq, not_false_eq_true, not_true_eq_false, min_n, max_n, dif_n, n_rem, n_div, or_nI, shl_nI, Option.toList_some, Option.toList_none, List.singleton_append, List.nil_append, if_true, if_false, or_true, true_or, or_false, false_or, and_false, false_and, Bool.false_eq_true, c_next h hn, c_kindTold hb, c]
    exact hZ _ (CP_ft h) (fun q => absurd q (show ¬ 1 = 0 by decide)) (fun o ho _ => upd_ne ho)
  · rw [if_neg c] at hZ
    by_cases c2 : 5 ≤ k 0
    · rw [if_pos c2] at hZ
      simp (disch := omega) only [cl53, w53_0, w53_1, w53_4, w53_7, w53_8, w53_9, w53_12, w53_13, w53_16, w53_19, w53_20, w53_23, w53_24, w53_25, w53_28, w53_29, w53_32, w53_33, w53_36, ht, hs, ↓neg_vM, ↓neg_vB, ↓neg_vS, ↓neg_vF, ↓neg_vO, ↓neg_vA, ↓neg_vN, lit_nI, nI_leI, nI_ltI, nI_eq, jm_in_nI, nI_clamp, nI_add, n_mul, pk_sub, n_le_t, n_le_f, n_lt_t, n_lt_f, n_eq_t, n_eq_f, true_and, and_true, ne_eq, not_false_eq_true, not_true_eq_false, min_n, max_n, dif_n, n_rem, n_div, or_nI, shl_nI, Option.toList_some, Option.toList_none, List.singleton_append, List.nil_append, if_true, if_false, or_true, true_or, or_false, false_or, and_false, false_and, Bool.false_eq_true, c_next h hn, c_kindTold hb, c, x3]
      exact hZ _ (CP_ft h) (fun q => absurd q (show ¬ 3 = 0 by decide)) (fun o ho _ => upd_ne ho)
    · rw [if_neg c2] at hZ
      have hsp := srt_pos c
      have hpn := (byt_lt (show byt b n p < 256 by omega)).1
      obtain ⟨l1, l2, l3, l4, l5, l6⟩ := gP_le (b := b) (lo := k 2) (show p + 1 ≤ n by omega) (show 0 ≤ 3 by decide)
      have A : WQ L (d + 4) 53 37 [.ref 13, .int (nI (srt (byt b n p))), .null, .null, .null] [] S Z := by
        have h0 : CP b n (p + 1) 0 (jm_upd S 13 3 (nI (p + 1))) := CP_at h
        have y0 : jm_upd S 13 3 (nI (p + 1)) 15 0 = nI (k 2) := by rw [upd_ne (by decide)]; exact x0
        simp (disch := omega) only [w53_37, w53_38, w53_39, w53_42, w53_43, w53_44, w53_47, w53_48, w53_49, w53_50, w53_53, w53_56, ht, hs, ↓neg_vM, ↓neg_vB, ↓neg_vS, ↓neg_vF, ↓neg_vO, ↓neg_vA, ↓neg_vN, lit_nI, nI_leI, nI_ltI, nI_eq, jm_in_nI, nI_clamp, nI_add, n_mul, pk_sub, n_le_t, n_le_f, n_lt_t, n_lt_f, n_eq_t, n_eq_f, true_and, and_true, ne_eq, not_false_eq_true, not_true_eq_false, min_n, max_n, dif_n, n_rem, n_div, or_nI, shl_nI, Option.toList_some, Option.toList_none, List.singleton_append, List.nil_append, if_true, if_false, or_true, true_or, or_false, false_or, and_false, false_and, Bool.false_eq_true, h3, y0]
        refine c_readNumber h0 hn (by omega) (by decide) hb (by decide) (by omega) (fun T1 v1 h1 hv1 f1 => ?_)
        simp (disch := omega) only [w53_59, w53_60, w53_61, w53_63, ht, ↓neg_vM, ↓neg_vB, ↓neg_vS, ↓neg_vF, ↓neg_vO, ↓neg_vA, ↓neg_vN, lit_nI, nI_leI, nI_ltI, nI_eq, jm_in_nI, nI_clamp, nI_add, n_mul, pk_sub, n_le_t, n_le_f, n_lt_t, n_lt_f, n_eq_t, n_eq_f, true_and, and_true, ne_eq, not_false_eq_true, not_true_eq_false, min_n, max_n, dif_n, n_rem, n_div, or_nI, shl_nI, Option.toList_some, Option.toList_none, List.singleton_append, List.nil_append, if_true, if_false, or_true, true_or, or_false, false_or, and_false, false_and, Bool.false_eq_true]
        refine c_readByte h1 hn l1.1 l1.2 hb (by decide) (fun T2 h2 f2 => ?_)
        simp (disch := omega) only [w53_66, w53_67, w53_68, w53_70, ht, ↓neg_vM, ↓neg_vB, ↓neg_vS, ↓neg_vF, ↓neg_vO, ↓neg_vA, ↓neg_vN, lit_nI, nI_leI, nI_ltI, nI_eq, jm_in_nI, nI_clamp, nI_add, n_mul, pk_sub, n_le_t, n_le_f, n_lt_t, n_lt_f, n_eq_t, n_eq_f, true_and, and_true, ne_eq, not_false_eq_true, not_true_eq_false, min_n, max_n, dif_n, n_rem, n_div, or_nI, shl_nI, Option.toList_some, Option.toList_none, List.singleton_append, List.nil_append, if_true, if_false, or_true, true_or, or_false, false_or, and_false, false_and, Bool.false_eq_true]
        refine c_readNumber h2 hn l2.1 l2.2 hb (by decide) (by decide) (fun T3 v3 h3 hv3 f3 => ?_)
        simp (disch := omega) only [w53_73, w53_74, w53_75, w53_77, ht, ↓neg_vM, ↓neg_vB, ↓neg_vS, ↓neg_vF, ↓neg_vO, ↓neg_vA, ↓neg_vN, lit_nI, nI_leI, nI_ltI, nI_eq, jm_in_nI, nI_clamp, nI_add, n_mul, pk_sub, n_le_t, n_le_f, n_lt_t, n_lt_f, n_eq_t, n_eq_f, true_and, and_true, ne_eq, not_false_eq_true, not_true_eq_false, min_n, max_n, dif_n, n_rem, n_div, or_nI, shl_nI, Option.toList_some, Option.toList_none, List.singleton_append, List.nil_append, if_true, if_false, or_true, true_or, or_false, false_or, and_false, false_and, Bool.false_eq_true]
        refine c_readByte h3 hn l3.1 l3.2 hb (by decide) (fun T4 h4 f4 => ?_)
        simp (disch := omega) only [w53_80, w53_81, w53_82, w53_84, ht, ↓neg_vM, ↓neg_vB, ↓neg_vS, ↓neg_vF, ↓neg_vO, ↓neg_vA, ↓neg_vN, lit_nI, nI_leI, nI_ltI, nI_eq, jm_in_nI, nI_clamp, nI_add, n_mul, pk_sub, n_le_t, n_le_f, n_lt_t, n_lt_f, n_eq_t, n_eq_f, true_and, and_true, ne_eq, not_false_eq_true, not_true_eq_false, min_n, max_n, dif_n, n_rem, n_div, or_nI, shl_nI, Option.toList_some, Option.toList_none, List.singleton_append, List.nil_append, if_true, if_false, or_true, true_or, or_false, false_or, and_false, false_and, Bool.false_eq_true]
        refine c_readNumber h4 hn l4.1 l4.2 hb (by decide) (by decide) (fun T5 v5 h5 hv5 f5 => ?_)
        simp (disch := omega) only [w53_87, w53_89, w53_90, w53_92, ht, ↓neg_vM, ↓neg_vB, ↓neg_vS, ↓neg_vF, ↓neg_vO, ↓neg_vA, ↓neg_vN, lit_nI, nI_leI, nI_ltI, nI_eq, jm_in_nI, nI_clamp, nI_add, n_mul, pk_sub, n_le_t, n_le_f, n_lt_t, n_lt_f, n_eq_t, n_eq_f, true_and, and_true, ne_eq, not_false_eq_true, not_true_eq_false, min_n, max_n, dif_n, n_rem, n_div, or_nI, shl_nI, Option.toList_some, Option.toList_none, List.singleton_append, List.nil_append, if_true, if_false, or_true, true_or, or_false, false_or, and_false, false_and, Bool.false_eq_true]
        refine c_readByte h5 hn l5.1 l5.2 hb (by decide) (fun T6 h6 f6 => ?_)
        have hh : CP b n (gP6 b n (k 2) (p + 1) 0).1 (gP6 b n (k 2) (p + 1) 0).2 T6 := h6
        have h64 := hh.2.2.2
        have ff : ∀ o, o ≠ 13 → T6 o = S o := fun o q => by rw [f6 o q, f5 o q, f4 o q, f3 o q, f2 o q, f1 o q, upd_ne q]
        have y3 : T6 15 3 = nI (k 0) := by rw [ff 15 (by decide)]; exact x3
        by_cases z : (gP6 b n (k 2) (p + 1) 0).2 = 0
        · obtain ⟨-, a1, a3, a5, -, -, -, -⟩ := gP_z z
          have ev1 : v1 = nI (nvl b n (p + 1)) := hv1 a1
          have ev3 : v3 = nI (nvl b n (gP2 b n (k 2) (p + 1) 0).1) := hv3 a3
          have ev5 : v5 = nI (nvl b n (gP4 b n (k 2) (p + 1) 0).1) := hv5 a5
          rw [z] at h64
          simp (disch := omega) only [w53_95, w53_96, w53_99, w53_102, w53_103, w53_106, w53_109, w53_110, w53_113, w53_116, w53_117, w53_118, w53_119, w53_122, w53_125, w53_126, w53_129, w53_132, w53_133, w53_134, w53_135, w53_138, w53_141, w53_142, w53_145, w53_148, w53_149, w53_150, w53_151, w53_154, w53_157, w53_158, w53_161, w53_164, w53_166, w53_167, w53_168, w53_171, w53_172, w53_175, w53_176, w53_177, w53_180, ht, hs, hl, ↓neg_vM, ↓neg_vB, ↓neg_vS, ↓neg_vF, ↓neg_vO, ↓neg_vA, ↓neg_vN, lit_nI, nI_leI, nI_ltI, nI_eq, jm_in_nI, nI_clamp, nI_add, n_mul, pk_sub, n_le_t, n_le_f, n_lt_t, n_lt_f, n_eq_t, n_eq_f, true_and, and_true, ne_eq, not_false_eq_true, not_true_eq_false, min_n, max_n, dif_n, n_rem, n_div, or_nI, shl_nI, Option.toList_some, Option.toList_none, List.singleton_append, List.nil_append, if_true, if_false, or_true, true_or, or_false, false_or, and_false, false_and, Bool.false_eq_true, h64, y3, upd_at]
          rw [ev1, ev3, ev5]
          refine hZ _ ?_ (fun _ => RX_addR (RX_of hX (fun o q1 q2 => ff o (by omega))) hD (by omega)) (fun o q1 q2 => ?_)
          · exact CP_of hh (by rw [upd_ne (by decide), upd_ne (by decide), upd_ne (by decide), upd_ne (by decide), upd_ne (by decide)]) (by rw [upd_ne (by decide), upd_ne (by decide), upd_ne (by decide), upd_ne (by decide), upd_ne (by decide)])
          · rw [upd_ne (by omega), upd_ne (by omega), upd_ne (by omega), upd_ne (by omega), upd_ne (by omega), ff o q1]
        · simp (disch := omega) only [w53_95, w53_96, w53_99, w53_180, ht, hs, ↓neg_vM, ↓neg_vB, ↓neg_vS, ↓neg_vF, ↓neg_vO, ↓neg_vA, ↓neg_vN, lit_nI, nI_leI, nI_ltI, nI_eq, jm_in_nI, nI_clamp, nI_add, n_mul, pk_sub, n_le_t, n_le_f, n_lt_t, n_lt_f, n_eq_t, n_eq_f, true_and, and_true, ne_eq, not_false_eq_true, not_true_eq_false, min_n, max_n, dif_n, n_rem, n_div, or_nI, shl_nI, Option.toList_some, Option.toList_none, List.singleton_append, List.nil_append, if_true, if_false, or_true, true_or, or_false, false_or, and_false, false_and, Bool.false_eq_true, h64, z]
          exact hZ T6 hh (fun q => absurd q z) (fun o q1 q2 => ff o q1)
      simp (disch := omega) only [cl53, w53_0, w53_1, w53_4, w53_7, w53_8, w53_9, w53_12, w53_13, w53_16, w53_19, w53_20, w53_23, w53_24, w53_25, w53_28, w53_29, w53_32, w53_33, ht, hs, ↓neg_vM, ↓neg_vB, ↓neg_vS, ↓neg_vF, ↓neg_vO, ↓neg_vA, ↓neg_vN, lit_nI, nI_leI, nI_ltI, nI_eq, jm_in_nI, nI_clamp, nI_add, n_mul, pk_sub, n_le_t, n_le_f, n_lt_t, n_lt_f, n_eq_t, n_eq_f, true_and, and_true, ne_eq, not_false_eq_true, not_true_eq_false, min_n, max_n, dif_n, n_rem, n_div, or_nI, shl_nI, Option.toList_some, Option.toList_none, List.singleton_append, List.nil_append, if_true, if_false, or_true, true_or, or_false, false_or, and_false, false_and, Bool.false_eq_true, c_next h hn, c_kindTold hb, c, x3]
      exact A
end
