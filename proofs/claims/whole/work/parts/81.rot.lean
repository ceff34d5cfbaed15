/-! ===== rota: what a hand's playing changes ===== -/
theorem cnt_z {K : kT} {h : Nat} (hs : kSt K h = 0) : ∀ n, cnt (fun r => kPd K r h) n = 0
  | 0 => rfl
  | n + 1 => by
    have e : kPd K n h = false := by unfold kPd; rw [hs]; simp
    rw [cnt, cnt_z hs n, e]
    rfl
theorem cnt_pd (K : kT) (h : Nat) (hs : 0 < kSt K h) : ∀ n, cnt (fun r => kPd K r h) n = (if h = K 3 % K 1 then cnt (fun r => decide (4 ≤ kKd K r)) n else 0) + (if kPl K h ≠ 0 ∧ kPl K h - 1 < n ∧ kKd K (kPl K h - 1) < 4 then 1 else 0)
  | 0 => by
    rw [if_neg (c := kPl K h ≠ 0 ∧ kPl K h - 1 < 0 ∧ kKd K (kPl K h - 1) < 4) (by omega)]
    split <;> rfl
  | n + 1 => by
    have A : (if kPl K h ≠ 0 ∧ kPl K h - 1 < n + 1 ∧ kKd K (kPl K h - 1) < 4 then 1 else 0) = (if kPl K h ≠ 0 ∧ kPl K h - 1 < n ∧ kKd K (kPl K h - 1) < 4 then 1 else 0) + (if kPl K h = n + 1 ∧ kKd K n < 4 then 1 else 0) := by
      by_cases e : kPl K h = n + 1
      · rw [e, Nat.add_sub_cancel]
        by_cases c : kKd K n < 4
        · rw [if_pos ⟨by omega, by omega, c⟩, if_neg (by omega), if_pos ⟨rfl, c⟩]
        · rw [if_neg (fun x => c x.2.2), if_neg (by omega), if_neg (fun x => c x.2)]
      · rw [if_neg (c := kPl K h = n + 1 ∧ kKd K n < 4) (fun x => e x.1), Nat.add_zero]
        by_cases c : kPl K h ≠ 0 ∧ kPl K h - 1 < n ∧ kKd K (kPl K h - 1) < 4
        · rw [if_pos c, if_pos (by omega)]
        · rw [if_neg c, if_neg (by omega)]
    have B : kPd K n h = (if 4 ≤ kKd K n then decide (h = K 3 % K 1) else decide (kPl K h = n + 1)) := by
      unfold kPd
      rw [decide_eq_true hs, Bool.and_true]
    rw [cnt, cnt_pd K h hs n, A, B]
    by_cases c4 : 4 ≤ kKd K n
    · have C : cnt (fun r => decide (4 ≤ kKd K r)) (n + 1) = cnt (fun r => decide (4 ≤ kKd K r)) n + 1 := by rw [cnt, if_pos (decide_eq_true c4)]
      rw [if_neg (c := kPl K h = n + 1 ∧ kKd K n < 4) (by omega), C, if_pos c4]
      by_cases ck : h = K 3 % K 1
      · rw [if_pos ck, if_pos ck, if_pos (decide_eq_true ck)]
        omega
      · rw [if_neg ck, if_neg ck, if_neg (c := decide (h = K 3 % K 1) = true) (by rw [decide_eq_false ck]; decide)]
        first | done | omega
    · have C : cnt (fun r => decide (4 ≤ kKd K r)) (n + 1) = cnt (fun r => decide (4 ≤ kKd K r)) n := by rw [cnt, if_neg (by rw [decide_eq_false c4]; decide), Nat.add_zero]
      rw [C, if_neg c4]
      by_cases e : kPl K h = n + 1
      · rw [if_pos (decide_eq_true e), if_pos (c := kPl K h = n + 1 ∧ kKd K n < 4) ⟨e, by omega⟩]
        omega
      · rw [if_neg (c := decide (kPl K h = n + 1) = true) (by rw [decide_eq_false e]; decide), if_neg (c := kPl K h = n + 1 ∧ kKd K n < 4) (fun x => e x.1)]
        omega
def stF (st c : Nat) : Nat := if c = 0 then min (st + 2) 20 else max 0 (st - c)
theorem newSt_eq {K : kT} (h : Nat) (h0 : K 0 ≤ 5) : newSt K h = stF (kSt K h) (cnt (fun r => kPd K r h) (K 0)) := by
  have e1 := pop6_bset (fun r => kPd K r h) (show K 0 ≤ 6 by omega)
  have e2 := pop6_0 (bset (fun r => kPd K r h) (K 0)) (by have := bset64 (fun r => kPd K r h) h0; omega)
  unfold newSt strV stF
  rw [← e1]
  by_cases c : bset (fun r => kPd K r h) (K 0) = 0
  · rw [if_pos c, if_pos (e2.mpr c)]
  · rw [if_neg c, if_neg (fun q => c (e2.mp q))]
/-- the same but for strengths, beats and plays -/
def twin (A B : kT) : Prop := A 0 = B 0 ∧ A 1 = B 1 ∧ A 2 = B 2 ∧ A 3 = B 3 ∧ (∀ r, kKd A r = kKd B r) ∧ ∀ r, kLs A r = kLs B r
def sgK (K : kT) (h : Nat) : Prop := kPl K h ≠ 0 ∧ kPl K h - 1 < K 0 ∧ kKd K (kPl K h - 1) < 4
theorem twin_hour {A B : kT} (t : twin A B) : twin (hourA A) (hourA B) := by
  obtain ⟨t0, t1, t2, t3, t4, t5⟩ := t
  refine ⟨t0, t1, t2, ?_, fun r => by rw [hourA_Kd, hourA_Kd, t4], fun r => by rw [hourA_Ls, hourA_Ls, t5]⟩
  show A 3 + 1 = B 3 + 1
  rw [t3]
theorem twin_hours {A B : kT} (t : twin A B) : ∀ n, twin (hoursA A n) (hoursA B n)
  | 0 => t
  | n + 1 => twin_hour (twin_hours t n)
theorem hoursA_Kd (A : kT) (r : Nat) : ∀ n, kKd (hoursA A n) r = kKd A r
  | 0 => rfl
  | n + 1 => by
    show kKd (hourA (hoursA A n)) r = kKd A r
    rw [hourA_Kd, hoursA_Kd A r n]
theorem hoursA_Pl (A : kT) {h : Nat} (h5 : h < 5) : ∀ n, kPl (hoursA A n) h = kPl A h
  | 0 => rfl
  | n + 1 => by
    show kPl (hourA (hoursA A n)) h = kPl A h
    rw [hourA_Pl h5, hoursA_Pl A h5 n]
theorem sgK_hours (A : kT) {h : Nat} (h5 : h < 5) (n : Nat) : sgK (hoursA A n) h ↔ sgK A h := by
  unfold sgK
  rw [hoursA_Pl A h5 n, hoursA_Kd, (hoursA_low A n).1]
theorem newSt_cong {A B : kT} {h : Nat} (t : twin A B) (h0 : A 0 ≤ 5) (es : kSt A h = kSt B h) (hs : sgK A h ↔ sgK B h) : newSt A h = newSt B h := by
  obtain ⟨t0, t1, t2, t3, t4, t5⟩ := t
  rw [newSt_eq h h0, newSt_eq h (by omega), ← es]
  congr 1
  by_cases z : 0 < kSt A h
  · rw [cnt_pd A h z, cnt_pd B h (by omega), t0, t1, t3]
    rw [cnt_cong (p := fun r => decide (4 ≤ kKd A r)) (q := fun r => decide (4 ≤ kKd B r)) (fun r _ => by rw [t4 r])]
    congr 1
    unfold sgK at hs
    rw [t0] at hs
    by_cases c : kPl A h ≠ 0 ∧ kPl A h - 1 < B 0 ∧ kKd A (kPl A h - 1) < 4
    · rw [if_pos c, if_pos (hs.mp c)]
    · rw [if_neg c, if_neg (fun q => c (hs.mpr q))]
  · rw [cnt_z (by omega), cnt_z (by omega)]
theorem tw_St {A B : kT} {h : Nat} (t : twin A B) (h0 : A 0 ≤ 5) (h1 : A 1 ≤ 5) (hh : h < A 1) (es : kSt A h = kSt B h) (hs : sgK A h ↔ sgK B h) : ∀ n, kSt (hoursA A n) h = kSt (hoursA B n) h
  | 0 => es
  | n + 1 => by
    have tn := twin_hours t n
    have ih := tw_St t h0 h1 hh es hs n
    have a0 := (hoursA_low A n).1
    have a1 := (hoursA_low A n).2.1
    have b1 := (hoursA_low B n).2.1
    have t1 := t.2.1
    show kSt (hourA (hoursA A n)) h = kSt (hourA (hoursA B n)) h
    rw [hourA_St (by omega) (by omega), hourA_St (by omega) (by omega)]
    refine newSt_cong tn (by omega) ih ?_
    rw [sgK_hours A (by omega) n, sgK_hours B (by omega) n]
    exact hs
theorem kGn_cong {A B : kT} {r : Nat} : ∀ n, (∀ h, h < n → kPd A r h = kPd B r h ∧ (kPd A r h = true → kSt A h = kSt B h)) → kGn A r n = kGn B r n
  | 0, _ => rfl
  | n + 1, hp => by
    obtain ⟨p1, p2⟩ := hp n (by omega)
    rw [kGn, kGn, kGn_cong n (fun h hh => hp h (by omega)), ← p1]
    by_cases c : kPd A r n = true
    · rw [if_pos c, if_pos c]
      unfold kWt
      rw [p2 c]
    · rw [if_neg c, if_neg c]
theorem newBt_cong {A B : kT} {r : Nat} (t : twin A B) (eb : kBt A r = kBt B r) (hp : ∀ h, h < A 1 → kPd A r h = kPd B r h ∧ (kPd A r h = true → kSt A h = kSt B h)) : newBt A r = newBt B r := by
  obtain ⟨t0, t1, t2, t3, t4, t5⟩ := t
  unfold newBt
  rw [t2, t4, eb, t5, kGn_cong (A := A) (B := B) (A 1) hp, bset_cong (fun h hh => (hp h hh).1), t1]
theorem tw_Bs {A B : kT} {r : Nat} (t : twin A B) (h0 : A 0 ≤ 5) (h1 : A 1 ≤ 5) (hr : r < A 0) (hk : kKd A r < 4) (eb : kBt A r = kBt B r) (es : ∀ h, h < A 1 → kSt A h = kSt B h) (hq : ∀ h, h < A 1 → (kPl A h = r + 1 ↔ kPl B h = r + 1)) : ∀ n, kBt (hoursA A n) r = kBt (hoursA B n) r
  | 0 => eb
  | n + 1 => by
    have tn := twin_hours t n
    have ih := tw_Bs t h0 h1 hr hk eb es hq n
    have a0 := (hoursA_low A n).1
    have a1 := (hoursA_low A n).2.1
    have b0 := (hoursA_low B n).1
    have t0 := t.1
    show kBt (hourA (hoursA A n)) r = kBt (hourA (hoursA B n)) r
    rw [hourA_Bt (by omega), hourA_Bt (by omega)]
    refine newBt_cong tn ih (fun h hh => ?_)
    rw [a1] at hh
    have hkB : kKd B r < 4 := by rw [← t.2.2.2.2.1 r]; exact hk
    have pl := hq h hh
    by_cases c : kPl A h = r + 1
    · have c' := pl.mp c
      have sA : sgK A h := by unfold sgK; rw [c, Nat.add_sub_cancel]; exact ⟨by omega, hr, hk⟩
      have sB : sgK B h := by unfold sgK; rw [c', Nat.add_sub_cancel]; exact ⟨by omega, by omega, hkB⟩
      have st := tw_St t h0 h1 hh (es h hh) ⟨fun _ => sB, fun _ => sA⟩ n
      refine ⟨?_, fun _ => st⟩
      unfold kPd
      rw [hoursA_Kd, hoursA_Kd, if_neg (by omega), if_neg (by omega), hoursA_Pl A (by omega), hoursA_Pl B (by omega), c, c', st]
    · have c' : ¬ kPl B h = r + 1 := fun q => c (pl.mpr q)
      have e1 : kPd (hoursA A n) r h = false := by
        unfold kPd
        rw [hoursA_Kd, if_neg (by omega), hoursA_Pl A (by omega), decide_eq_false c, Bool.false_and]
      have e2 : kPd (hoursA B n) r h = false := by
        unfold kPd
        rw [hoursA_Kd, if_neg (by omega), hoursA_Pl B (by omega), decide_eq_false c', Bool.false_and]
      rw [e1, e2]
      exact ⟨rfl, fun q => absurd q (by decide)⟩
theorem tw_Bl {A B : kT} {r : Nat} (t : twin A B) (h0 : A 0 ≤ 5) (h1 : A 1 ≤ 5) (hr : r < A 0) (hk : 4 ≤ kKd A r) (eb : kBt A r = kBt B r) (es : ∀ h, h < A 1 → kSt A h = kSt B h) (hs : ∀ h, h < A 1 → (sgK A h ↔ sgK B h)) : ∀ n, kBt (hoursA A n) r = kBt (hoursA B n) r
  | 0 => eb
  | n + 1 => by
    have tn := twin_hours t n
    have ih := tw_Bl t h0 h1 hr hk eb es hs n
    have a0 := (hoursA_low A n).1
    have a1 := (hoursA_low A n).2.1
    have b0 := (hoursA_low B n).1
    have t0 := t.1
    show kBt (hourA (hoursA A n)) r = kBt (hourA (hoursA B n)) r
    rw [hourA_Bt (by omega), hourA_Bt (by omega)]
    refine newBt_cong tn ih (fun h hh => ?_)
    rw [a1] at hh
    have hkB : 4 ≤ kKd B r := by rw [← t.2.2.2.2.1 r]; exact hk
    have st := tw_St t h0 h1 hh (es h hh) (hs h hh) n
    refine ⟨?_, fun _ => st⟩
    unfold kPd
    rw [hoursA_Kd, hoursA_Kd, if_pos hk, if_pos hkB, st, tn.2.1, tn.2.2.2.1]
theorem twin_pl (k : kT) (q q' : Nat → Nat) (H : Nat) : twin (plK k q H) (plK k q' H) := ⟨by rw [plK_low _ _ _ (by omega), plK_low _ _ _ (by omega)], by rw [plK_low _ _ _ (by omega), plK_low _ _ _ (by omega)], by rw [plK_low _ _ _ (by omega), plK_low _ _ _ (by omega)], by rw [plK_low _ _ _ (by omega), plK_low _ _ _ (by omega)], fun r => by rw [plK_Kd, plK_Kd], fun r => by rw [plK_Ls, plK_Ls]⟩
/-- the hand plays a song -/
def sgB (k : kT) (q : Nat → Nat) (h : Nat) : Bool := decide (q h ≠ 0 ∧ q h - 1 < k 0 ∧ kKd k (q h - 1) < 4)
theorem sgB_of {k : kT} {q : Nat → Nat} {h v : Nat} (e : q h = v) : sgB k q h = decide (v ≠ 0 ∧ v - 1 < k 0 ∧ kKd k (v - 1) < 4) := by
  unfold sgB
  rw [e]
theorem sgB_K {k : kT} {q : Nat → Nat} {h : Nat} (h5 : h < 5) (hh : h < k 1) : sgK (plK k q (k 1)) h ↔ sgB k q h = true := by
  unfold sgK sgB
  rw [plK_Pl k q h5, if_pos hh, plK_Kd, plK_low _ _ _ (by omega), decide_eq_true_eq]
theorem rot_song {k : kT} {q q' : Nat → Nat} {n r : Nat} (h0 : k 0 ≤ 5) (h1 : k 1 ≤ 5) (hr : r < k 0) (hk : kKd k r < 4) (hq : ∀ h, h < k 1 → (q h = r + 1 ↔ q' h = r + 1)) : kBt (hoursA (plK k q (k 1)) n) r = kBt (hoursA (plK k q' (k 1)) n) r := by
  have l0 : plK k q (k 1) 0 = k 0 := plK_low _ _ _ (by omega)
  have l1 : plK k q (k 1) 1 = k 1 := plK_low _ _ _ (by omega)
  refine tw_Bs (twin_pl k q q' (k 1)) (by omega) (by omega) (by omega) (by rw [plK_Kd]; exact hk) (by rw [plK_Bt, plK_Bt]) (fun h _ => by rw [plK_St, plK_St]) (fun h hh => ?_) n
  rw [l1] at hh
  rw [plK_Pl k q (by omega), plK_Pl k q' (by omega), if_pos hh, if_pos hh]
  exact hq h hh
theorem rot_lost {k : kT} {q q' : Nat → Nat} {n r : Nat} (h0 : k 0 ≤ 5) (h1 : k 1 ≤ 5) (hr : r < k 0) (hk : 4 ≤ kKd k r) (hs : ∀ h, h < k 1 → sgB k q h = sgB k q' h) : kBt (hoursA (plK k q (k 1)) n) r = kBt (hoursA (plK k q' (k 1)) n) r := by
  have l0 : plK k q (k 1) 0 = k 0 := plK_low _ _ _ (by omega)
  have l1 : plK k q (k 1) 1 = k 1 := plK_low _ _ _ (by omega)
  refine tw_Bl (twin_pl k q q' (k 1)) (by omega) (by omega) (by omega) (by rw [plK_Kd]; exact hk) (by rw [plK_Bt, plK_Bt]) (fun h _ => by rw [plK_St, plK_St]) (fun h hh => ?_) n
  rw [l1] at hh
  rw [sgB_K (by omega) hh, sgB_K (by omega) hh, hs h hh]
/-! what a way is worth -/
def wo (K : kT) (r : Nat) : Nat := kBt K r + (if 0 < kBt K r then 1000 else 0)
def sumP (F : Nat → Nat) (p : Nat → Bool) : Nat → Nat
  | 0 => 0
  | n + 1 => sumP F p n + (if p n = true then F n else 0)
theorem sumP_cong {F G : Nat → Nat} {p : Nat → Bool} : ∀ {n : Nat}, (∀ i, i < n → p i = true → F i = G i) → sumP F p n = sumP G p n
  | 0, _ => rfl
  | n + 1, h => by
    rw [sumP, sumP, sumP_cong (fun i hi => h i (by omega))]
    by_cases c : p n = true
    · rw [if_pos c, if_pos c, h n (by omega) c]
    · rw [if_neg c, if_neg c]
theorem sumP_split (F : Nat → Nat) (p : Nat → Bool) : ∀ n, sumP F (fun _ => true) n = sumP F p n + sumP F (fun i => !p i) n
  | 0 => rfl
  | n + 1 => by
    rw [sumP, sumP, sumP, sumP_split F p n, if_pos rfl]
    cases p n
    · simp
      omega
    · simp
      omega
theorem sumP_le {F : Nat → Nat} {p : Nat → Bool} {m : Nat} : ∀ {n : Nat}, (∀ i, i < n → F i ≤ m) → sumP F p n ≤ m * n
  | 0, _ => Nat.le_refl _
  | n + 1, h => by
    have h1 := sumP_le (F := F) (p := p) (m := m) (n := n) (fun i hi => h i (by omega))
    have h2 := h n (by omega)
    rw [sumP, Nat.mul_succ]
    split <;> omega
theorem by_wo (K : kT) : ∀ n, 1000 * cnt (kHd K) n + sumB K n = sumP (wo K) (fun _ => true) n
  | 0 => rfl
  | n + 1 => by
    rw [cnt, sumB, sumP, ← by_wo K n, if_pos rfl]
    unfold wo kHd
    by_cases c : 0 < kBt K n
    · rw [if_pos (decide_eq_true c), if_pos c]
      omega
    · rw [if_neg (by rw [decide_eq_false c]; decide), if_neg c]
      omega
theorem wo_le {K : kT} {r : Nat} (h : kBt K r ≤ 60) : wo K r ≤ 1060 := by
  unfold wo
  split <;> omega
def vR (k : kT) (n : Nat) (q : Nat → Nat) : Nat := sumP (wo (hoursA (plK k q (k 1)) n)) (fun _ => true) (k 0)
def isSg (k : kT) (r : Nat) : Bool := decide (kKd k r < 4)
def onQ (r s h : Nat) : Nat := if s.testBit h = true then r + 1 else 0
def swV (k : kT) (n r s : Nat) : Nat := wo (hoursA (plK k (onQ r s) (k 1)) n) r
def lwV (k : kT) (n r s : Nat) : Nat := sumP (wo (hoursA (plK k (onQ r s) (k 1)) n)) (fun r => !isSg k r) (k 0)
theorem plK_cong {k : kT} {q q' : Nat → Nat} {H : Nat} (h : ∀ x, x < H → q x = q' x) : plK k q H = plK k q' H := by
  funext i
  unfold plK
  by_cases c : 5 ≤ i ∧ i < 14 ∧ i % 2 = 1 ∧ (i - 5) / 2 < H
  · rw [if_pos c, if_pos c, h _ c.2.2.2]
  · rw [if_neg c, if_neg c]
theorem vR_cong {k : kT} {n : Nat} {q q' : Nat → Nat} (h : ∀ x, x < k 1 → q x = q' x) : vR k n q = vR k n q' := by
  unfold vR
  rw [plK_cong h]
theorem vR_split {k : kT} {n r0 : Nat} {q : Nat → Nat} (h0 : k 0 ≤ 5) (h1 : k 1 ≤ 5) (hr0 : (r0 < k 0 ∧ kKd k r0 < 4) ∨ bset (sgB k q) (k 1) = 0) : vR k n q = lwV k n r0 (bset (sgB k q) (k 1)) + sumP (fun r => swV k n r (bset (fun h => decide (q h = r + 1)) (k 1))) (isSg k) (k 0) := by
  unfold vR lwV
  rw [sumP_split _ (isSg k), Nat.add_comm]
  congr 1
  · refine sumP_cong (fun r hr hp => ?_)
    have hk : 4 ≤ kKd k r := by
      unfold isSg at hp
      simp at hp
      exact hp
    unfold wo
    rw [rot_lost (q := q) (q' := onQ r0 (bset (sgB k q) (k 1))) h0 h1 hr hk (fun h hh => ?_)]
    have eb : (bset (sgB k q) (k 1)).testBit h = sgB k q h := by rw [bset_bit, decide_eq_true hh, Bool.true_and]
    by_cases c : sgB k q h = true
    · have e1 : onQ r0 (bset (sgB k q) (k 1)) h = r0 + 1 := by unfold onQ; rw [eb, if_pos c]
      rcases hr0 with ⟨a1, a2⟩ | hz
      · have e2 : sgB k (onQ r0 (bset (sgB k q) (k 1))) h = true := by
          rw [sgB_of e1, Nat.add_sub_cancel, decide_eq_true_eq]
          exact ⟨by omega, a1, a2⟩
        rw [c, e2]
      · rw [hz, Nat.zero_testBit] at eb
        rw [← eb] at c
        exact absurd c (by decide)
    · have c' : sgB k q h = false := by simpa using c
      have e1 : onQ r0 (bset (sgB k q) (k 1)) h = 0 := by unfold onQ; rw [eb, if_neg c]
      have e2 : sgB k (onQ r0 (bset (sgB k q) (k 1))) h = false := by
        rw [sgB_of e1, decide_eq_false (fun x => x.1 rfl)]
      rw [c', e2]
  · refine sumP_cong (fun r hr hp => ?_)
    have hk : kKd k r < 4 := by
      unfold isSg at hp
      simpa using hp
    unfold swV wo
    rw [rot_song (q := q) (q' := onQ r (bset (fun h => decide (q h = r + 1)) (k 1))) h0 h1 hr hk (fun h hh => ?_)]
    have eb : (bset (fun h => decide (q h = r + 1)) (k 1)).testBit h = decide (q h = r + 1) := by rw [bset_bit, decide_eq_true hh, Bool.true_and]
    unfold onQ
    rw [eb]
    by_cases c : q h = r + 1
    · rw [if_pos (decide_eq_true c)]
      exact ⟨fun _ => rfl, fun _ => c⟩
    · rw [if_neg (by rw [decide_eq_false c]; decide)]
      exact ⟨fun x => absurd x c, fun x => by omega⟩
def stripQ (k : kT) (q : Nat → Nat) (h : Nat) : Nat := if sgB k q h = true then q h else 0
theorem vR_strip {k : kT} {n : Nat} {q : Nat → Nat} (h0 : k 0 ≤ 5) (h1 : k 1 ≤ 5) : vR k n (stripQ k q) = vR k n q := by
  unfold vR
  refine sumP_cong (fun r hr _ => ?_)
  unfold wo
  by_cases hk : kKd k r < 4
  · rw [rot_song (q := stripQ k q) (q' := q) h0 h1 hr hk (fun h hh => ?_)]
    unfold stripQ
    by_cases c : sgB k q h = true
    · rw [if_pos c]
    · rw [if_neg c]
      constructor
      · intro x; omega
      · intro x
        refine absurd ?_ c
        unfold sgB
        rw [decide_eq_true_eq, x, Nat.add_sub_cancel]
        exact ⟨by omega, hr, hk⟩
  · rw [rot_lost (q := stripQ k q) (q' := q) h0 h1 hr (by omega) (fun h hh => ?_)]
    by_cases c : sgB k q h = true
    · have e : stripQ k q h = q h := if_pos c
      unfold sgB
      rw [e]
    · have e : stripQ k q h = 0 := if_neg c
      have c' : sgB k q h = false := by simpa using c
      rw [c']
      unfold sgB
      rw [e, decide_eq_false (fun x => x.1 rfl)]
