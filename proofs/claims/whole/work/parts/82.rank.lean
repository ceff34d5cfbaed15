/-! ===== ways as numbers ===== -/
def rk (C : Nat) (d : Nat → Nat) : Nat → Nat
  | 0 => 0
  | h + 1 => rk C d h * C + d h
theorem lexA {C X Y x : Nat} (y : Nat) (hx : x < C) (h : X < Y) : X * C + x < Y * C + y := by
  have h1 : (X + 1) * C ≤ Y * C := Nat.mul_le_mul_right C h
  rw [Nat.succ_mul] at h1
  omega
theorem lexB {C X Y x y : Nat} (hx : x < C) (hy : y < C) (h : X * C + x < Y * C + y) : X < Y ∨ (X = Y ∧ x < y) := by
  rcases Nat.lt_trichotomy X Y with c | c | c
  · exact Or.inl c
  · subst c
    exact Or.inr ⟨rfl, by omega⟩
  · have := lexA x hy c
    omega
theorem lexC {C X Y x y : Nat} (hx : x < C) (hy : y < C) (h : X * C + x = Y * C + y) : X = Y ∧ x = y := by
  rcases Nat.lt_trichotomy X Y with c | c | c
  · have := lexA y hx c
    omega
  · subst c
    exact ⟨rfl, by omega⟩
  · have := lexA x hy c
    omega
theorem rk_lt {C : Nat} {d : Nat → Nat} : ∀ H, (∀ h, h < H → d h < C) → rk C d H < C ^ H
  | 0, _ => Nat.one_pos
  | H + 1, hd => by
    have h1 := rk_lt H (fun h hh => hd h (by omega))
    have h2 := lexA 0 (hd H (by omega)) h1
    rw [rk, Nat.pow_succ]
    exact h2
theorem rk_inj {C : Nat} {d e : Nat → Nat} : ∀ H, (∀ h, h < H → d h < C) → (∀ h, h < H → e h < C) → rk C d H = rk C e H → ∀ h, h < H → d h = e h
  | 0, _, _, _, h, hh => absurd hh (by omega)
  | H + 1, hd, he, q, h, hh => by
    rw [rk, rk] at q
    obtain ⟨q1, q2⟩ := lexC (hd H (by omega)) (he H (by omega)) q
    by_cases c : h = H
    · rw [c]; exact q2
    · exact rk_inj H (fun h hh => hd h (by omega)) (fun h hh => he h (by omega)) q1 h (by omega)
theorem rk_cong {C : Nat} {d e : Nat → Nat} : ∀ H, (∀ h, h < H → d h = e h) → rk C d H = rk C e H
  | 0, _ => rfl
  | H + 1, q => by rw [rk, rk, rk_cong H (fun h hh => q h (by omega)), q H (by omega)]
theorem rk_mono {C : Nat} {d e : Nat → Nat} : ∀ H, (∀ h, h < H → d h ≤ e h) → rk C d H ≤ rk C e H
  | 0, _ => Nat.le_refl _
  | H + 1, q => by
    have h1 := Nat.mul_le_mul_right C (rk_mono (C := C) H (fun h hh => q h (by omega)))
    have h2 := q H (by omega)
    rw [rk, rk]
    omega
/-- a growing turn of figures keeps the order -/
theorem rk_grow {C B : Nat} {g : Nat → Nat} (hg : ∀ x y, x < y → y < C → g x < g y) (hB : ∀ x, x < C → g x < B) {d e : Nat → Nat} : ∀ H, (∀ h, h < H → d h < C) → (∀ h, h < H → e h < C) → (rk C d H < rk C e H → rk B (fun h => g (d h)) H < rk B (fun h => g (e h)) H) ∧ (rk C d H = rk C e H → rk B (fun h => g (d h)) H = rk B (fun h => g (e h)) H)
  | 0, _, _ => ⟨fun q => absurd q (Nat.lt_irrefl _), fun _ => rfl⟩
  | H + 1, hd, he => by
    obtain ⟨a1, a2⟩ := rk_grow hg hB H (fun h hh => hd h (by omega)) (fun h hh => he h (by omega))
    have d1 := hd H (by omega)
    have e1 := he H (by omega)
    refine ⟨fun q => ?_, fun q => ?_⟩
    · rw [rk, rk] at q
      rw [rk, rk]
      rcases lexB d1 e1 q with c | ⟨c1, c2⟩
      · exact lexA _ (hB _ d1) (a1 c)
      · rw [a2 c1]
        have := hg _ _ c2 e1
        omega
    · rw [rk, rk] at q
      rw [rk, rk]
      obtain ⟨c1, c2⟩ := lexC d1 e1 q
      rw [a2 c1, c2]
/-- the way behind -/
theorem rk_next {c : Nat} {d e : Nat → Nat} {i : Nat} : ∀ H, i < H → (∀ h, h < i → e h = d h) → e i = d i + 1 → (∀ h, i < h → h < H → d h = c ∧ e h = 0) → rk (c + 1) e H = rk (c + 1) d H + 1
  | 0, hi, _, _, _ => absurd hi (by omega)
  | H + 1, hi, h1, h2, h3 => by
    by_cases q : i = H
    · subst q
      rw [rk, rk, rk_cong i h1, h2]
      omega
    · have ih := rk_next H (by omega) h1 h2 (fun h a b => h3 h a (by omega))
      obtain ⟨e1, e2⟩ := h3 H (by omega) (by omega)
      rw [rk, rk, ih, e1, e2, Nat.succ_mul]
      omega
def itC (C j : Nat) : Nat → Nat
  | 0 => j
  | i + 1 => itC C j i / C
def dV (C H j h : Nat) : Nat := itC C j (H - 1 - h) % C
theorem dV_lt {C : Nat} (hC : 0 < C) (H j h : Nat) : dV C H j h < C := Nat.mod_lt _ hC
theorem itC_lt {C : Nat} (j H : Nat) (hj : j < C ^ H) : ∀ i, i ≤ H → itC C j i < C ^ (H - i)
  | 0, _ => hj
  | i + 1, hi => by
    have ih := itC_lt j H hj i (by omega)
    rw [show H - i = H - (i + 1) + 1 by omega, Nat.pow_succ] at ih
    rw [itC]
    exact Nat.div_lt_of_lt_mul (by rw [Nat.mul_comm]; exact ih)
theorem rk_dVs {C : Nat} (j H : Nat) (hj : j < C ^ H) : ∀ h, h ≤ H → rk C (dV C H j) h = itC C j (H - h)
  | 0, _ => by
    have h1 := itC_lt j H hj H (Nat.le_refl _)
    rw [Nat.sub_self, Nat.pow_zero] at h1
    show 0 = itC C j (H - 0)
    rw [Nat.sub_zero]
    omega
  | h + 1, hh => by
    have ih := rk_dVs j H hj h (by omega)
    have e : itC C j (H - h) = itC C j (H - (h + 1)) / C := by
      rw [show H - h = H - (h + 1) + 1 by omega]
      rfl
    rw [rk, ih, e]
    unfold dV
    rw [show H - 1 - h = H - (h + 1) by omega, Nat.mul_comm]
    exact Nat.div_add_mod _ _
theorem rk_dV {C j H : Nat} (hj : j < C ^ H) : rk C (dV C H j) H = j := by
  rw [rk_dVs j H hj H (Nat.le_refl _), Nat.sub_self]
  rfl
theorem dV_rk {C H : Nat} {d : Nat → Nat} (hd : ∀ h, h < H → d h < C) : ∀ h, h < H → dV C H (rk C d H) h = d h := by
  intro h hh
  have hC : 0 < C := by have := hd h hh; omega
  exact rk_inj H (fun h _ => dV_lt hC H _ h) hd (rk_dV (rk_lt H hd)) h hh
/-! the first that is best -/
def isBest (N : Nat) (v : Nat → Nat) (m w : Nat) : Prop := w < N ∧ v w = m ∧ (∀ j, j < N → v j ≤ m) ∧ ∀ j, j < w → v j < m
theorem best_1 (v : Nat → Nat) : isBest 1 v (v 0) 0 := ⟨by decide, rfl, fun j hj => by rw [show j = 0 by omega]; exact Nat.le_refl _, fun j hj => absurd hj (by omega)⟩
theorem best_up {N m w : Nat} {v : Nat → Nat} (h : isBest N v m w) (hv : m < v N) : isBest (N + 1) v (v N) N := by
  obtain ⟨h1, h2, h3, h4⟩ := h
  refine ⟨by omega, rfl, fun j hj => ?_, fun j hj => ?_⟩
  · by_cases c : j = N
    · rw [c]; exact Nat.le_refl _
    · have := h3 j (by omega); omega
  · have := h3 j hj; omega
theorem best_st {N m w : Nat} {v : Nat → Nat} (h : isBest N v m w) (hv : v N ≤ m) : isBest (N + 1) v m w := by
  obtain ⟨h1, h2, h3, h4⟩ := h
  refine ⟨by omega, h2, fun j hj => ?_, h4⟩
  by_cases c : j = N
  · rw [c]; exact hv
  · exact h3 j (by omega)
theorem best_uq {N m w m' w' : Nat} {v : Nat → Nat} (h : isBest N v m w) (h' : isBest N v m' w') : m = m' ∧ w = w' := by
  obtain ⟨h1, h2, h3, h4⟩ := h
  obtain ⟨g1, g2, g3, g4⟩ := h'
  have a1 := h3 w' g1
  have a2 := g3 w h1
  have e : m = m' := by omega
  refine ⟨e, ?_⟩
  rcases Nat.lt_trichotomy w w' with c | c | c
  · have := g4 w c; omega
  · exact c
  · have := h4 w' c; omega
/-! songs by their numbers -/
def slF (p : Nat → Bool) : Nat → Nat → Nat
  | 0, _ => 0
  | n + 1, s => if p n = true ∧ cnt p n = s then n else slF p n s
theorem cnt_mono {p : Nat → Bool} {a : Nat} : ∀ {b : Nat}, a ≤ b → cnt p a ≤ cnt p b
  | 0, h => by rw [show a = 0 by omega]; exact Nat.le_refl _
  | b + 1, h => by
    by_cases c : a = b + 1
    · rw [c]; exact Nat.le_refl _
    · have := cnt_mono (p := p) (a := a) (b := b) (by omega)
      rw [cnt]
      omega
theorem cnt_step {p : Nat → Bool} {a b : Nat} (h : a < b) (hp : p a = true) : cnt p a < cnt p b := by
  have h1 := cnt_mono (p := p) (a := a + 1) (b := b) h
  rw [cnt, if_pos hp] at h1
  omega
theorem slF_ok {p : Nat → Bool} : ∀ n s, s < cnt p n → slF p n s < n ∧ p (slF p n s) = true ∧ cnt p (slF p n s) = s
  | 0, s, h => absurd h (by show ¬ s < 0; omega)
  | n + 1, s, h => by
    rw [slF]
    by_cases c : p n = true ∧ cnt p n = s
    · rw [if_pos c]
      exact ⟨by omega, c.1, c.2⟩
    · rw [if_neg c]
      rw [cnt] at h
      have h2 : s < cnt p n := by
        by_cases c1 : p n = true
        · rw [if_pos c1] at h
          by_cases c2 : cnt p n = s
          · exact absurd ⟨c1, c2⟩ c
          · omega
        · rw [if_neg c1] at h
          omega
      obtain ⟨a1, a2, a3⟩ := slF_ok n s h2
      exact ⟨by omega, a2, a3⟩
theorem slF_of {p : Nat → Bool} {n r : Nat} (hr : r < n) (hp : p r = true) : slF p n (cnt p r) = r := by
  obtain ⟨a1, a2, a3⟩ := slF_ok (p := p) n (cnt p r) (cnt_step hr hp)
  rcases Nat.lt_trichotomy (slF p n (cnt p r)) r with c | c | c
  · have := cnt_step c a2; omega
  · exact c
  · have := cnt_step c hp; omega
theorem slF_grow {p : Nat → Bool} {n s t : Nat} (h : s < t) (ht : t < cnt p n) : slF p n s < slF p n t := by
  obtain ⟨a1, a2, a3⟩ := slF_ok (p := p) n s (by omega)
  obtain ⟨b1, b2, b3⟩ := slF_ok (p := p) n t ht
  rcases Nat.lt_trichotomy (slF p n s) (slF p n t) with c | c | c
  · exact c
  · rw [c] at a3; omega
  · have := cnt_step c b2; omega
def sumN (F : Nat → Nat) : Nat → Nat
  | 0 => 0
  | n + 1 => sumN F n + F n
theorem sumN_sl {F : Nat → Nat} {p : Nat → Bool} {N : Nat} : ∀ n, n ≤ N → sumN (fun s => F (slF p N s)) (cnt p n) = sumP F p n
  | 0, _ => rfl
  | n + 1, h => by
    have ih := sumN_sl (F := F) (p := p) (N := N) n (by omega)
    rw [cnt, sumP, ← ih]
    by_cases c : p n = true
    · rw [if_pos c, if_pos c, sumN, slF_of (by omega) c]
    · rw [if_neg c, if_neg c]
      rfl
theorem sumN_cong {F G : Nat → Nat} : ∀ {n : Nat}, (∀ i, i < n → F i = G i) → sumN F n = sumN G n
  | 0, _ => rfl
  | n + 1, h => by rw [sumN, sumN, sumN_cong (fun i hi => h i (by omega)), h n (by omega)]
theorem sumN_le {F : Nat → Nat} {m : Nat} : ∀ {n : Nat}, (∀ i, i < n → F i ≤ m) → sumN F n ≤ m * n
  | 0, _ => Nat.le_refl _
  | n + 1, h => by
    have h1 := sumN_le (F := F) (m := m) (n := n) (fun i hi => h i (by omega))
    have h2 := h n (by omega)
    rw [sumN, Nat.mul_succ]
    omega
/-! the class's ways and the reference's -/
def sC (k : kT) : Nat := cnt (isSg k) (k 0)
def sl (k : kT) (s : Nat) : Nat := slF (isSg k) (k 0) s
def encF (k : kT) (x : Nat) : Nat := if x = 0 then 0 else sl k (x - 1) + 1
theorem sl_ok {k : kT} {s : Nat} (h : s < sC k) : sl k s < k 0 ∧ kKd k (sl k s) < 4 := by
  obtain ⟨a, b, -⟩ := slF_ok (p := isSg k) (k 0) s h
  exact ⟨a, of_decide_eq_true (show decide (kKd k (sl k s) < 4) = true from b)⟩
theorem encF_le {k : kT} {x : Nat} (h : x < sC k + 1) : encF k x < k 0 + 1 := by
  unfold encF
  by_cases c : x = 0
  · rw [if_pos c]; omega
  · rw [if_neg c]
    have := (sl_ok (k := k) (s := x - 1) (by omega)).1
    omega
theorem encF_grow {k : kT} {x y : Nat} (h : x < y) (hy : y < sC k + 1) : encF k x < encF k y := by
  unfold encF
  rw [if_neg (show ¬ y = 0 by omega)]
  by_cases c : x = 0
  · rw [if_pos c]; omega
  · rw [if_neg c]
    have : sl k (x - 1) < sl k (y - 1) := slF_grow (by omega) (show y - 1 < sC k by omega)
    omega
/-- what the class makes of a way -/
def vC (k : kT) (n : Nat) (d : Nat → Nat) : Nat := lwV k n (sl k (sC k - 1)) (bset (fun h => decide (d h ≠ 0)) (k 1)) + sumN (fun s => swV k n (sl k s) (bset (fun h => decide (d h = s + 1)) (k 1))) (sC k)
theorem vC_vR {k : kT} {n : Nat} {d : Nat → Nat} (h0 : k 0 ≤ 5) (h1 : k 1 ≤ 5) (hd : ∀ h, h < k 1 → d h < sC k + 1) : vC k n d = vR k n (fun h => encF k (d h)) := by
  have e1 : bset (sgB k (fun h => encF k (d h))) (k 1) = bset (fun h => decide (d h ≠ 0)) (k 1) := bset_cong (fun h hh => by
    have hd' := hd h hh
    by_cases c : d h = 0
    · have ez : encF k (d h) = 0 := if_pos c
      rw [decide_eq_false (fun x => x c)]
      rw [sgB_of (q := fun h => encF k (d h)) (h := h) ez, decide_eq_false (fun x => x.1 rfl)]
    · have ez : encF k (d h) = sl k (d h - 1) + 1 := if_neg c
      obtain ⟨a1, a2⟩ := sl_ok (k := k) (s := d h - 1) (by omega)
      rw [decide_eq_true c]
      rw [sgB_of (q := fun h => encF k (d h)) (h := h) ez, Nat.add_sub_cancel, decide_eq_true_eq]
      exact ⟨by omega, a1, a2⟩)
  have hr0 : (sl k (sC k - 1) < k 0 ∧ kKd k (sl k (sC k - 1)) < 4) ∨ bset (sgB k (fun h => encF k (d h))) (k 1) = 0 := by
    by_cases c : sC k = 0
    · right
      rw [e1]
      refine nat_zero_of (bset_lt _ _) (fun x hx => ?_)
      rw [bset_bit, decide_eq_false (p := d x ≠ 0) (fun q => q (by have := hd x hx; omega)), Bool.and_false]
    · exact Or.inl (sl_ok (by omega))
  rw [vR_split h0 h1 hr0, e1]
  unfold vC
  congr 1
  unfold sC
  rw [← sumN_sl (F := fun r => swV k n r (bset (fun h => decide (encF k (d h) = r + 1)) (k 1))) (p := isSg k) (N := k 0) (k 0) (Nat.le_refl _)]
  refine sumN_cong (fun s hs => ?_)
  show swV k n (sl k s) _ = swV k n (sl k s) _
  congr 1
  refine bset_cong (fun h hh => ?_)
  have hd' := hd h hh
  by_cases c : d h = s + 1
  · have ez : encF k (d h) = sl k s + 1 := by unfold encF; rw [if_neg (by omega), c, Nat.add_sub_cancel]
    rw [decide_eq_true c]
    exact (decide_eq_true ez).symm
  · rw [decide_eq_false c]
    refine (decide_eq_false (fun q => ?_)).symm
    change encF k (d h) = sl k s + 1 at q
    have hs' : s < sC k := hs
    rcases Nat.lt_trichotomy (d h) (s + 1) with g | g | g
    · have := encF_grow (k := k) g (by omega)
      rw [show encF k (s + 1) = sl k s + 1 from rfl] at this
      omega
    · exact c g
    · have := encF_grow (k := k) g hd'
      rw [show encF k (s + 1) = sl k s + 1 from rfl] at this
      omega
theorem best_both {k : kT} {n m w : Nat} (h0 : k 0 ≤ 5) (h1 : k 1 ≤ 5) (h : isBest ((sC k + 1) ^ k 1) (fun j => vC k n (dV (sC k + 1) (k 1) j)) m w) : isBest ((k 0 + 1) ^ k 1) (fun j => vR k n (dV (k 0 + 1) (k 1) j)) m (rk (k 0 + 1) (fun x => encF k (dV (sC k + 1) (k 1) w x)) (k 1)) := by
  obtain ⟨g1, g2, g3, g4⟩ := h
  have hdw : ∀ x, x < k 1 → dV (sC k + 1) (k 1) w x < sC k + 1 := fun x _ => dV_lt (by omega) _ _ _
  have hew : ∀ x, x < k 1 → encF k (dV (sC k + 1) (k 1) w x) < k 0 + 1 := fun x hx => encF_le (hdw x hx)
  have vE : ∀ d : Nat → Nat, (∀ x, x < k 1 → d x < sC k + 1) → vR k n (fun x => encF k (d x)) = vC k n (dV (sC k + 1) (k 1) (rk (sC k + 1) d (k 1))) := fun d hd => by
    rw [vC_vR h0 h1 (fun x _ => dV_lt (by omega) _ _ _)]
    exact vR_cong (fun x hx => by rw [dV_rk hd x hx])
  have key : ∀ j, j < (k 0 + 1) ^ k 1 → ∃ d : Nat → Nat, (∀ x, x < k 1 → d x < sC k + 1) ∧ vR k n (dV (k 0 + 1) (k 1) j) = vC k n (dV (sC k + 1) (k 1) (rk (sC k + 1) d (k 1))) ∧ rk (k 0 + 1) (fun x => encF k (d x)) (k 1) ≤ j := fun j hj => by
    have hdj : ∀ x, dV (k 0 + 1) (k 1) j x < k 0 + 1 := fun x => dV_lt (by omega) _ _ _
    refine ⟨fun x => if sgB k (dV (k 0 + 1) (k 1) j) x = true then cnt (isSg k) (dV (k 0 + 1) (k 1) j x - 1) + 1 else 0, fun x hx => ?_, ?_, ?_⟩
    · try dsimp only
      by_cases c : sgB k (dV (k 0 + 1) (k 1) j) x = true
      · rw [if_pos c]
        unfold sgB at c
        rw [decide_eq_true_eq] at c
        have := cnt_step (p := isSg k) c.2.1 (by unfold isSg; exact decide_eq_true c.2.2)
        unfold sC
        omega
      · rw [if_neg c]; omega
    all_goals
      have ee : ∀ x, encF k (if sgB k (dV (k 0 + 1) (k 1) j) x = true then cnt (isSg k) (dV (k 0 + 1) (k 1) j x - 1) + 1 else 0) = stripQ k (dV (k 0 + 1) (k 1) j) x := fun x => by
        unfold stripQ
        by_cases c : sgB k (dV (k 0 + 1) (k 1) j) x = true
        · rw [if_pos c, if_pos c]
          unfold sgB at c
          rw [decide_eq_true_eq] at c
          unfold encF sl
          rw [if_neg (by omega), Nat.add_sub_cancel, slF_of c.2.1 (by unfold isSg; exact decide_eq_true c.2.2)]
          omega
        · rw [if_neg c, if_neg c]
          rfl
    · rw [← vE _ (fun x hx => ?_)]
      · rw [← vR_strip h0 h1]
        exact vR_cong (fun x hx => (ee x).symm)
      · try dsimp only
        by_cases c : sgB k (dV (k 0 + 1) (k 1) j) x = true
        · rw [if_pos c]
          unfold sgB at c
          rw [decide_eq_true_eq] at c
          have := cnt_step (p := isSg k) c.2.1 (by unfold isSg; exact decide_eq_true c.2.2)
          unfold sC
          omega
        · rw [if_neg c]; omega
    · rw [rk_cong (k 1) (fun x hx => ee x)]
      refine Nat.le_trans (rk_mono (e := dV (k 0 + 1) (k 1) j) (k 1) (fun x hx => ?_)) (Nat.le_of_eq (rk_dV hj))
      unfold stripQ
      split
      · exact Nat.le_refl _
      · exact Nat.zero_le _
  have ew : vR k n (dV (k 0 + 1) (k 1) (rk (k 0 + 1) (fun x => encF k (dV (sC k + 1) (k 1) w x)) (k 1))) = m := by
    rw [vR_cong (fun x hx => dV_rk hew x hx), ← vC_vR h0 h1 hdw]
    exact g2
  refine ⟨rk_lt (k 1) hew, ew, fun j hj => ?_, fun j hj => ?_⟩
  · obtain ⟨d, hd, e1, -⟩ := key j hj
    show vR k n (dV (k 0 + 1) (k 1) j) ≤ m
    rw [e1]
    exact g3 _ (rk_lt (k 1) hd)
  · have hj' := Nat.lt_trans hj (rk_lt (k 1) hew)
    obtain ⟨d, hd, e1, e2⟩ := key j hj'
    show vR k n (dV (k 0 + 1) (k 1) j) < m
    rw [e1]
    have hle := g3 _ (rk_lt (k 1) hd)
    by_cases c : rk (sC k + 1) d (k 1) < w
    · exact g4 _ c
    · obtain ⟨r1, r2⟩ := rk_grow (C := sC k + 1) (B := k 0 + 1) (g := encF k) (fun x y a b => encF_grow a b) (fun x a => encF_le a) (d := dV (sC k + 1) (k 1) w) (e := d) (k 1) hdw hd
      rw [rk_dV g1] at r1 r2
      rcases Nat.lt_or_ge w (rk (sC k + 1) d (k 1)) with g | g
      · have := r1 g; omega
      · have := r2 (by omega); omega
