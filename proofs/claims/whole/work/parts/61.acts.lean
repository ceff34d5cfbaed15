/-! ===== one number of a camp set; acts ===== -/
def kU (k : kT) (i v : Nat) : kT := fun x => if x = i then v else k x
theorem kU_eq (k : kT) (i v : Nat) : kU k i v i = v := if_pos rfl
theorem kU_ne {k : kT} {i v x : Nat} (h : x ≠ i) : kU k i v x = k x := if_neg h
theorem RM_upd {a i v : Nat} {T : jm_I2} {k : kT} (h : RM a T k) : RM a (jm_upd T a i (nI v)) (kU k i v) := by
  intro x hx
  rw [upd_at]
  unfold kU
  by_cases e : x = i
  · rw [if_pos ⟨rfl, e⟩, if_pos e]
  · rw [if_neg (fun q => e q.2), if_neg e, h x hx]
theorem KV_U {k : kT} {i v : Nat} (hV : KV k) (h4 : 4 ≤ i) (c1 : ∀ h, h < k 1 → 4 + 2 * h = i → v ≤ 20) (c2 : ∀ h, h < k 1 → 5 + 2 * h = i → v ≤ k 0) (c3 : ∀ r, r < k 0 → 14 + 4 * r = i → 1 ≤ v ∧ v ≤ 5) (c4 : ∀ r, r < k 0 → 15 + 4 * r = i → v ≤ 60) (c5 : ∀ r, r < k 0 → 16 + 4 * r = i → 1 ≤ v ∧ v ≤ 9) (c6 : ∀ r, r < k 0 → 17 + 4 * r = i → v ≤ 63) : KV (kU k i v) := by
  obtain ⟨v0, v1, v2, v3, v4, v5⟩ := hV
  have l : ∀ x, x < 4 → kU k i v x = k x := fun x hx => kU_ne (by omega)
  refine ⟨by rw [l 0 (by decide)]; exact v0, by rw [l 1 (by decide)]; exact v1, by rw [l 2 (by decide)]; exact v2, by rw [l 3 (by decide)]; exact v3, fun h hh => ?_, fun r hr => ?_⟩
  · rw [l 1 (by decide)] at hh
    rw [l 0 (by decide)]
    obtain ⟨a1, a2⟩ := v4 h hh
    unfold kSt at a1 ⊢
    unfold kPl at a2 ⊢
    refine ⟨?_, ?_⟩
    · by_cases e : 4 + 2 * h = i
      · rw [e, kU_eq]; exact c1 h hh e
      · rw [kU_ne e]; exact a1
    · by_cases e : 5 + 2 * h = i
      · rw [e, kU_eq]; exact c2 h hh e
      · rw [kU_ne e]; exact a2
  · rw [l 0 (by decide)] at hr
    obtain ⟨a1, a2, a3, a4, a5, a6⟩ := v5 r hr
    unfold kKd at a1 a2 ⊢
    unfold kBt at a3 ⊢
    unfold kLs at a4 a5 ⊢
    unfold kBr at a6 ⊢
    have b1 : 1 ≤ kU k i v (14 + 4 * r) ∧ kU k i v (14 + 4 * r) ≤ 5 := by
      by_cases e : 14 + 4 * r = i
      · rw [e, kU_eq]; exact c3 r hr e
      · rw [kU_ne e]; exact ⟨a1, a2⟩
    have b2 : kU k i v (15 + 4 * r) ≤ 60 := by
      by_cases e : 15 + 4 * r = i
      · rw [e, kU_eq]; exact c4 r hr e
      · rw [kU_ne e]; exact a3
    have b3 : 1 ≤ kU k i v (16 + 4 * r) ∧ kU k i v (16 + 4 * r) ≤ 9 := by
      by_cases e : 16 + 4 * r = i
      · rw [e, kU_eq]; exact c5 r hr e
      · rw [kU_ne e]; exact ⟨a4, a5⟩
    have b4 : kU k i v (17 + 4 * r) ≤ 63 := by
      by_cases e : 17 + 4 * r = i
      · rw [e, kU_eq]; exact c6 r hr e
      · rw [kU_ne e]; exact a6
    exact ⟨b1.1, b1.2, b2, b3.1, b3.2, b4⟩
theorem KG_U {k : kT} {i v : Nat} (hG : KG k) (h4 : 4 ≤ i) (hV : KV (kU k i v)) : KG (kU k i v) := ⟨hV, by rw [kU_ne (by omega)]; exact hG.2.1, by rw [kU_ne (by omega), kU_ne (by omega)]; exact hG.2.2⟩
theorem sameK_tr {f k k' : kT} (h : sameK f k) (h2 : sameK k k') : sameK f k' := by
  obtain ⟨a0, a1, a2, a3⟩ := h
  obtain ⟨b0, b1, b2, b3⟩ := h2
  refine ⟨a0.trans b0, a1.trans b1, a2.trans b2, fun r hr => ?_⟩
  have h1 := a3 r (by omega)
  have h2 := b3 r hr
  exact ⟨h1.1.trans h2.1, h1.2.trans h2.2⟩
theorem sameK_sy {f k : kT} (h : sameK f k) : sameK k f := by
  obtain ⟨a0, a1, a2, a3⟩ := h
  exact ⟨a0.symm, a1.symm, a2.symm, fun r hr => ⟨(a3 r (by omega)).1.symm, (a3 r (by omega)).2.symm⟩⟩
theorem sameK_rf (k : kT) : sameK k k := ⟨rfl, rfl, rfl, fun _ _ => ⟨rfl, rfl⟩⟩
theorem sameK_U {k : kT} {i v : Nat} (h4 : 4 ≤ i) (h : i < 14 ∨ (i - 14) % 2 = 1) : sameK k (kU k i v) := by
  refine ⟨(kU_ne (by omega)).symm, (kU_ne (by omega)).symm, (kU_ne (by omega)).symm, fun r _ => ⟨?_, ?_⟩⟩
  · unfold kKd
    rw [kU_ne (by omega)]
  · unfold kLs
    rw [kU_ne (by omega)]
theorem sameK_H (k : kT) : sameK k (hourA k) := ⟨rfl, rfl, rfl, fun r _ => ⟨hourA_Kd.symm, hourA_Ls.symm⟩⟩
theorem RX_Kd {c r b : Nat} {T : jm_I2} {k : kT} (h : RX c T k) (h5 : k 1 ≤ 5) : RX c (jm_upd T (c + 3) r (nI b)) (kU k (14 + 4 * r + 0) b) := by
  obtain ⟨x0, x1, x2, x3, x4, x5⟩ := h
  have l : ∀ i, i < 14 → kU k (14 + 4 * r + 0) b i = k i := fun i hi => by unfold kU; rw [if_neg (by omega)]
  refine ⟨?_, ?_, ?_, ?_, fun h hh => ?_, fun r' hr' => ?_⟩
  · rw [upd_ne (by omega), l 2 (by decide), x0]
  · rw [upd_ne (by omega), l 3 (by decide), x1]
  · rw [upd_ne (by omega), l 1 (by decide), x2]
  · rw [upd_ne (by omega), l 0 (by decide), x3]
  · rw [l 1 (by decide)] at hh
    unfold kSt kPl
    rw [upd_ne (by omega), upd_ne (by omega), l _ (by omega), l _ (by omega)]
    exact x4 h hh
  · rw [l 0 (by decide)] at hr'
    obtain ⟨z1, z2, z3, z4⟩ := x5 r' hr'
    unfold kKd at z1
    unfold kBt at z2
    unfold kLs at z3
    unfold kBr at z4
    unfold kKd kBt kLs kBr kU
    by_cases er : r' = r
    · subst er
      simp (disch := omega) only [upd_at, row_at, n_eq_f, n_eq_t, and_true, true_and, and_false, false_and, and_self, if_true, if_false,  z1, z2, z3, z4]
    · simp (disch := omega) only [upd_at, row_at, n_eq_f, n_eq_t, and_true, true_and, and_false, false_and, and_self, if_true, if_false,  z1, z2, z3, z4]
theorem RX_Bt {c r b : Nat} {T : jm_I2} {k : kT} (h : RX c T k) (h5 : k 1 ≤ 5) : RX c (jm_upd T (c + 4) r (nI b)) (kU k (14 + 4 * r + 1) b) := by
  obtain ⟨x0, x1, x2, x3, x4, x5⟩ := h
  have l : ∀ i, i < 14 → kU k (14 + 4 * r + 1) b i = k i := fun i hi => by unfold kU; rw [if_neg (by omega)]
  refine ⟨?_, ?_, ?_, ?_, fun h hh => ?_, fun r' hr' => ?_⟩
  · rw [upd_ne (by omega), l 2 (by decide), x0]
  · rw [upd_ne (by omega), l 3 (by decide), x1]
  · rw [upd_ne (by omega), l 1 (by decide), x2]
  · rw [upd_ne (by omega), l 0 (by decide), x3]
  · rw [l 1 (by decide)] at hh
    unfold kSt kPl
    rw [upd_ne (by omega), upd_ne (by omega), l _ (by omega), l _ (by omega)]
    exact x4 h hh
  · rw [l 0 (by decide)] at hr'
    obtain ⟨z1, z2, z3, z4⟩ := x5 r' hr'
    unfold kKd at z1
    unfold kBt at z2
    unfold kLs at z3
    unfold kBr at z4
    unfold kKd kBt kLs kBr kU
    by_cases er : r' = r
    · subst er
      simp (disch := omega) only [upd_at, row_at, n_eq_f, n_eq_t, and_true, true_and, and_false, false_and, and_self, if_true, if_false,  z1, z2, z3, z4]
    · simp (disch := omega) only [upd_at, row_at, n_eq_f, n_eq_t, and_true, true_and, and_false, false_and, and_self, if_true, if_false,  z1, z2, z3, z4]
theorem RX_Ls {c r b : Nat} {T : jm_I2} {k : kT} (h : RX c T k) (h5 : k 1 ≤ 5) : RX c (jm_upd T (c + 5) r (nI b)) (kU k (14 + 4 * r + 2) b) := by
  obtain ⟨x0, x1, x2, x3, x4, x5⟩ := h
  have l : ∀ i, i < 14 → kU k (14 + 4 * r + 2) b i = k i := fun i hi => by unfold kU; rw [if_neg (by omega)]
  refine ⟨?_, ?_, ?_, ?_, fun h hh => ?_, fun r' hr' => ?_⟩
  · rw [upd_ne (by omega), l 2 (by decide), x0]
  · rw [upd_ne (by omega), l 3 (by decide), x1]
  · rw [upd_ne (by omega), l 1 (by decide), x2]
  · rw [upd_ne (by omega), l 0 (by decide), x3]
  · rw [l 1 (by decide)] at hh
    unfold kSt kPl
    rw [upd_ne (by omega), upd_ne (by omega), l _ (by omega), l _ (by omega)]
    exact x4 h hh
  · rw [l 0 (by decide)] at hr'
    obtain ⟨z1, z2, z3, z4⟩ := x5 r' hr'
    unfold kKd at z1
    unfold kBt at z2
    unfold kLs at z3
    unfold kBr at z4
    unfold kKd kBt kLs kBr kU
    by_cases er : r' = r
    · subst er
      simp (disch := omega) only [upd_at, row_at, n_eq_f, n_eq_t, and_true, true_and, and_false, false_and, and_self, if_true, if_false,  z1, z2, z3, z4]
    · simp (disch := omega) only [upd_at, row_at, n_eq_f, n_eq_t, and_true, true_and, and_false, false_and, and_self, if_true, if_false,  z1, z2, z3, z4]
theorem RX_Br {c r b : Nat} {T : jm_I2} {k : kT} (h : RX c T k) (h5 : k 1 ≤ 5) : RX c (jm_upd T (c + 6) r (nI b)) (kU k (14 + 4 * r + 3) b) := by
  obtain ⟨x0, x1, x2, x3, x4, x5⟩ := h
  have l : ∀ i, i < 14 → kU k (14 + 4 * r + 3) b i = k i := fun i hi => by unfold kU; rw [if_neg (by omega)]
  refine ⟨?_, ?_, ?_, ?_, fun h hh => ?_, fun r' hr' => ?_⟩
  · rw [upd_ne (by omega), l 2 (by decide), x0]
  · rw [upd_ne (by omega), l 3 (by decide), x1]
  · rw [upd_ne (by omega), l 1 (by decide), x2]
  · rw [upd_ne (by omega), l 0 (by decide), x3]
  · rw [l 1 (by decide)] at hh
    unfold kSt kPl
    rw [upd_ne (by omega), upd_ne (by omega), l _ (by omega), l _ (by omega)]
    exact x4 h hh
  · rw [l 0 (by decide)] at hr'
    obtain ⟨z1, z2, z3, z4⟩ := x5 r' hr'
    unfold kKd at z1
    unfold kBt at z2
    unfold kLs at z3
    unfold kBr at z4
    unfold kKd kBt kLs kBr kU
    by_cases er : r' = r
    · subst er
      simp (disch := omega) only [upd_at, row_at, n_eq_f, n_eq_t, and_true, true_and, and_false, false_and, and_self, if_true, if_false,  z1, z2, z3, z4]
    · simp (disch := omega) only [upd_at, row_at, n_eq_f, n_eq_t, and_true, true_and, and_false, false_and, and_self, if_true, if_false,  z1, z2, z3, z4]
theorem RX_St {c h0 b : Nat} {T : jm_I2} {k : kT} (h : RX c T k) (hb : h0 < 5) (h5 : k 1 ≤ 5) : RX c (jm_upd T (c + 1) h0 (nI b)) (kU k (4 + 2 * h0 + 0) b) := by
  obtain ⟨x0, x1, x2, x3, x4, x5⟩ := h
  have l : ∀ i, i < 4 → kU k (4 + 2 * h0 + 0) b i = k i := fun i hi => by unfold kU; rw [if_neg (by omega)]
  have g : ∀ i, 14 ≤ i → kU k (4 + 2 * h0 + 0) b i = k i := fun i hi => by unfold kU; rw [if_neg (by omega)]
  refine ⟨?_, ?_, ?_, ?_, fun h hh => ?_, fun r' hr' => ?_⟩
  · rw [upd_ne (by omega), l 2 (by decide), x0]
  · rw [upd_ne (by omega), l 3 (by decide), x1]
  · rw [upd_ne (by omega), l 1 (by decide), x2]
  · rw [upd_ne (by omega), l 0 (by decide), x3]
  · rw [l 1 (by decide)] at hh
    obtain ⟨z1, z2⟩ := x4 h hh
    unfold kSt at z1
    unfold kPl at z2
    unfold kSt kPl kU
    by_cases er : h = h0
    · subst er
      simp (disch := omega) only [upd_at, row_at, n_eq_f, n_eq_t, and_true, true_and, and_false, false_and, and_self, if_true, if_false,  z1, z2]
    · simp (disch := omega) only [upd_at, row_at, n_eq_f, n_eq_t, and_true, true_and, and_false, false_and, and_self, if_true, if_false,  z1, z2]
  · rw [l 0 (by decide)] at hr'
    unfold kKd kBt kLs kBr
    rw [upd_ne (by omega), upd_ne (by omega), upd_ne (by omega), upd_ne (by omega), g _ (by omega), g _ (by omega), g _ (by omega), g _ (by omega)]
    exact x5 r' hr'
theorem RX_Pl {c h0 b : Nat} {T : jm_I2} {k : kT} (h : RX c T k) (hb : h0 < 5) (h5 : k 1 ≤ 5) : RX c (jm_upd T (c + 2) h0 (plv b)) (kU k (4 + 2 * h0 + 1) b) := by
  obtain ⟨x0, x1, x2, x3, x4, x5⟩ := h
  have l : ∀ i, i < 4 → kU k (4 + 2 * h0 + 1) b i = k i := fun i hi => by unfold kU; rw [if_neg (by omega)]
  have g : ∀ i, 14 ≤ i → kU k (4 + 2 * h0 + 1) b i = k i := fun i hi => by unfold kU; rw [if_neg (by omega)]
  refine ⟨?_, ?_, ?_, ?_, fun h hh => ?_, fun r' hr' => ?_⟩
  · rw [upd_ne (by omega), l 2 (by decide), x0]
  · rw [upd_ne (by omega), l 3 (by decide), x1]
  · rw [upd_ne (by omega), l 1 (by decide), x2]
  · rw [upd_ne (by omega), l 0 (by decide), x3]
  · rw [l 1 (by decide)] at hh
    obtain ⟨z1, z2⟩ := x4 h hh
    unfold kSt at z1
    unfold kPl at z2
    unfold kSt kPl kU
    by_cases er : h = h0
    · subst er
      simp (disch := omega) only [upd_at, row_at, n_eq_f, n_eq_t, and_true, true_and, and_false, false_and, and_self, if_true, if_false,  z1, z2]
    · simp (disch := omega) only [upd_at, row_at, n_eq_f, n_eq_t, and_true, true_and, and_false, false_and, and_self, if_true, if_false,  z1, z2]
  · rw [l 0 (by decide)] at hr'
    unfold kKd kBt kLs kBr
    rw [upd_ne (by omega), upd_ne (by omega), upd_ne (by omega), upd_ne (by omega), g _ (by omega), g _ (by omega), g _ (by omega), g _ (by omega)]
    exact x5 r' hr'
def CA (S : jm_I2) (n nx : Nat) (f : Nat → kT) : Prop := S 56 2 = nI n ∧ S 56 1 = nI nx ∧ ∀ q, q < n → RLn (58 + (nx + 24 - n + q) % 24) S (f q)
def RA (S : jm_I2) (n : Nat) (f : Nat → kT) : Prop := S 128 9 = nI n ∧ ∀ q, q < n → ∀ i, i < 34 → S 135 (34 * q + i) = nI (f q i)
def HA (n : Nat) (f : Nat → kT) (k : kT) : Prop := n ≤ 24 ∧ ∀ q, q < n → KG (f q) ∧ sameK (f q) k
def pN (n : Nat) : Nat := min 24 (n + 1)
def pF (n : Nat) (f : Nat → kT) (k : kT) : Nat → kT := fun q => if n < 24 then (if q < n then f q else k) else (if q < 23 then f (q + 1) else k)
theorem IA_get {S : jm_I2} {k : kT} (h : IA S k) : ∃ n nx f, nx < 24 ∧ CA S n nx f ∧ RA S n f ∧ HA n f k := by
  obtain ⟨n, nx, f, h1, h2, h3, h4, h5, h6, h7⟩ := h
  exact ⟨n, nx, f, h2, ⟨h4, h5, fun q hq => (h7 q hq).2.2.1⟩, ⟨h6, fun q hq => (h7 q hq).2.2.2⟩, h1, fun q hq => ⟨(h7 q hq).1, (h7 q hq).2.1⟩⟩
theorem IA_put {S : jm_I2} {k : kT} {n nx : Nat} {f : Nat → kT} (h : nx < 24) (hC : CA S n nx f) (hR : RA S n f) (hH : HA n f k) : IA S k := ⟨n, nx, f, hH.1, h, trivial, hC.1, hC.2.1, hR.1, fun q hq => ⟨(hH.2 q hq).1, (hH.2 q hq).2, hC.2.2 q hq, hR.2 q hq⟩⟩
theorem HA_push {n : Nat} {f : Nat → kT} {k : kT} (h : HA n f k) (hG : KG k) : HA (pN n) (pF n f k) k := by
  obtain ⟨a, c⟩ := h
  refine ⟨by unfold pN; omega, fun q hq => ?_⟩
  unfold pF
  unfold pN at hq
  by_cases h1 : n < 24
  · rw [if_pos h1]
    by_cases h2 : q < n
    · rw [if_pos h2]; exact c q h2
    · rw [if_neg h2]; exact ⟨hG, sameK_rf k⟩
  · rw [if_neg h1]
    by_cases h2 : q < 23
    · rw [if_pos h2]; exact c (q + 1) (by omega)
    · rw [if_neg h2]; exact ⟨hG, sameK_rf k⟩
theorem HA_same {n : Nat} {f : Nat → kT} {k k' : kT} (h : HA n f k) (hs : sameK k k') : HA n f k' := ⟨h.1, fun q hq => ⟨(h.2 q hq).1, sameK_tr (h.2 q hq).2 hs⟩⟩
theorem InvK_A {xs : Nat → Int32} {S U : jm_I2} {k k' : kT} {n nx : Nat} {g : Nat → kT} (hI : InvK xs S k) (hX : RX 25 U k') (hM : RM 132 U k') (hG : KG k') (hnx : nx < 24) (hC : CA U n nx g) (hR : RA U n g) (hH : HA n g k') (f : ∀ o, o ≤ 14 ∨ (36 ≤ o ∧ o ≤ 52) ∨ o = 126 ∨ o = 127 ∨ (129 ≤ o ∧ o ≤ 131) ∨ o = 136 ∨ (141 ≤ o ∧ o ≤ 143) ∨ 144 ≤ o → U o = S o) (f1 : ∀ i, i = 1 ∨ i = 11 ∨ i = 18 ∨ i = 26 → U 128 i = S 128 i) : InvK xs U k' := by
  obtain ⟨h1, h2, h3, h4, h5, h6, h7, h8, h9⟩ := hI
  exact ⟨IS_of h1 (fun o ho => f o (by omega)), IR_of h2 (fun o ho => f o (by omega)), IT_of h3 (by rw [f 13 (by omega)]) (f1 _ (by omega)) (f _ (by omega)) (f _ (by omega)), ⟨hX, hM, hG⟩, IA_put hnx hC hR hH, II_of h6 (fun o a b => f o (by omega)) (f _ (by omega)) (f _ (by omega)), IQ_of h7 (by rw [f 126 (by omega)]) (f1 _ (by omega)) (f _ (by omega)) (f _ (by omega)), IF_of h8 (by rw [f 0 (by omega)]) (f1 _ (by omega)), IU_of h9 (by rw [f 0 (by omega)]) (f1 _ (by omega))⟩
theorem rf_lines : ∀ r, r < 24 → jm_rf 57 r = 58 + r ∧ jm_kd (58 + r) = 9 ∧ jm_ll 0 (58 + r) = 21 ∧ jm_lw 9 (58 + r) = 21 := by decide +kernel
theorem line_sh (L : Nat) {r : Nat} (h : r < 24) : jm_rf 57 r = 58 + r ∧ jm_kd (58 + r) = 9 ∧ jm_ll L (58 + r) = 21 ∧ jm_lw 9 (58 + r) = 21 := by
  have := rf_lines r h
  rw [ll_of (by show 58 + r ≠ 1000000; omega)]
  exact this
section
variable {xs : Nat → Int32} {L d : Nat} {S : jm_I2} {k : kT} {Z : Option Value → jm_I2 → Prop}
theorem c_keep {n nx : Nat} {f : Nat → kT} (hX : RX 25 S k) (hV : KV k) (hn : n ≤ 24) (hx : nx < 24) (hC : CA S n nx f) (hZ : ∀ T, CA T (pN n) ((nx + 1) % 24) (pF n f k) → (∀ o, o ≠ 56 → ¬ (58 ≤ o ∧ o ≤ 81) → T o = S o) → Z none T) : CL L d 2 [.ref 56, .ref 25] S Z := by
  have ht := top_sh L
  have hs := camp_sh isC25
  have hl := camp_ll L isC25
  have hw := line_sh L hx
  obtain ⟨c1, c2, c3⟩ := hC
  obtain ⟨v0, v1, v2, v3, v4, v5⟩ := hV
  obtain ⟨x0, x1, x2, x3, x4, x5⟩ := hX
  simp (disch := first | omega | exact nI_pos (by omega) | (rw [nI_clamp (by omega), nI_clamp (by omega)]; omega)) only [cl2, w2_0, w2_1, w2_4, w2_5, w2_8, w2_9, w2_10, w2_11, w2_12, w2_13, w2_16, w2_17, w2_18, w2_21, w2_22, w2_23, w2_24, w2_25, w2_28, w2_29, w2_32, w2_33, w2_34, w2_36, w2_37, w2_40, w2_41, w2_44, w2_45, w2_46, w2_48, w2_49, w2_52, w2_53, w2_56, w2_57, w2_58, w2_60, w2_61, w2_64, w2_65, w2_66, w2_69, w2_70, w2_71, w2_73, w2_74, w2_77, w2_78, w2_80, w2_81, w2_84, w2_85, w2_86, w2_89, w2_92, ht, hs, hl, hw, ↓neg_vN, lit_nI, nI_leI, nI_ltI, nI_eq, jm_in_nI, nI_clamp, nI_add, n_mul, pk_sub, n_le_t, n_le_f, n_lt_t, n_lt_f, n_eq_t, n_eq_f, true_and, and_true, ne_eq, not_false_eq_true, not_true_eq_false, min_n, max_n, dif_n, n_rem, n_div, or_nI, shl_nI, Option.toList_some, Option.toList_none, List.singleton_append, List.nil_append, if_true, if_false, or_true, true_or, or_false, false_or, and_false, false_and, Bool.false_eq_true, c1, c2, x1, upd_ne, row_ne]
  clear ht hs hl hw
  refine hZ _ ⟨?_, ?_, fun q hq => ?_⟩ (fun o h1 h2 => ?_) <;> clear hZ
  · unfold pN
    rw [Nat.min_comm]
    simp (disch := omega) only [upd_at, row_at, n_eq_f, n_eq_t, and_true, true_and, and_false, false_and, and_self, if_true, if_false,  c1, nI_add, nI_ltI, min_n]
  · simp (disch := omega) only [upd_at, row_at, n_eq_f, n_eq_t, and_true, true_and, and_false, false_and, and_self, if_true, if_false,  ]
    congr 1
    omega
  · unfold pF pN at *
    by_cases e : (nx + 1) % 24 + 24 - min 24 (n + 1) + q = nx + 24 ∨ (nx + 1) % 24 + 24 - min 24 (n + 1) + q = nx
    · have e2 : ((nx + 1) % 24 + 24 - min 24 (n + 1) + q) % 24 = nx := by omega
      have e3 : (if n < 24 then (if q < n then f q else k) else (if q < 23 then f (q + 1) else k)) = k := by
        by_cases h1 : n < 24
        · rw [if_pos h1, if_neg (by omega)]
        · rw [if_neg h1, if_neg (by omega)]
      rw [e2, e3]
      refine ⟨?_, fun r hr => ?_, fun h hh => ?_⟩
      · simp (disch := omega) only [upd_at, row_at, n_eq_f, n_eq_t, and_true, true_and, and_false, false_and, and_self, if_true, if_false,  pk_cpy_out]
      · obtain ⟨z1, z2, z3, z4⟩ := x5 r hr
        simp (disch := omega) only [upd_at, row_at, n_eq_f, n_eq_t, and_true, true_and, and_false, false_and, and_self, if_true, if_false,  pk_cpy_out, pk_cpy_in, Nat.add_sub_cancel_left, Nat.zero_add, z2, z4]
      · obtain ⟨z1, z2⟩ := x4 h hh
        simp (disch := omega) only [upd_at, row_at, n_eq_f, n_eq_t, and_true, true_and, and_false, false_and, and_self, if_true, if_false,  pk_cpy_out, pk_cpy_in, Nat.add_sub_cancel_left, Nat.zero_add, z1, z2]
    · have e2 : ((nx + 1) % 24 + 24 - min 24 (n + 1) + q) % 24 ≠ nx := by omega
      by_cases h1 : n < 24
      · have h2 : q < n := by omega
        rw [if_pos h1, if_pos h2, show ((nx + 1) % 24 + 24 - min 24 (n + 1) + q) % 24 = (nx + 24 - n + q) % 24 by omega]
        refine RLn_of (c3 q h2) ?_
        funext i
        simp (disch := omega) only [upd_at, row_at, n_eq_f, n_eq_t, and_true, true_and, and_false, false_and, and_self, if_true, if_false,  ]
      · have h2 : q < 23 := by omega
        rw [if_neg h1, if_pos h2, show ((nx + 1) % 24 + 24 - min 24 (n + 1) + q) % 24 = (nx + 24 - n + (q + 1)) % 24 by omega]
        refine RLn_of (c3 (q + 1) (by omega)) ?_
        funext i
        simp (disch := omega) only [upd_at, row_at, n_eq_f, n_eq_t, and_true, true_and, and_false, false_and, and_self, if_true, if_false,  ]
  · funext i
    simp (disch := omega) only [upd_at, row_at, n_eq_f, n_eq_t, and_true, true_and, and_false, false_and, and_self, if_true, if_false,  ]
end
