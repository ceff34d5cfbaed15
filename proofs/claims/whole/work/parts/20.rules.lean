def jm_sh_0 : List jm_C := [(7, 10, [some 1, some 13, some 25, some 35, some 56, some 82, some 104, some 126, none, none]), (6, 3, [some 2, some 11, some 12]), (12, 8, [some 3, some 4, some 5, some 6, some 7, some 8, some 9, some 10]), (9, 40, []), (9, 40, []), (9, 40, []), (9, 40, []), (9, 40, []), (9, 40, []), (9, 40, []), (9, 40, []), (9, 8, []), (9, 8, []), (4, 5, [some 14, none, some 15, none, none]), (9, 120, []), (2, 13, [none, none, none, none, some 16, some 17, some 18, some 19, some 20, some 21, some 22, some 23, some 24]), (9, 5, []), (9, 5, []), (9, 5, []), (9, 5, []), (9, 5, []), (9, 5, []), (9, 5, []), (9, 5, []), (9, 5, []), (2, 13, [none, none, none, none, some 26, some 27, some 28, some 29, some 30, some 31, some 32, some 33, some 34]), (9, 5, []), (9, 5, []), (9, 5, []), (9, 5, []), (9, 5, []), (9, 5, []), (9, 5, []), (9, 5, []), (9, 5, []), (11, 2, [some 36, some 46])]
def jm_sh_1 : List jm_C := [(2, 13, [none, none, none, none, some 37, some 38, some 39, some 40, some 41, some 42, some 43, some 44, some 45]), (9, 5, []), (9, 5, []), (9, 5, []), (9, 5, []), (9, 5, []), (9, 5, []), (9, 5, []), (9, 5, []), (9, 5, []), (2, 13, [none, none, none, none, some 47, some 48, some 49, some 50, some 51, some 52, some 53, some 54, some 55]), (9, 5, []), (9, 5, []), (9, 5, []), (9, 5, []), (9, 5, []), (9, 5, []), (9, 5, []), (9, 5, []), (9, 5, []), (0, 3, [some 57, none, none]), (12, 24, [some 58, some 59, some 60, some 61, some 62, some 63, some 64, some 65, some 66, some 67, some 68, some 69, some 70, some 71, some 72, some 73, some 74, some 75, some 76, some 77, some 78, some 79, some 80, some 81]), (9, 21, []), (9, 21, []), (9, 21, []), (9, 21, []), (9, 21, []), (9, 21, []), (9, 21, []), (9, 21, []), (9, 21, []), (9, 21, []), (9, 21, []), (9, 21, []), (9, 21, []), (9, 21, [])]
def jm_sh_2 : List jm_C := [(9, 21, []), (9, 21, []), (9, 21, []), (9, 21, []), (9, 21, []), (9, 21, []), (9, 21, []), (9, 21, []), (9, 21, []), (9, 21, []), (3, 4, [some 83, some 93, some 103, none]), (2, 13, [none, none, none, none, some 84, some 85, some 86, some 87, some 88, some 89, some 90, some 91, some 92]), (9, 5, []), (9, 5, []), (9, 5, []), (9, 5, []), (9, 5, []), (9, 5, []), (9, 5, []), (9, 5, []), (9, 5, []), (2, 13, [none, none, none, none, some 94, some 95, some 96, some 97, some 98, some 99, some 100, some 101, some 102]), (9, 5, []), (9, 5, []), (9, 5, []), (9, 5, []), (9, 5, []), (9, 5, []), (9, 5, []), (9, 5, []), (9, 5, []), (9, 12, []), (5, 9, [some 105, some 115, none, some 116, some 122, some 123, some 124, none, some 125]), (2, 13, [none, none, none, none, some 106, some 107, some 108, some 109, some 110, some 111, some 112, some 113, some 114]), (9, 5, []), (9, 5, [])]
def jm_sh_3 : List jm_C := [(9, 5, []), (9, 5, []), (9, 5, []), (9, 5, []), (9, 5, []), (9, 5, []), (9, 5, []), (9, 5, []), (12, 5, [some 117, some 118, some 119, some 120, some 121]), (9, 32, []), (9, 32, []), (9, 32, []), (9, 32, []), (9, 32, []), (9, 32, []), (9, 5, []), (9, 5, []), (9, 5, []), (1, 2, [some 127, none]), (9, 16, []), (8, 27, [none, none, some 129, some 130, some 131, some 132, some 133, some 134, some 135, none, some 136, none, none, none, none, none, none, none, none, some 137, some 138, some 139, some 140, some 141, some 142, some 143, none]), (9, 8, []), (9, 8, []), (9, 320, []), (9, 34, []), (9, 34, []), (9, 34, []), (9, 816, []), (9, 120, []), (9, 5, []), (9, 5, []), (9, 5, []), (9, 4, []), (10, 2, []), (9, 68, []), (9, 16, [])]
def jm_sh : List jm_C := jm_sh_0 ++ (jm_sh_1 ++ (jm_sh_2 ++ (jm_sh_3)))
/-! ===== the second phase: all cells are made ===== -/
abbrev jm_I2 : Type := Nat → Nat → Int32
/-- the kind of a cell -/
def jm_kd (o : Nat) : Nat := match jm_sh[o]? with
  | some q => q.1
  | none => 99
/-- a reference of a cell -/
def jm_rf (o k : Nat) : Nat := match jm_sh[o]? with
  | some q => (q.2.2.getD k none).getD 0
  | none => 0
/-- the length of an int array, 0 where it is none -/
def jm_ll (L a : Nat) : Nat := (jm_al (jm_sh, fun _ _ => 0, L) a).getD 0
/-- the length of an array of kind k, 0 where it is none -/
def jm_lw (k a : Nat) : Nat := (jm_wl (jm_sh, fun _ _ => 0, 0) a k).getD 0
/-- the length of an array of references, 0 where it is none -/
def jm_lq (a : Nat) : Nat := match jm_sh[a]? with
  | some (c, n, _) => if c = 11 ∨ c = 12 then n else 0
  | none => 0
def jm_la (L a : Nat) : Nat := (jm_ln (jm_sh, fun _ _ => 0, L) a).getD 0
def jm_ha (L a : Nat) : Bool := (jm_ln (jm_sh, fun _ _ => 0, L) a).isSome
theorem jm_shck : jm_sh.all (fun q => (decide (9 ≤ q.1) || (List.range (jm_N q.1)).all (fun k => jm_isI q.1 k || (match q.2.2[k]? with | some (some _) => true | _ => false))) && (!(q.1 == 11 || q.1 == 12) || (q.2.2.length == q.2.1 && q.2.2.all (fun r => r.isSome)))) = true := by decide +kernel
theorem jm_shck2 : jm_sh.all (fun q => decide (q.1 ≤ 12)) = true := by decide +kernel
theorem jm_rf_ok {o c n k : Nat} {rs : List (Option Nat)} (h : jm_sh[o]? = some (c, n, rs)) (hc : c < 9) (hk : k < jm_N c) (hi : jm_isI c k = false) : rs[k]? = some (some (jm_rf o k)) := by
  have h1 := List.all_eq_true.mp jm_shck _ (List.mem_of_getElem? h)
  simp only [Bool.and_eq_true, Bool.or_eq_true, decide_eq_true_eq] at h1
  have h2 := List.all_eq_true.mp (h1.1.resolve_left (by omega)) k (List.mem_range.mpr hk)
  rw [Bool.or_eq_true, hi] at h2
  have h2 := h2.resolve_left (by decide)
  unfold jm_rf
  rw [h]
  dsimp only
  rw [List.getD_eq_getElem?_getD]
  cases hr : rs[k]? with
  | none => rw [hr] at h2; cases h2
  | some z =>
    cases z with
    | none => rw [hr] at h2; cases h2
    | some r => rfl
theorem jm_rr_ok {a c n : Nat} {rs : List (Option Nat)} {k : Nat} (h : jm_sh[a]? = some (c, n, rs)) (hc : c = 11 ∨ c = 12) (hk : k < n) : rs[k]? = some (some (jm_rf a k)) := by
  have h1 := List.all_eq_true.mp jm_shck _ (List.mem_of_getElem? h)
  simp only [Bool.and_eq_true, Bool.or_eq_true, decide_eq_true_eq, Bool.not_eq_true', Bool.or_eq_false_iff, beq_eq_false_iff_ne, ne_eq, beq_iff_eq] at h1
  have h2 := h1.2.resolve_left (fun z => by rcases hc with hc | hc; exact z.1 hc; exact z.2 hc)
  have hl : k < rs.length := by rw [h2.1]; exact hk
  have h3 := List.all_eq_true.mp h2.2 (rs[k]'hl) (List.getElem_mem hl)
  obtain ⟨r, hr⟩ := Option.isSome_iff_exists.mp h3
  have hk2 : rs[k]? = some (some r) := by rw [List.getElem?_eq_getElem hl, hr]
  unfold jm_rf
  rw [h]
  dsimp only
  rw [List.getD_eq_getElem?_getD, hk2]
  rfl
/-- from here on: it ends, with Z -/
def WQ (L d j pc : Nat) (loc stk : List Value) (S : jm_I2) (Z : Option Value → jm_I2 → Prop) : Prop := ∃ f r S', jm_run f d j pc loc stk (jm_sh, S, L) = some (r, (jm_sh, S', L)) ∧ Z r S'
theorem WQ.mono {L d j pc : Nat} {loc stk : List Value} {S : jm_I2} {Z Z' : Option Value → jm_I2 → Prop} (h : WQ L d j pc loc stk S Z) (hz : ∀ r S', Z r S' → Z' r S') : WQ L d j pc loc stk S Z' := by
  obtain ⟨f, r, S', h1, h2⟩ := h
  exact ⟨f, r, S', h1, hz r S' h2⟩
theorem jm_run_mono : ∀ (f : Nat) {d j pc : Nat} {loc stk : List Value} {M : jm_M} {x : Option Value × jm_M}, jm_run f d j pc loc stk M = some x → jm_run (f + 1) d j pc loc stk M = some x
  | 0, d, j, pc, loc, stk, M, x, h => by simp [jm_run] at h
  | f + 1, d, j, pc, loc, stk, M, x, h => by
    have ih := @jm_run_mono f
    rw [jm_run] at h ⊢
    split
    · rename_i hf; rw [hf] at h; exact h
    · rename_i i n hf
      rw [hf] at h
      dsimp only at h
      split
      · rename_i hp; rw [hp] at h; exact ih h
      · rename_i hp
        rw [hp] at h
        dsimp only at h
        split
        · rename_i hh; rw [hh] at h; exact ih h
        · rename_i hh
          rw [hh] at h
          dsimp only at h
          split
          · rename_i hr; rw [hr] at h; exact h
          · rename_i hr
            rw [hr] at h
            dsimp only at h
            split
            · rename_i hc; rw [hc] at h; exact h
            · rename_i t as rest hc
              rw [hc] at h
              dsimp only at h
              cases d with
              | zero => exact h
              | succ d' =>
                dsimp only at h ⊢
                split
                · rename_i he; rw [he] at h; exact h
                · rename_i l0 he
                  rw [he] at h
                  dsimp only at h
                  cases hq : jm_run f d' t 0 l0 [] M with
                  | none => rw [hq] at h; cases h
                  | some y =>
                    rw [ih hq]
                    rw [hq] at h
                    exact ih h
theorem jm_run_le {f g : Nat} {d j pc : Nat} {loc stk : List Value} {M : jm_M} {x : Option Value × jm_M} (hfg : f ≤ g) (h : jm_run f d j pc loc stk M = some x) : jm_run g d j pc loc stk M = some x := by
  obtain ⟨k, rfl⟩ := Nat.exists_eq_add_of_le hfg
  clear hfg
  induction k with
  | zero => exact h
  | succ k ih => exact jm_run_mono _ ih
/-! ===== what makes no cell ===== -/
def jm_gd (t : Nat) : Bool := decide (t < 223) && decide ((jm_y t).name ≠ "<init>")
def jm_gi (j : Nat) (i : Instr) : Bool := match i with
  | .new _ | .newarray _ | .anewarray _ | .multianewarray _ _ | .aastore => false
  | .putfield x => match jm_fT.lookup (jm_own j, x) with
    | some (c, k, _) => jm_isI c k
    | none => false
  | .invokestatic x | .invokevirtual x | .invokespecial x => match jm_mT.lookup (jm_own j, x) with
    | some (t, _, _) => jm_gd t
    | none => true
  | _ => true
def jm_gall (t : Nat) : Bool := !(jm_gd t) || (jm_ins.getD t []).all (fun q => jm_gi t q.2.1)
theorem jm_g_0 : (List.range 25).all (fun k => jm_gall (0 + k)) = true := by decide +kernel
theorem jm_g_1 : (List.range 25).all (fun k => jm_gall (25 + k)) = true := by decide +kernel
theorem jm_g_2 : (List.range 25).all (fun k => jm_gall (50 + k)) = true := by decide +kernel
theorem jm_g_3 : (List.range 25).all (fun k => jm_gall (75 + k)) = true := by decide +kernel
theorem jm_g_4 : (List.range 25).all (fun k => jm_gall (100 + k)) = true := by decide +kernel
theorem jm_g_5 : (List.range 25).all (fun k => jm_gall (125 + k)) = true := by decide +kernel
theorem jm_g_6 : (List.range 25).all (fun k => jm_gall (150 + k)) = true := by decide +kernel
theorem jm_g_7 : (List.range 25).all (fun k => jm_gall (175 + k)) = true := by decide +kernel
theorem jm_g_8 : (List.range 23).all (fun k => jm_gall (200 + k)) = true := by decide +kernel
theorem jm_gall_ok {t : Nat} (h : t < 223) : jm_gall t = true := by
  have key : ∀ (q r : Nat), r < 25 → 25 * q + r < 223 → jm_gall (25 * q + r) = true := by
    intro q r hr hq
    match q, hq with
    | 0, hq => exact List.all_eq_true.mp jm_g_0 r (List.mem_range.mpr (by omega))
    | 1, hq => exact List.all_eq_true.mp jm_g_1 r (List.mem_range.mpr (by omega))
    | 2, hq => exact List.all_eq_true.mp jm_g_2 r (List.mem_range.mpr (by omega))
    | 3, hq => exact List.all_eq_true.mp jm_g_3 r (List.mem_range.mpr (by omega))
    | 4, hq => exact List.all_eq_true.mp jm_g_4 r (List.mem_range.mpr (by omega))
    | 5, hq => exact List.all_eq_true.mp jm_g_5 r (List.mem_range.mpr (by omega))
    | 6, hq => exact List.all_eq_true.mp jm_g_6 r (List.mem_range.mpr (by omega))
    | 7, hq => exact List.all_eq_true.mp jm_g_7 r (List.mem_range.mpr (by omega))
    | 8, hq => exact List.all_eq_true.mp jm_g_8 r (List.mem_range.mpr (by omega))
    | n + 9, h => omega
  have := key (t / 25) (t % 25) (by omega) (by omega)
  rw [show 25 * (t / 25) + t % 25 = t by omega] at this
  exact this
theorem jm_gi_of {j pc n : Nat} {i : Instr} (hj : jm_gd j = true) (h : jm_fetch j pc = some (i, n)) : jm_gi j i = true := by
  have hlt : j < 223 := by
    unfold jm_gd at hj
    rw [Bool.and_eq_true, decide_eq_true_eq] at hj
    exact hj.1
  have h1 := jm_gall_ok hlt
  unfold jm_gall at h1
  rw [hj] at h1
  have h1 : (jm_ins.getD j []).all (fun q => jm_gi j q.2.1) = true := by simpa using h1
  exact List.all_eq_true.mp h1 _ (jm_lk h)
set_option maxHeartbeats 4000000 in
set_option maxRecDepth 100000 in
theorem jm_heap_sh {j pc pc' : Nat} {i : Instr} {stk stk' : List Value} {M M1 : jm_M} (hi : jm_gi j i = true) (h : jm_heap j pc i stk M = some (pc', stk', M1)) : M1.1 = M.1 ∧ M1.2.2 = M.2.2 := by
  cases i
  all_goals (first | (simp only [jm_heap] at h; cases h; done) | skip)
  case getfield x =>
    simp only [jm_heap] at h
    split at h
    · split at h
      · obtain ⟨v, hv, hq⟩ := Option.map_eq_some_iff.mp h
        cases hq
        exact ⟨rfl, rfl⟩
      · cases h
    · cases h
  case putfield x =>
    simp only [jm_heap] at h
    split at h
    · rename_i cc k pp hf
      split at h
      · split at h
        · cases h
          exact ⟨rfl, rfl⟩
        · cases h
      · split at h
        · split at h
          · rename_i hq
            exfalso
            simp only [jm_gi, hf] at hi
            rw [hq.2.2.1] at hi
            cases hi
          · cases h
        · cases h
      · cases h
    · cases h
  case getstatic x =>
    simp only [jm_heap] at h
    split at h
    · cases h; exact ⟨rfl, rfl⟩
    · cases h
  case iaload =>
    simp only [jm_heap] at h
    split at h
    · split at h
      · split at h
        · cases h; exact ⟨rfl, rfl⟩
        · cases h
      · cases h
    · cases h
  case iastore =>
    simp only [jm_heap] at h
    split at h
    · split at h
      · split at h
        · cases h; exact ⟨rfl, rfl⟩
        · cases h
      · cases h
    · cases h
  case baload =>
    simp only [jm_heap] at h
    split at h
    · split at h
      · split at h
        · cases h; exact ⟨rfl, rfl⟩
        · cases h
      · cases h
    · cases h
  case bastore =>
    simp only [jm_heap] at h
    split at h
    · split at h
      · split at h
        · cases h; exact ⟨rfl, rfl⟩
        · cases h
      · cases h
    · cases h
  case aaload =>
    simp only [jm_heap] at h
    split at h
    · split at h
      · split at h
        · split at h
          · cases h; exact ⟨rfl, rfl⟩
          · cases h
        · cases h
      · cases h
    · cases h
  case arraylength =>
    simp only [jm_heap] at h
    split at h
    · obtain ⟨n', hl, hq⟩ := Option.map_eq_some_iff.mp h
      cases hq
      exact ⟨rfl, rfl⟩
    · cases h
  case invokestatic x =>
    simp only [jm_heap] at h
    split at h
    · split at h
      · split at h
        · split at h
          · cases h; exact ⟨rfl, rfl⟩
          · cases h
        · cases h
      · cases h
    · split at h
      · split at h
        · split at h
          · cases h; exact ⟨rfl, rfl⟩
          · cases h
        · cases h
      · split at h
        · split at h
          · split at h
            · cases h; exact ⟨rfl, rfl⟩
            · cases h
          · cases h
        · cases h
  case invokespecial x =>
    simp only [jm_heap] at h
    split at h
    · split at h
      · split at h
        · cases h; exact ⟨rfl, rfl⟩
        · cases h
      · cases h
    · cases h
  all_goals (simp [jm_gi] at hi)
theorem jm_call_gd {j t : Nat} {i : Instr} {stk as rest : List Value} {M : jm_M} (hi : jm_gi j i = true) (h : jm_call j i stk M = some (t, as, rest)) : jm_gd t = true := by
  cases i
  all_goals (first | (simp only [jm_call] at h; cases h; done) | skip)
  case invokestatic x =>
    simp only [jm_call] at h
    split at h
    · rename_i hl
      split at h
      · cases h
        simpa [jm_gi, hl] using hi
      · cases h
    · cases h
  case invokevirtual x =>
    simp only [jm_call] at h
    split at h
    · rename_i hl
      split at h
      · split at h
        · split at h
          · cases h
            simpa [jm_gi, hl] using hi
          · cases h
        · cases h
      · cases h
    · cases h
  case invokespecial x =>
    simp only [jm_call] at h
    split at h
    · rename_i hl
      split at h
      · split at h
        · split at h
          · cases h
            simpa [jm_gi, hl] using hi
          · cases h
        · cases h
      · cases h
    · cases h
theorem jm_run_sh : ∀ (f : Nat) {d j pc : Nat} {loc stk : List Value} {M M' : jm_M} {r : Option Value}, jm_gd j = true → jm_run f d j pc loc stk M = some (r, M') → M'.1 = M.1 ∧ M'.2.2 = M.2.2
  | 0, _, _, _, _, _, _, _, _, _, h => by simp [jm_run] at h
  | f + 1, d, j, pc, loc, stk, M, M', r, hj, h => by
    obtain ⟨i, n, hf, h1 | h1 | h1 | h1⟩ := jm_run_inv h
    · obtain ⟨q, -, h2⟩ := h1
      exact jm_run_sh f hj h2
    · obtain ⟨⟨pc', stk', M1⟩, hq, h2⟩ := h1
      have k1 := jm_heap_sh (jm_gi_of hj hf) hq
      have k2 := jm_run_sh f hj h2
      exact ⟨k2.1.trans k1.1, k2.2.trans k1.2⟩
    · rw [← h1.2]; exact ⟨rfl, rfl⟩
    · obtain ⟨t, as, rest, d', l0, r1, M1, hc, -, -, h2, h3⟩ := h1
      have k1 := jm_run_sh f (jm_call_gd (jm_gi_of hj hf) hc) h2
      have k2 := jm_run_sh f hj h3
      exact ⟨k2.1.trans k1.1, k2.2.trans k1.2⟩
section JMQ
variable {L d j pc n : Nat} {i : Instr} {loc stk loc' stk' st : List Value} {S S' : jm_I2} {Z : Option Value → jm_I2 → Prop} {pc' : Nat}
theorem q_step (h : ∀ f, jm_run (f + 1) d j pc loc stk (jm_sh, S, L) = jm_run f d j pc' loc' stk' (jm_sh, S', L)) : WQ L d j pc loc stk S Z ↔ WQ L d j pc' loc' stk' S' Z := by
  constructor
  · rintro ⟨f, r, S1, h1, h2⟩
    cases f with
    | zero => simp [jm_run] at h1
    | succ f => exact ⟨f, r, S1, by rw [← h]; exact h1, h2⟩
  · rintro ⟨f, r, S1, h1, h2⟩
    exact ⟨f + 1, r, S1, by rw [h]; exact h1, h2⟩
theorem q_none (h : ∀ f, jm_run (f + 1) d j pc loc stk (jm_sh, S, L) = none) : WQ L d j pc loc stk S Z ↔ False := by
  constructor
  · rintro ⟨f, r, S1, h1, h2⟩
    cases f with
    | zero => simp [jm_run] at h1
    | succ f => rw [h] at h1; cases h1
  · exact False.elim
theorem q_p (hf : jm_fetch j pc = some (i, n)) (hp : jm_pure j pc i loc stk = some (pc', loc', stk')) : WQ L d j pc loc stk S Z ↔ WQ L d j pc' loc' stk' S Z := q_step (fun f => by rw [jm_run, hf]; dsimp only; rw [hp])
theorem q_h (hf : jm_fetch j pc = some (i, n)) (hp : jm_pure j pc i loc stk = none) (hh : jm_heap j pc i stk (jm_sh, S, L) = some (pc', stk', (jm_sh, S', L))) : WQ L d j pc loc stk S Z ↔ WQ L d j pc' loc stk' S' Z := q_step (fun f => by rw [jm_run, hf]; dsimp only; rw [hp]; dsimp only; rw [hh])
theorem q_x (hf : jm_fetch j pc = some (i, n)) (hp : jm_pure j pc i loc stk = none) (hh : jm_heap j pc i stk (jm_sh, S, L) = none) (hr : jm_ret j i stk = none) (hc : jm_call j i stk (jm_sh, S, L) = none) : WQ L d j pc loc stk S Z ↔ False := q_none (fun f => by rw [jm_run, hf]; dsimp only; rw [hp]; dsimp only; rw [hh]; dsimp only; rw [hr]; dsimp only; rw [hc])
theorem q_ret {r : Option Value} (hf : jm_fetch j pc = some (i, n)) (hp : jm_pure j pc i loc stk = none) (hh : jm_heap j pc i stk (jm_sh, S, L) = none) (hr : jm_ret j i stk = some r) : WQ L d j pc loc stk S Z ↔ Z r S := by
  have h : ∀ f, jm_run (f + 1) d j pc loc stk (jm_sh, S, L) = some (r, (jm_sh, S, L)) := fun f => by rw [jm_run, hf]; dsimp only; rw [hp]; dsimp only; rw [hh]; dsimp only; rw [hr]
  constructor
  · rintro ⟨f, r', S1, h1, h2⟩
    cases f with
    | zero => simp [jm_run] at h1
    | succ f =>
      rw [h] at h1
      cases h1
      exact h2
  · intro hz
    exact ⟨1, r, S, h 0, hz⟩
theorem q_call {t : Nat} {as rest l0 : List Value} (hf : jm_fetch j pc = some (i, n)) (hp : jm_pure j pc i loc stk = none) (hh : jm_heap j pc i stk (jm_sh, S, L) = none) (hr : jm_ret j i stk = none) (hc : jm_call j i stk (jm_sh, S, L) = some (t, as, rest)) (he : jm_ent t as = some l0) (hg : jm_gd t = true) : WQ L (d + 1) j pc loc stk S Z ↔ WQ L d t 0 l0 [] S (fun r S1 => WQ L (d + 1) j (pc + 3) loc (r.toList ++ rest) S1 Z) := by
  have h : ∀ f, jm_run (f + 1) (d + 1) j pc loc stk (jm_sh, S, L) = match jm_run f d t 0 l0 [] (jm_sh, S, L) with
      | none => none
      | some (r, M') => jm_run f (d + 1) j (pc + 3) loc (r.toList ++ rest) M' := fun f => by rw [jm_run, hf]; dsimp only; rw [hp]; dsimp only; rw [hh]; dsimp only; rw [hr]; dsimp only; rw [hc]; dsimp only; rw [he]; rfl
  constructor
  · rintro ⟨f, r, S1, h1, h2⟩
    cases f with
    | zero => simp [jm_run] at h1
    | succ f =>
      rw [h] at h1
      cases hq : jm_run f d t 0 l0 [] (jm_sh, S, L) with
      | none => rw [hq] at h1; cases h1
      | some y =>
        obtain ⟨r1, M1⟩ := y
        obtain ⟨C1, S2, L2⟩ := M1
        obtain ⟨e1, e2⟩ := jm_run_sh f hg hq
        have e1 : C1 = jm_sh := e1
        have e2 : L2 = L := e2
        subst e1
        subst e2
        rw [hq] at h1
        exact ⟨f, r1, S2, hq, f, r, S1, h1, h2⟩
  · rintro ⟨f, r1, S1, h1, g, r, S2, h2, h3⟩
    refine ⟨max f g + 1, r, S2, ?_, h3⟩
    rw [h, jm_run_le (Nat.le_max_left f g) h1]
    exact jm_run_le (Nat.le_max_right f g) h2
end JMQ
