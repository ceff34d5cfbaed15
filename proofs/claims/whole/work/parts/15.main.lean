set_option maxHeartbeats 8000000 in
set_option maxRecDepth 100000 in
theorem jm_heap_kp {j pc pc' : Nat} {i : Instr} {stk stk' : List Value} {M M1 : jm_M} (hMl : M.1.length ≤ jx_S) (h : jm_heap j pc i stk M = some (pc', stk', M1)) : jm_kp M M1 := by
  cases i
  all_goals (first | (simp only [jm_heap] at h; cases h; done) | skip)
  case getfield x =>
    simp only [jm_heap] at h
    split at h
    · split at h
      · obtain ⟨v, hv, hq⟩ := Option.map_eq_some_iff.mp h
        cases hq
        exact jm_kp.rf hMl
      · cases h
    · cases h
  case putfield x =>
    simp only [jm_heap] at h
    split at h
    · split at h
      · split at h
        · rename_i hq
          cases h
          obtain ⟨rs, hrs⟩ := Option.isSome_iff_exists.mp hq.1
          obtain ⟨-, n, ho⟩ := jm_ob_inv hrs
          exact jm_kp_row hMl ho
        · cases h
      · split at h
        · rename_i ho
          split at h
          · rename_i hq
            cases h
            refine ⟨rfl, rfl, rfl, by rw [List.length_set]; exact Nat.le_refl _, by rw [List.length_set]; exact hMl, ?_⟩
            exact Nat.le_of_eq (jm_tot_set (S := M.2.1) (L' := M.2.2) ho).symm
          · cases h
        · cases h
      · cases h
    · cases h
  case getstatic x =>
    simp only [jm_heap] at h
    split at h
    · cases h; exact jm_kp.rf hMl
    · cases h
  case iaload =>
    simp only [jm_heap] at h
    split at h
    · split at h
      · split at h
        · cases h; exact jm_kp.rf hMl
        · cases h
      · cases h
    · cases h
  case iastore =>
    simp only [jm_heap] at h
    split at h
    · split at h
      · rename_i hl
        split at h
        · cases h
          obtain ⟨rs, hq⟩ := jm_wl_inv hl
          exact jm_kp_row hMl hq
        · cases h
      · cases h
    · cases h
  case baload =>
    simp only [jm_heap] at h
    split at h
    · split at h
      · split at h
        · cases h; exact jm_kp.rf hMl
        · cases h
      · cases h
    · cases h
  case bastore =>
    simp only [jm_heap] at h
    split at h
    · split at h
      · rename_i hl
        split at h
        · cases h
          obtain ⟨rs, hq⟩ := jm_wl_inv hl
          exact jm_kp_row hMl hq
        · cases h
      · cases h
    · cases h
  case aaload =>
    simp only [jm_heap] at h
    split at h
    · split at h
      · split at h
        · split at h
          · cases h; exact jm_kp.rf hMl
          · cases h
        · cases h
      · cases h
    · cases h
  case aastore =>
    simp only [jm_heap] at h
    split at h
    · split at h
      · rename_i ho
        split at h
        · cases h
          refine ⟨rfl, rfl, rfl, by rw [List.length_set]; exact Nat.le_refl _, by rw [List.length_set]; exact hMl, ?_⟩
          exact Nat.le_of_eq (jm_tot_set (S := M.2.1) (L' := M.2.2) ho).symm
        · cases h
      · cases h
    · cases h
  case arraylength =>
    simp only [jm_heap] at h
    split at h
    · obtain ⟨n', hl, hq⟩ := Option.map_eq_some_iff.mp h
      cases hq
      exact jm_kp.rf hMl
    · cases h
  case new x =>
    simp only [jm_heap] at h
    split at h
    · split at h
      · rename_i hq
        cases h
        exact jm_kp_app [_] (by show M.1.length + 1 ≤ jx_S; omega)
      · cases h
    · cases h
  case newarray t =>
    simp only [jm_heap] at h
    split at h
    · split at h
      · rename_i hq
        cases h
        exact jm_kp_app [_] (by show M.1.length + 1 ≤ jx_S; omega)
      · cases h
    · cases h
  case anewarray x =>
    simp only [jm_heap] at h
    split at h
    · split at h
      · rename_i hq
        cases h
        exact jm_kp_app [_] (by show M.1.length + 1 ≤ jx_S; omega)
      · cases h
    · cases h
  case multianewarray x dm =>
    simp only [jm_heap] at h
    split at h
    · split at h
      · rename_i hq
        cases h
        exact jm_kp_app _ (by rw [List.length_cons, List.length_replicate]; omega)
      · cases h
    · cases h
  case invokestatic x =>
    simp only [jm_heap] at h
    split at h
    · split at h
      · split at h
        · rename_i hnb hna
          split at h
          · cases h
            obtain ⟨rs, hqa⟩ := jm_wl_inv hna
            exact jm_kp_row hMl hqa
          · cases h
        · cases h
      · cases h
    · split at h
      · split at h
        · split at h
          · cases h; exact jm_kp.rf hMl
          · cases h
        · cases h
      · split at h
        · split at h
          · split at h
            · cases h; exact jm_kp.rf hMl
            · cases h
          · cases h
        · cases h
  case invokespecial x =>
    simp only [jm_heap] at h
    split at h
    · split at h
      · split at h
        · cases h; exact jm_kp.rf hMl
        · cases h
      · cases h
    · cases h
/-- the run, seen step by step -/
theorem jm_run_inv {f d j pc : Nat} {loc stk : List Value} {M M' : jm_M} {r : Option Value} (h : jm_run (f + 1) d j pc loc stk M = some (r, M')) : ∃ i n, jm_fetch j pc = some (i, n) ∧
    ((∃ q, jm_pure j pc i loc stk = some q ∧ jm_run f d j q.1 q.2.1 q.2.2 M = some (r, M')) ∨
     (∃ q, jm_heap j pc i stk M = some q ∧ jm_run f d j q.1 loc q.2.1 q.2.2 = some (r, M')) ∨
     (jm_ret j i stk = some r ∧ M = M') ∨
     (∃ t as rest d' l0 r1 M1, jm_call j i stk M = some (t, as, rest) ∧ d = d' + 1 ∧ jm_ent t as = some l0 ∧ jm_run f d' t 0 l0 [] M = some (r1, M1) ∧ jm_run f d j (pc + 3) loc (r1.toList ++ rest) M1 = some (r, M'))) := by
  rw [jm_run] at h
  split at h
  · cases h
  · rename_i i n hf
    refine ⟨i, n, hf, ?_⟩
    split at h
    · rename_i pc' loc' stk' hp
      exact Or.inl ⟨_, hp, h⟩
    · split at h
      · rename_i pc' stk' M1 hh
        exact Or.inr (Or.inl ⟨_, hh, h⟩)
      · split at h
        · rename_i r' hr
          cases h
          exact Or.inr (Or.inr (Or.inl ⟨hr, rfl⟩))
        · split at h
          · cases h
          · rename_i t as rest hc
            split at h
            · cases h
            · rename_i d'
              split at h
              · cases h
              · rename_i l0 he
                split at h
                · cases h
                · rename_i r1 M1 h1
                  exact Or.inr (Or.inr (Or.inr ⟨t, as, rest, _, l0, r1, M1, hc, rfl, he, h1, h⟩))
theorem jm_run_kp : ∀ (f : Nat) {d j pc : Nat} {loc stk : List Value} {M M' : jm_M} {r : Option Value}, M.1.length ≤ jx_S → jm_run f d j pc loc stk M = some (r, M') → jm_kp M M'
  | 0, _, _, _, _, _, _, _, _, _, h => by simp [jm_run] at h
  | f + 1, d, j, pc, loc, stk, M, M', r, hM, h => by
    obtain ⟨i, n, -, h1 | h1 | h1 | h1⟩ := jm_run_inv h
    · obtain ⟨q, -, h2⟩ := h1
      exact jm_run_kp f hM h2
    · obtain ⟨⟨pc', stk', M1⟩, hq, h2⟩ := h1
      have k1 := jm_heap_kp hM hq
      exact k1.tr (jm_run_kp f k1.2.2.2.2.1 h2)
    · rw [← h1.2]; exact jm_kp.rf hM
    · obtain ⟨t, as, rest, d', l0, r1, M1, -, -, -, h2, h3⟩ := h1
      have k1 := jm_run_kp f hM h2
      exact k1.tr (jm_run_kp f k1.2.2.2.2.1 h3)
