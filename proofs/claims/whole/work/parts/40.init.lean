/-! ===== the first phase: the constructors, computed once without a script ===== -/
/-- two memories that differ in the script alone -/
def jm_pr (M2 M : jm_M) : Prop := M2.1 = M.1 ∧ M2.2.2 = 0 ∧ (∀ o, o ≠ jx_S → M.2.1 o = M2.2.1 o) ∧ M.1.length ≤ jx_S
theorem jm_pr_upd {S2 S : jm_I2} {a k : Nat} {x : Int32} (h : ∀ o, o ≠ jx_S → S o = S2 o) (ha : a ≠ jx_S) : ∀ o, o ≠ jx_S → jm_upd S a k x o = jm_upd S2 a k x o := by
  intro o ho
  unfold jm_upd
  by_cases e : o = a
  · rw [if_pos e, if_pos e, h a ha]
  · rw [if_neg e, if_neg e, h o ho]
theorem jm_pr_zero {S2 S : jm_I2} {n : Nat} (h : ∀ o, o ≠ jx_S → S o = S2 o) : ∀ o, o ≠ jx_S → jm_zero S n o = jm_zero S2 n o := by
  intro o ho
  unfold jm_zero
  by_cases e : n ≤ o ∧ o < jx_S
  · rw [if_pos e, if_pos e]
  · rw [if_neg e, if_neg e, h o ho]
theorem jm_ne_S {cs : List jm_C} {a : Nat} {q : jm_C} (hl : cs.length ≤ jx_S) (h : cs[a]? = some q) : a ≠ jx_S := by
  have := (List.getElem?_eq_some_iff.mp h).1
  omega
set_option maxHeartbeats 8000000 in
set_option maxRecDepth 100000 in
theorem jm_heap_par {j pc pc' : Nat} {i : Instr} {stk stk' : List Value} {cs : List jm_C} {S2 S : jm_I2} {L L2 : Nat} {M2' : jm_M} (hL : L2 = 0 ∨ (i ≠ .iaload ∧ i ≠ .arraylength)) (hS : ∀ o, o ≠ jx_S → S o = S2 o) (hl : cs.length ≤ jx_S) (h : jm_heap j pc i stk (cs, S2, L2) = some (pc', stk', M2')) :
    ∃ S', jm_heap j pc i stk (cs, S, L) = some (pc', stk', (M2'.1, S', L)) ∧ (∀ o, o ≠ jx_S → S' o = M2'.2.1 o) ∧ M2'.2.2 = L2 ∧ S' jx_S = S jx_S := by
  cases i
  all_goals (first | (simp only [jm_heap] at h; cases h; done) | skip)
  case getfield x =>
    simp only [jm_heap] at h ⊢
    split at h
    · rename_i cc k pp hf
      split at h
      · rename_i o st
        obtain ⟨v, hv, hq⟩ := Option.map_eq_some_iff.mp h
        cases hq
        have hv2 : jm_fld (cs, S, L) o cc k = some v := by
          unfold jm_fld at hv ⊢
          have e : jm_ob (cs, S2, L2) o cc = jm_ob (cs, S, L) o cc := rfl
          rw [e] at hv
          cases hob : jm_ob (cs, S, L) o cc with
          | none => rw [hob] at hv; cases hv
          | some rs =>
            rw [hob] at hv
            obtain ⟨-, n, ho⟩ := jm_ob_inv hob
            have hne : o ≠ jx_S := jm_ne_S hl ho
            dsimp only at hv ⊢
            rw [hS o hne]
            exact hv
        exact ⟨S, by (try rw [hf]); (try dsimp only); rw [hv2]; rfl, hS, rfl, rfl⟩
      · cases h
    · cases h
  case putfield x =>
    simp only [jm_heap] at h ⊢
    split at h
    · rename_i cc k pp hf
      split at h
      · rename_i v o st
        split at h
        · rename_i hq
          cases h
          obtain ⟨rs, hrs⟩ := Option.isSome_iff_exists.mp hq.1
          obtain ⟨-, n, ho⟩ := jm_ob_inv hrs
          have hne : o ≠ jx_S := jm_ne_S hl ho
          refine ⟨jm_upd S o k v, ?_, jm_pr_upd hS hne, rfl, ?_⟩
          · (try rw [hf]); (try dsimp only)
            rw [if_pos (show (jm_ob (cs, S, L) o cc).isSome = true ∧ jm_isI cc k = true from hq)]
          · unfold jm_upd; rw [if_neg (Ne.symm hne)]
        · cases h
      · rename_i r o st
        split at h
        · rename_i c' n rs ho
          split at h
          · rename_i hq
            cases h
            refine ⟨S, ?_, hS, rfl, rfl⟩
            (try rw [hf]); (try dsimp only)
            have ho : cs[o]? = some (c', n, rs) := ho
            (try rw [ho]); (try dsimp only)
            rw [if_pos hq]
          · cases h
        · cases h
      · cases h
    · cases h
  case getstatic x =>
    simp only [jm_heap] at h ⊢
    split at h
    · rename_i hq
      cases h
      exact ⟨S, by rw [if_pos hq], hS, rfl, rfl⟩
    · cases h
  case iaload =>
    have hL2 : L2 = 0 := hL.resolve_right (fun z => z.1 rfl)
    subst hL2
    simp only [jm_heap] at h ⊢
    split at h
    · rename_i ii a st
      split at h
      · rename_i n' hq
        split at h
        · rename_i hi
          cases h
          have hne : a ≠ jx_S := by
            rintro rfl
            simp [jm_al] at hq
          have e : jm_al (cs, S, L) a = jm_al (cs, S2, 0) a := by
            unfold jm_al
            rw [if_neg hne, if_neg hne]
          refine ⟨S, ?_, hS, rfl, rfl⟩
          rw [e, hq]
          dsimp only
          rw [if_pos hi, hS a hne]
        · cases h
      · cases h
    · cases h
  case iastore =>
    simp only [jm_heap] at h ⊢
    split at h
    · rename_i x ii a st
      split at h
      · rename_i n' hq
        split at h
        · rename_i hi
          cases h
          obtain ⟨rs, ho⟩ := jm_wl_inv hq
          have hne : a ≠ jx_S := jm_ne_S hl ho
          have e : jm_wl (cs, S, L) a 9 = jm_wl (cs, S2, L2) a 9 := rfl
          refine ⟨jm_upd S a ii.toNatClampNeg x, ?_, jm_pr_upd hS hne, rfl, ?_⟩
          · rw [e, hq]
            dsimp only
            rw [if_pos hi]
          · unfold jm_upd; rw [if_neg (Ne.symm hne)]
        · cases h
      · cases h
    · cases h
  case baload =>
    simp only [jm_heap] at h ⊢
    split at h
    · rename_i ii a st
      split at h
      · rename_i n' hq
        split at h
        · rename_i hi
          cases h
          obtain ⟨rs, ho⟩ := jm_wl_inv hq
          have hne : a ≠ jx_S := jm_ne_S hl ho
          have e : jm_wl (cs, S, L) a 10 = jm_wl (cs, S2, L2) a 10 := rfl
          refine ⟨S, ?_, hS, rfl, rfl⟩
          rw [e, hq]
          dsimp only
          rw [if_pos hi, hS a hne]
        · cases h
      · cases h
    · cases h
  case bastore =>
    simp only [jm_heap] at h ⊢
    split at h
    · rename_i x ii a st
      split at h
      · rename_i n' hq
        split at h
        · rename_i hi
          cases h
          obtain ⟨rs, ho⟩ := jm_wl_inv hq
          have hne : a ≠ jx_S := jm_ne_S hl ho
          have e : jm_wl (cs, S, L) a 10 = jm_wl (cs, S2, L2) a 10 := rfl
          refine ⟨jm_upd S a ii.toNatClampNeg (vp_nar .boolean x), ?_, jm_pr_upd hS hne, rfl, ?_⟩
          · rw [e, hq]
            dsimp only
            rw [if_pos hi]
          · unfold jm_upd; rw [if_neg (Ne.symm hne)]
        · cases h
      · cases h
    · cases h
  case aaload =>
    simp only [jm_heap] at h ⊢
    split at h
    · split at h
      · rename_i cc n' rs hq
        split at h
        · rename_i hc
          split at h
          · rename_i r hr
            cases h
            refine ⟨S, ?_, hS, rfl, rfl⟩
            have hq : cs[_]? = some (cc, n', rs) := hq
            (try rw [hq]); (try dsimp only)
            first | rw [if_pos hc, hr] | (rw [if_pos hc]) | rfl | simp [hr]
          · cases h
        · cases h
      · cases h
    · cases h
  case aastore =>
    simp only [jm_heap] at h ⊢
    split at h
    · split at h
      · rename_i cc n' rs hq
        split at h
        · rename_i hc
          cases h
          refine ⟨S, ?_, hS, rfl, rfl⟩
          have hq : cs[_]? = some (cc, n', rs) := hq
          (try rw [hq]); (try dsimp only)
          exact if_pos hc
        · cases h
      · cases h
    · cases h
  case arraylength =>
    have hL2 : L2 = 0 := hL.resolve_right (fun z => z.2 rfl)
    subst hL2
    simp only [jm_heap] at h ⊢
    split at h
    · rename_i a st
      obtain ⟨n', hq, he⟩ := Option.map_eq_some_iff.mp h
      cases he
      have hne : a ≠ jx_S := by
        rintro rfl
        simp [jm_ln] at hq
      have e : jm_ln (cs, S, L) a = jm_ln (cs, S2, 0) a := by
        unfold jm_ln
        rw [if_neg hne, if_neg hne]
      exact ⟨S, by rw [e, hq]; rfl, hS, rfl, rfl⟩
    · cases h
  case new x =>
    simp only [jm_heap] at h ⊢
    split at h
    · rename_i cc pp hcl
      split at h
      · rename_i hq
        cases h
        exact ⟨jm_zero S cs.length, by (try rw [hcl]); (try dsimp only); rw [if_pos hq], jm_pr_zero hS, rfl, (jm_zero_x S cs.length).1⟩
      · cases h
    · cases h
  case newarray t =>
    simp only [jm_heap] at h ⊢
    split at h
    · split at h
      · rename_i hq
        cases h
        exact ⟨jm_zero S cs.length, by rw [if_pos hq], jm_pr_zero hS, rfl, (jm_zero_x S cs.length).1⟩
      · cases h
    · cases h
  case anewarray x =>
    simp only [jm_heap] at h ⊢
    split at h
    · split at h
      · rename_i hq
        cases h
        exact ⟨jm_zero S cs.length, by rw [if_pos hq], jm_pr_zero hS, rfl, (jm_zero_x S cs.length).1⟩
      · cases h
    · cases h
  case multianewarray x dm =>
    simp only [jm_heap] at h ⊢
    split at h
    · split at h
      · rename_i hq
        cases h
        exact ⟨jm_zero S cs.length, by rw [if_pos hq], jm_pr_zero hS, rfl, (jm_zero_x S cs.length).1⟩
      · cases h
    · cases h
  case invokestatic x =>
    simp only [jm_heap] at h ⊢
    split at h
    · rename_i hq0
      try rw [if_pos hq0]
      split at h
      · rename_i n dp a sp b st
        split at h
        · rename_i nb na hnb hna
          split at h
          · rename_i h6
            cases h
            obtain ⟨rs, hqa⟩ := jm_wl_inv hna
            obtain ⟨rs2, hqb⟩ := jm_wl_inv hnb
            have hne : a ≠ jx_S := jm_ne_S hl hqa
            have hne2 : b ≠ jx_S := jm_ne_S hl hqb
            have e1 : jm_wl (cs, S, L) b 9 = jm_wl (cs, S2, L2) b 9 := rfl
            have e2 : jm_wl (cs, S, L) a 9 = jm_wl (cs, S2, L2) a 9 := rfl
            refine ⟨jm_row S a (va_cpy (S b) (S a) sp.toNatClampNeg dp.toNatClampNeg n.toNatClampNeg), ?_, ?_, rfl, ?_⟩
            · rw [e1, e2, hnb, hna]
              dsimp only
              rw [if_pos h6]
            · intro o ho
              show jm_row S a _ o = jm_row S2 a _ o
              unfold jm_row
              by_cases e : o = a
              · rw [if_pos e, if_pos e, hS a hne, hS b hne2]
              · rw [if_neg e, if_neg e, hS o ho]
            · unfold jm_row; rw [if_neg (Ne.symm hne)]
          · cases h
        · cases h
      · cases h
    · rename_i hq0
      try rw [if_neg hq0]
      split at h
      · rename_i hq1
        try rw [if_pos hq1]
        split at h
        · split at h
          · rename_i z
            cases h
            exact ⟨S, by rw [if_pos z], hS, rfl, rfl⟩
          · cases h
        · cases h
      · rename_i hq1
        try rw [if_neg hq1]
        split at h
        · rename_i hq2
          try rw [if_pos hq2]
          split at h
          · split at h
            · rename_i z
              cases h
              exact ⟨S, by rw [if_pos z], hS, rfl, rfl⟩
            · cases h
          · cases h
        · cases h
  case invokespecial x =>
    simp only [jm_heap] at h ⊢
    split at h
    · rename_i hq0
      try rw [if_pos hq0]
      split at h
      · split at h
        · rename_i z
          cases h
          exact ⟨S, by rw [if_pos z], hS, rfl, rfl⟩
        · cases h
      · cases h
    · cases h
theorem jm_call_is {j t : Nat} {i : Instr} {stk as rest : List Value} {M : jm_M} (h : jm_call j i stk M = some (t, as, rest)) : i ≠ .iaload ∧ i ≠ .arraylength := by
  cases i
  all_goals (first | (simp only [jm_call] at h; cases h; done) | exact ⟨by simp, by simp⟩)
theorem jm_ret_is {j : Nat} {i : Instr} {stk : List Value} {r : Option Value} (h : jm_ret j i stk = some r) : i ≠ .iaload ∧ i ≠ .arraylength := by
  cases i
  all_goals (first | (simp only [jm_ret] at h; cases h; done) | exact ⟨by simp, by simp⟩)
theorem jm_heap_non {j pc : Nat} {i : Instr} {stk : List Value} {cs : List jm_C} {S2 S : jm_I2} {L L2 : Nat} (hi : i ≠ .iaload ∧ i ≠ .arraylength) (hS : ∀ o, o ≠ jx_S → S o = S2 o) (hl : cs.length ≤ jx_S) (h : jm_heap j pc i stk (cs, S2, L2) = none) : jm_heap j pc i stk (cs, S, L) = none := by
  cases hq : jm_heap j pc i stk (cs, S, L) with
  | none => rfl
  | some y =>
    obtain ⟨pc', stk', M'⟩ := y
    obtain ⟨S', h1, -⟩ := jm_heap_par (S := S2) (L := L2) (Or.inr hi) (fun o ho => (hS o ho).symm) hl hq
    rw [h] at h1
    cases h1
theorem jm_run_par : ∀ (f : Nat) {d j pc : Nat} {loc stk : List Value} {cs : List jm_C} {S2 S : jm_I2} {L : Nat} {M2' : jm_M} {r : Option Value}, (∀ o, o ≠ jx_S → S o = S2 o) → cs.length ≤ jx_S → jm_run f d j pc loc stk (cs, S2, 0) = some (r, M2') → ∃ S', jm_run f d j pc loc stk (cs, S, L) = some (r, (M2'.1, S', L)) ∧ (∀ o, o ≠ jx_S → S' o = M2'.2.1 o) ∧ M2'.2.2 = 0 ∧ S' jx_S = S jx_S
  | 0, _, _, _, _, _, _, _, _, _, _, _, _, _, h => by simp [jm_run] at h
  | f + 1, d, j, pc, loc, stk, cs, S2, S, L, M2', r, hS, hl, h => by
    rw [jm_run] at h ⊢
    split at h
    · cases h
    · rename_i i n hf
      (try rw [hf]); (try dsimp only)
      split at h
      · rename_i pc' loc' stk' hp
        try rw [hp]
        exact jm_run_par f hS hl h
      · rename_i hp
        (try rw [hp]); (try dsimp only)
        split at h
        · rename_i pc' stk' M1 hh
          by_cases hi : i ≠ .iaload ∧ i ≠ .arraylength
          · obtain ⟨S1, g1, g2, g3, g4⟩ := jm_heap_par (S := S) (L := L) (Or.inl rfl) hS hl hh
            (try rw [g1]); (try dsimp only)
            obtain ⟨C1, T1, L1⟩ := M1
            have g3 : L1 = 0 := g3
            subst g3
            have hk := jm_heap_kp (M := (cs, S2, 0)) hl hh
            obtain ⟨S', k1, k2, k3, k4⟩ := jm_run_par f (S := S1) (L := L) g2 hk.2.2.2.2.1 h
            exact ⟨S', k1, k2, k3, k4.trans g4⟩
          · obtain ⟨S1, g1, g2, g3, g4⟩ := jm_heap_par (S := S) (L := L) (Or.inl rfl) hS hl hh
            (try rw [g1]); (try dsimp only)
            obtain ⟨C1, T1, L1⟩ := M1
            have g3 : L1 = 0 := g3
            subst g3
            have hk := jm_heap_kp (M := (cs, S2, 0)) hl hh
            obtain ⟨S', k1, k2, k3, k4⟩ := jm_run_par f (S := S1) (L := L) g2 hk.2.2.2.2.1 h
            exact ⟨S', k1, k2, k3, k4.trans g4⟩
        · rename_i hh
          split at h
          · rename_i r' hr
            cases h
            rw [jm_heap_non (S := S) (L := L) (jm_ret_is hr) hS hl hh]
            (try dsimp only); (try rw [hr])
            exact ⟨S, rfl, hS, rfl, rfl⟩
          · rename_i hr
            split at h
            · cases h
            · rename_i t as rest hc
              have hc2 : jm_call j i stk (cs, S, L) = some (t, as, rest) := hc
              rw [jm_heap_non (S := S) (L := L) (jm_call_is hc) hS hl hh]
              dsimp only
              (try rw [hr]); (try dsimp only)
              rw [hc2]
              dsimp only
              cases d with
              | zero => cases h
              | succ d' =>
                dsimp only at h ⊢
                split at h
                · cases h
                · rename_i l0 he
                  (try rw [he]); (try dsimp only)
                  split at h
                  · cases h
                  · rename_i r1 M1 h1
                    have hk := jm_run_kp f (M := (cs, S2, 0)) hl h1
                    obtain ⟨S1, g1, g2, g3, g4⟩ := jm_run_par f (S := S) (L := L) hS hl h1
                    (try rw [g1]); (try dsimp only)
                    obtain ⟨C1, T1, L1⟩ := M1
                    have g3 : L1 = 0 := g3
                    subst g3
                    obtain ⟨S', k1, k2, k3, k4⟩ := jm_run_par f (S := S1) (L := L) g2 hk.2.2.2.2.1 h
                    exact ⟨S', k1, k2, k3, k4.trans g4⟩
/-! ===== what the constructors make ===== -/
def jm_X0 : jm_M := ([(7, 10, List.replicate 10 none)], jm_zero (jm_S0 (fun _ => 0)) 0, 0)
def jm_X1 : Option (Option Value × jm_M) := jm_run 4000 99 77 0 [.ref 0] [] jm_X0
def jm_X2 : jm_M := match jm_X1 with
  | some (_, M) => (M.1 ++ [(8, 27, List.replicate 27 none)], jm_zero M.2.1 M.1.length, 0)
  | none => jm_X0
def jm_X3 : Option (Option Value × jm_M) := jm_run 4000 99 128 0 [.ref 128] [] jm_X2
def jm_S3 : jm_I2 := match jm_X3 with
  | some (_, M) => M.2.1
  | none => fun _ _ => 0
def jm_sz (o : Nat) : Nat := match jm_sh[o]? with
  | some q => q.2.1
  | none => 0
theorem jm_X1_ok : (match jm_X1 with | some (r, M) => decide (r = none) && decide (M.1 = jm_sh.take 128) | none => false) = true := by decide +kernel
theorem jm_X3_ok : (match jm_X3 with | some (r, M) => decide (r = none) && decide (M.1 = jm_sh) | none => false) = true := by decide +kernel
theorem jm_S3_ok : (List.range 144).all (fun o => (List.range (jm_sz o)).all (fun k => decide (jm_S3 o k = if o = 12 ∨ o = 129 then -1 else 0))) = true := by decide +kernel
theorem jm_S3_w : (List.range 6).all (fun k => decide (jm_S3 jx_W k = jm_wd k)) = true := by decide +kernel
/-- the memory behind both constructors -/
def jm_ini (xs : Nat → Int32) (S : jm_I2) : Prop := S jx_S = xs ∧ (∀ k, k < 6 → S jx_W k = jm_wd k) ∧ ∀ o, o < 144 → ∀ k, k < jm_sz o → S o k = if o = 12 ∨ o = 129 then -1 else 0
theorem jm_X1_get : ∃ S1, jm_X1 = some (none, (jm_sh.take 128, S1, 0)) := by
  have h := jm_X1_ok
  unfold jm_X1 at h ⊢
  rcases Option.eq_none_or_eq_some (jm_run 4000 99 77 0 [.ref 0] [] jm_X0) with hq | ⟨⟨r, C, S1, L1⟩, hq⟩
  · rw [hq] at h; cases h
  · rw [hq] at h
    simp only [Bool.and_eq_true, decide_eq_true_eq] at h
    obtain ⟨S', -, -, h3, -⟩ := jm_run_par 4000 (S := jm_X0.2.1) (L := 0) (fun _ _ => rfl) (by decide) (show jm_run 4000 99 77 0 [.ref 0] [] (jm_X0.1, jm_X0.2.1, 0) = some (r, (C, S1, L1)) from hq)
    have h3 : L1 = 0 := h3
    subst h3
    obtain ⟨rfl, h2⟩ := h
    have h2 : C = jm_sh.take 128 := h2
    subst h2
    exact ⟨S1, hq⟩
set_option maxRecDepth 100000 in
theorem jm_goal_of (hg : ∀ (L : Nat) (xs : Nat → Int32), L ≤ 384 → ∀ S, jm_ini xs S → WQ (L + 1) 100 223 18 [.ref jx_S, .ref 0, .ref 128, .int 0] [] S (fun r _ => r = some (.int 1))) : jm_goal := by
  intro L xs hL
  obtain ⟨S1, hX1⟩ := jm_X1_get
  have e2 : jm_X2 = (jm_sh.take 128 ++ [(8, 27, List.replicate 27 none)], jm_zero S1 128, 0) := by
    unfold jm_X2
    rw [hX1]
    rfl
  -- the first constructor
  have hS0 : ∀ o, o ≠ jx_S → jm_zero (jm_S0 xs) 0 o = jm_X0.2.1 o := by
    intro o ho
    refine jm_pr_zero (S2 := jm_S0 (fun _ => 0)) ?_ o ho
    intro o ho
    unfold jm_S0
    rw [if_neg ho, if_neg ho]
  obtain ⟨T1, r1, r2, -, r4⟩ := jm_run_par 4000 (S := jm_zero (jm_S0 xs) 0) (L := L + 1) hS0 (by decide) (show jm_run 4000 99 77 0 [.ref 0] [] (jm_X0.1, jm_X0.2.1, 0) = some (none, (jm_sh.take 128, S1, 0)) from hX1)
  have h3 := jm_X3_ok
  have hS3 := jm_S3_ok
  have hS3w := jm_S3_w
  unfold jm_S3 at hS3 hS3w
  unfold jm_X3 at h3 hS3 hS3w
  rcases Option.eq_none_or_eq_some (jm_run 4000 99 128 0 [.ref 128] [] jm_X2) with hq | ⟨⟨r, C, S3, L3⟩, hq⟩
  · rw [hq] at h3; cases h3
  rw [hq] at h3 hS3 hS3w
  simp only [Bool.and_eq_true, decide_eq_true_eq] at h3
  obtain ⟨rfl, h3⟩ := h3
  have h3 : C = jm_sh := h3
  subst h3
  rw [e2] at hq
  obtain ⟨T3, u1, u2, -, u4⟩ := jm_run_par 4000 (S := jm_zero T1 128) (L := L + 1) (jm_pr_zero r2) (by decide) hq
  have hini : jm_ini xs T3 := by
    refine ⟨?_, fun k hk => ?_, fun o ho k hk => ?_⟩
    · rw [u4, (jm_zero_x T1 128).1, r4, (jm_zero_x (jm_S0 xs) 0).1]
      rfl
    · have := List.all_eq_true.mp hS3w k (List.mem_range.mpr hk)
      rw [decide_eq_true_eq] at this
      rw [u2 jx_W (by decide)]
      exact this
    · have := List.all_eq_true.mp (List.all_eq_true.mp hS3 o (List.mem_range.mpr ho)) k (List.mem_range.mpr hk)
      rw [decide_eq_true_eq] at this
      rw [u2 o (by show o ≠ 1000000; omega)]
      exact this
  obtain ⟨f, r, S', w1, rfl⟩ := hg L xs hL T3 hini
  refine ⟨(max f 4000) + 10, (jm_sh, S', L + 1), ?_, (show jm_sh.length ≤ 600000 by decide +kernel), (show (jm_sh.map (fun q => q.2.1)).sum ≤ 7302250 by decide +kernel)⟩
  generalize hF : max f 4000 = F
  have hF1 : f ≤ F := by omega
  have hF2 : 4000 ≤ F := by omega
  have w1 := jm_run_le hF1 w1
  have r1 : ∀ g, 4000 ≤ g → jm_run g 99 77 0 [.ref 0] [] ([(7, 10, List.replicate 10 none)], jm_zero (jm_S0 xs) 0, L + 1) = some (none, (jm_sh.take 128, T1, L + 1)) := fun g hgl => jm_run_le hgl r1
  have u1 : ∀ g, 4000 ≤ g → jm_run g 99 128 0 [.ref 128] [] (jm_sh.take 128 ++ [(8, 27, List.replicate 27 none)], jm_zero T1 128, L + 1) = some (none, (jm_sh, T3, L + 1)) := fun g hgl => jm_run_le hgl u1
  have stp : ∀ {g d j pc : Nat} {loc stk : List Value} {M : jm_M} {i : Instr} {n : Nat} {q : jm_P}, jm_fetch j pc = some (i, n) → jm_pure j pc i loc stk = some q → jm_run (g + 1) d j pc loc stk M = jm_run g d j q.1 q.2.1 q.2.2 M := fun hf hp => by rw [jm_run, hf]; dsimp only; rw [hp]
  have sth : ∀ {g d j pc : Nat} {loc stk : List Value} {M : jm_M} {i : Instr} {n : Nat} {q : Nat × List Value × jm_M}, jm_fetch j pc = some (i, n) → jm_pure j pc i loc stk = none → jm_heap j pc i stk M = some q → jm_run (g + 1) d j pc loc stk M = jm_run g d j q.1 loc q.2.1 q.2.2 := fun hf hp hh => by rw [jm_run, hf]; dsimp only; rw [hp]; dsimp only; rw [hh]
  have stc : ∀ {g d j pc t : Nat} {loc stk as rest l0 : List Value} {M M1 : jm_M} {i : Instr} {n : Nat} {r : Option Value}, jm_fetch j pc = some (i, n) → jm_pure j pc i loc stk = none → jm_heap j pc i stk M = none → jm_ret j i stk = none → jm_call j i stk M = some (t, as, rest) → jm_ent t as = some l0 → jm_run g d t 0 l0 [] M = some (r, M1) → jm_run (g + 1) (d + 1) j pc loc stk M = jm_run g (d + 1) j (pc + 3) loc (r.toList ++ rest) M1 := fun hf hp hh hr hc he hq => by rw [jm_run, hf]; dsimp only; rw [hp]; dsimp only; rw [hh]; dsimp only; rw [hr]; dsimp only; rw [hc]; dsimp only; rw [he]; dsimp only; rw [hq]
  rw [show F + 10 = F + 9 + 1 from rfl, sth (j := 223) (pc := 0) (i := .new 7) (n := 3) (q := (3, [.ref 0], ([(7, 10, List.replicate 10 none)], jm_zero (jm_S0 xs) 0, L + 1))) (by decide +kernel) rfl (by rfl)]
  rw [show F + 9 = F + 8 + 1 from rfl, stp (j := 223) (pc := 3) (i := .dup) (n := 1) (q := (4, [.ref jx_S, .null, .null, .null], [.ref 0, .ref 0])) (by decide +kernel) rfl]
  rw [show F + 8 = F + 7 + 1 from rfl, stc (j := 223) (pc := 4) (i := .invokespecial 9) (n := 3) (t := 77) (as := [.ref 0]) (rest := [.ref 0]) (l0 := [.ref 0]) (by decide +kernel) rfl (by rfl) rfl (by rfl) (by rfl) (r1 (F + 7) (by omega))]
  rw [show F + 7 = F + 6 + 1 from rfl, stp (j := 223) (pc := 7) (i := .astore_n 1) (n := 1) (q := (8, [.ref jx_S, .ref 0, .null, .null], [])) (by decide +kernel) rfl]
  rw [show F + 6 = F + 5 + 1 from rfl, sth (j := 223) (pc := 8) (i := .new 10) (n := 3) (q := (11, [.ref 128], (jm_sh.take 128 ++ [(8, 27, List.replicate 27 none)], jm_zero T1 128, L + 1))) (by decide +kernel) rfl (by rfl)]
  rw [show F + 5 = F + 4 + 1 from rfl, stp (j := 223) (pc := 11) (i := .dup) (n := 1) (q := (12, [.ref jx_S, .ref 0, .null, .null], [.ref 128, .ref 128])) (by decide +kernel) rfl]
  rw [show F + 4 = F + 3 + 1 from rfl, stc (j := 223) (pc := 12) (i := .invokespecial 12) (n := 3) (t := 128) (as := [.ref 128]) (rest := [.ref 128]) (l0 := [.ref 128]) (by decide +kernel) rfl (by rfl) rfl (by rfl) (by rfl) (u1 (F + 3) (by omega))]
  rw [show F + 3 = F + 2 + 1 from rfl, stp (j := 223) (pc := 15) (i := .astore_n 2) (n := 1) (q := (16, [.ref jx_S, .ref 0, .ref 128, .null], [])) (by decide +kernel) rfl]
  rw [show F + 2 = F + 1 + 1 from rfl, stp (j := 223) (pc := 16) (i := .iconst 0) (n := 1) (q := (17, [.ref jx_S, .ref 0, .ref 128, .null], [.int 0])) (by decide +kernel) rfl]
  rw [stp (j := 223) (pc := 17) (i := .istore_n 3) (n := 1) (q := (18, [.ref jx_S, .ref 0, .ref 128, .int 0], [])) (by decide +kernel) rfl]
  exact w1
