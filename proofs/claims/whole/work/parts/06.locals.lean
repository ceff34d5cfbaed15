/-! ===== the tables hold what the words say ===== -/
def jm_cnm (o : Nat) : String := jm_cn.getD o ""
def jm_Tb : List Cond := lw_tbl.filter goodWord
theorem jm_lk {α β : Type} [BEq α] [LawfulBEq α] {k : α} {v : β} : ∀ {l : List (α × β)}, l.lookup k = some v → (k, v) ∈ l
  | [], h => by simp at h
  | (a, b) :: l, h => by
    rw [List.lookup_cons] at h
    by_cases e : (k == a) = true
    · rw [e] at h
      have := eq_of_beq e
      subst this
      cases h
      exact List.mem_cons_self
    · have e' : (k == a) = false := by simpa using e
      rw [e'] at h
      exact List.mem_cons_of_mem _ (jm_lk h)
/-- a word at its place of lw_tbl -/
def jm_at (p : Nat) (w : Cond) : Bool := decide (lw_tbl[p]? = some w) && goodWord w
theorem jm_at_mem {p : Nat} {w : Cond} (h : jm_at p w = true) : w ∈ jm_Tb := by
  unfold jm_at at h
  rw [Bool.and_eq_true, decide_eq_true_eq] at h
  exact List.mem_filter.mpr ⟨List.mem_of_getElem? h.1, h.2⟩
theorem jm_kok : jm_kT.all (fun q => jm_at q.2.2 (.constant (jm_cnm q.1.1) q.1.2 q.2.1)) = true := by decide +kernel
theorem jm_lok : jm_lT.all (fun q => jm_at q.2.2 (.constantLong (jm_cnm q.1.1) q.1.2 q.2.1)) = true := by decide +kernel
def jm_TT (c k : Nat) : String × String × String × Bool := ((vwCl.getD c ("", fun _ => ("", "", "", false), 0)).2.1 k)
theorem jm_fok : jm_fT.all (fun q => decide (q.2.1 < 9) && decide (q.2.2.1 < jm_N q.2.1) && jm_at q.2.2.2 (.fieldLink (jm_cnm q.1.1) q.1.2 (jm_TT q.2.1 q.2.2.1).1 (jm_TT q.2.1 q.2.2.1).2.1 (jm_TT q.2.1 q.2.2.1).2.2.1)) = true := by decide +kernel
theorem jm_cok : jm_cT.all (fun q => jm_at q.2.2 (.classLink (jm_cnm q.1.1) q.1.2 (if q.2.1 = 12 then "[[I" else jm_cnm q.2.1))) = true := by decide +kernel
theorem jm_gok : jm_gT.all (fun q => jm_at q.2 (.fieldLink (jm_cnm q.1.1) q.1.2 "JingleLaws" "WIDER" "[I")) = true := by decide +kernel
theorem jm_cpok : jm_cpT.all (fun q => jm_at q.2 (.methodLink (jm_cnm q.1.1) q.1.2 arraycopyName)) = true := by decide +kernel
theorem jm_oiok : jm_oiT.all (fun q => jm_at q.2 (.methodLink (jm_cnm q.1.1) q.1.2 objectInit)) = true := by decide +kernel
theorem jm_k_ok {o x : Nat} {v : Int32 × Nat} (h : jm_kT.lookup (o, x) = some v) : Cond.constant (jm_cnm o) x v.1 ∈ jm_Tb := jm_at_mem (List.all_eq_true.mp jm_kok _ (jm_lk h))
theorem jm_l_ok {o x : Nat} {v : Int64 × Nat} (h : jm_lT.lookup (o, x) = some v) : Cond.constantLong (jm_cnm o) x v.1 ∈ jm_Tb := jm_at_mem (List.all_eq_true.mp jm_lok _ (jm_lk h))
/-! ===== values and locals ===== -/
def jm_tr (ad : Nat → Nat) (v : Value) : Value := match v with
  | .ref o => .ref (ad o)
  | w => w
theorem jm_tr_cat (ad : Nat → Nat) (v : Value) : (jm_tr ad v).category = v.category := by cases v <;> rfl
def jm_lr (ad : Nat → Nat) (ls : Array Slot) (nL : Nat) (loc : List Value) : Prop := ls.size = nL ∧ lv_wf ls ∧ loc.length = nL ∧ ∀ (x : Nat) (v : Value), loc[x]? = some v → v ≠ .null → ls[x]? = some (.val (jm_tr ad v))
def jm_lv (ad : Nat → Nat) (loc : List Value) : List (Nat × Value) := (List.range loc.length).filterMap (fun x => match loc[x]? with
  | some v => if v = .null then none else some (x, jm_tr ad v)
  | none => none)
theorem jm_lv_mem {ad : Nat → Nat} {loc : List Value} {q : Nat × Value} : q ∈ jm_lv ad loc ↔ ∃ v, loc[q.1]? = some v ∧ v ≠ .null ∧ q.2 = jm_tr ad v := by
  unfold jm_lv
  rw [List.mem_filterMap]
  constructor
  · rintro ⟨x, -, hx⟩
    cases hv : loc[x]? with
    | none => rw [hv] at hx; cases hx
    | some v =>
      rw [hv] at hx
      by_cases e : v = .null
      · simp [e] at hx
      · simp only [e, if_false] at hx
        cases hx
        exact ⟨v, hv, e, rfl⟩
  · rintro ⟨v, hv, e, hq⟩
    refine ⟨q.1, List.mem_range.mpr (List.getElem?_eq_some_iff.mp hv).1, ?_⟩
    rw [hv]
    simp only [e, if_false, ← hq]
theorem jm_lr.has {ad : Nat → Nat} {ls : Array Slot} {nL : Nat} {loc : List Value} (h : jm_lr ad ls nL loc) : lv_has ls nL (jm_lv ad loc) := by
  refine ⟨h.1, h.2.1, fun q hq => ?_⟩
  obtain ⟨v, h1, h2, h3⟩ := jm_lv_mem.mp hq
  rw [h3]
  exact h.2.2.2 _ v h1 h2
theorem jm_kl_ne {v : Value} (h : jm_kl v ≠ .null) : jm_kl v = v ∧ ¬ v.category = 2 := by
  cases v <;> simp [jm_kl, Value.category] at h ⊢
theorem jm_kx_len (loc : List Value) (x : Nat) : (jm_kx loc x).length = loc.length := by
  cases x with
  | zero => rfl
  | succ y => exact List.length_modify ..
theorem jm_kx_get {loc : List Value} {x y : Nat} {w : Value} (h : (jm_kx loc x)[y]? = some w) (hw : w ≠ .null) : loc[y]? = some w ∧ ¬ (y + 1 = x ∧ w.category = 2) := by
  cases x with
  | zero => exact ⟨h, fun z => by omega⟩
  | succ z =>
    have h : (loc.modify z jm_kl)[y]? = some w := h
    rw [List.getElem?_modify] at h
    by_cases e2 : z = y
    · subst e2
      cases hu : loc[z]? with
      | none => rw [hu] at h; cases h
      | some u =>
        rw [hu] at h
        have hw' : jm_kl u = w := by simpa using h
        obtain ⟨h1, h3⟩ := jm_kl_ne (v := u) (by rw [hw']; exact hw)
        have e : u = w := by rw [← hw', h1]
        subst e
        exact ⟨rfl, fun q => h3 q.2⟩
    · simp only [e2, if_false] at h
      refine ⟨by simpa using h, fun q => by omega⟩
theorem jm_lr.st1 {ad : Nat → Nat} {ls' : Array Slot} {nL x : Nat} {loc loc' : List Value} {v : Value} (hn : loc.length = nL) (hs : jm_st1 loc x v = some loc') (h : lv_has ls' nL ((x, jm_tr ad v) :: (jm_lv ad loc).filter (fun q => !(q.1 == x) && !(q.1 + 1 == x && q.2.category == 2)))) : jm_lr ad ls' nL loc' := by
  unfold jm_st1 at hs
  by_cases hx : x < loc.length
  · rw [if_pos hx] at hs
    cases hs
    have hlen : ((jm_kx loc x).set x v).length = nL := by
      rw [List.length_set, jm_kx_len, hn]
    refine ⟨h.1, h.2.1, hlen, fun y w hy hw => ?_⟩
    by_cases e : y = x
    · subst e
      rw [List.getElem?_set_self (by rw [jm_kx_len]; exact hx)] at hy
      cases hy
      exact h.2.2 (y, jm_tr ad v) List.mem_cons_self
    · rw [List.getElem?_set_ne (Ne.symm e)] at hy
      obtain ⟨hu, hnn⟩ := jm_kx_get hy hw
      refine h.2.2 (y, jm_tr ad w) (List.mem_cons_of_mem _ (List.mem_filter.mpr ⟨jm_lv_mem.mpr ⟨w, hu, hw, rfl⟩, ?_⟩))
      simp only [Bool.and_eq_true, Bool.not_eq_true', beq_eq_false_iff_ne, ne_eq, Bool.and_eq_false_iff, jm_tr_cat]
      refine ⟨e, ?_⟩
      by_cases q : y + 1 = x
      · exact Or.inr (fun z => hnn ⟨q, z⟩)
      · exact Or.inl q
  · rw [if_neg hx] at hs
    cases hs
theorem jm_lr.st2 {ad : Nat → Nat} {ls' : Array Slot} {nL x : Nat} {loc loc' : List Value} {v : Value} (hn : loc.length = nL) (hs : jm_st2 loc x v = some loc') (h : lv_has ls' nL ((x, jm_tr ad v) :: (jm_lv ad loc).filter (fun q => !(q.1 == x) && (!(q.1 == x + 1) && !(q.1 + 1 == x && q.2.category == 2))))) : jm_lr ad ls' nL loc' := by
  unfold jm_st2 at hs
  by_cases hx : x + 1 < loc.length
  · rw [if_pos hx] at hs
    cases hs
    have hlen : (((jm_kx loc x).set x v).set (x + 1) .null).length = nL := by
      rw [List.length_set, List.length_set, jm_kx_len, hn]
    refine ⟨h.1, h.2.1, hlen, fun y w hy hw => ?_⟩
    by_cases e1 : y = x + 1
    · subst e1
      rw [List.getElem?_set_self (by rw [List.length_set, jm_kx_len]; exact hx)] at hy
      cases hy
      exact absurd rfl hw
    · rw [List.getElem?_set_ne (Ne.symm e1)] at hy
      by_cases e : y = x
      · subst e
        rw [List.getElem?_set_self (by rw [jm_kx_len]; omega)] at hy
        cases hy
        exact h.2.2 (y, jm_tr ad v) List.mem_cons_self
      · rw [List.getElem?_set_ne (Ne.symm e)] at hy
        obtain ⟨hu, hnn⟩ := jm_kx_get hy hw
        refine h.2.2 (y, jm_tr ad w) (List.mem_cons_of_mem _ (List.mem_filter.mpr ⟨jm_lv_mem.mpr ⟨w, hu, hw, rfl⟩, ?_⟩))
        simp only [Bool.and_eq_true, Bool.not_eq_true', beq_eq_false_iff_ne, ne_eq, Bool.and_eq_false_iff, jm_tr_cat]
        refine ⟨e, e1, ?_⟩
        by_cases q : y + 1 = x
        · exact Or.inr (fun z => hnn ⟨q, z⟩)
        · exact Or.inl q
  · rw [if_neg hx] at hs
    cases hs
/-- the locals at a method's entry -/
theorem jm_sl_len (ad : Nat → Nat) : ∀ (vs : List Value), (lg_sl (vs.map (jm_tr ad))).length = (jm_sl vs).length
  | [] => rfl
  | v :: vs => by
    have ih := jm_sl_len ad vs
    unfold lg_sl jm_sl at ih ⊢
    rw [List.map_cons, List.flatMap_cons, List.flatMap_cons, List.length_append, List.length_append, ih, jm_tr_cat]
    by_cases e : v.category = 2 <;> simp [e]
theorem jm_sl_at (ad : Nat → Nat) : ∀ (vs : List Value) (i x : Nat) (w : Value), (jm_sl vs)[x]? = some w → w ≠ .null → (i + x, jm_tr ad w) ∈ lv_args i (vs.map (jm_tr ad))
  | [], i, x, w, h, _ => by simp [jm_sl] at h
  | v :: vs, i, x, w, h, hw => by
    have ih := jm_sl_at ad vs
    have e0 : jm_sl (v :: vs) = (if v.category = 2 then [v, .null] else [v]) ++ jm_sl vs := by unfold jm_sl; rw [List.flatMap_cons]
    rw [e0] at h
    rw [List.map_cons, lv_args, jm_tr_cat]
    by_cases e : v.category = 2
    · rw [if_pos e] at h ⊢
      match x, h with
      | 0, h =>
        have : v = w := by simpa using h
        subst this
        exact List.mem_cons_self
      | 1, h =>
        have : Value.null = w := by simpa using h
        exact absurd this.symm hw
      | x + 2, h =>
        have h1 : (jm_sl vs)[x]? = some w := by simpa using h
        have h2 := ih (i + 2) x w h1 hw
        rw [show i + (x + 2) = i + 2 + x by omega]
        exact List.mem_cons_of_mem _ h2
    · rw [if_neg e] at h ⊢
      match x, h with
      | 0, h =>
        have : v = w := by simpa using h
        subst this
        exact List.mem_cons_self
      | x + 1, h =>
        have h1 : (jm_sl vs)[x]? = some w := by simpa using h
        have h2 := ih (i + 1) x w h1 hw
        rw [show i + (x + 1) = i + 1 + x by omega]
        exact List.mem_cons_of_mem _ h2
theorem jm_lr.entry {ad : Nat → Nat} {t : Nat} {vs l0 : List Value} (h : jm_ent t vs = some l0) : jm_lr ad ((lg_sl (vs.map (jm_tr ad)) ++ List.replicate (jm_ml t - (lg_sl (vs.map (jm_tr ad))).length) Slot.unset).toArray) (jm_ml t) l0 := by
  unfold jm_ent at h
  by_cases hl : (jm_sl vs).length ≤ jm_ml t
  · rw [if_pos hl] at h
    cases h
    have h0 := lv_entry (vs.map (jm_tr ad)) (n := jm_ml t) (by rw [jm_sl_len]; exact hl)
    refine ⟨h0.1, h0.2.1, by rw [List.length_append, List.length_replicate]; omega, fun x w hx hw => ?_⟩
    by_cases hlt : x < (jm_sl vs).length
    · rw [List.getElem?_append_left hlt] at hx
      have h1 := jm_sl_at ad vs 0 x w hx hw
      rw [Nat.zero_add] at h1
      exact h0.2.2 _ h1
    · rw [List.getElem?_append_right (by omega)] at hx
      rw [List.getElem?_replicate] at hx
      split at hx
      · cases hx; exact absurd rfl hw
      · cases hx
  · rw [if_neg hl] at h
    cases h
