/-! ===== what the tables say of the classes ===== -/
def jm_T (c : Nat) : u_T := (vwCl.getD c ("", fun _ => ("", "", "", false), 0)).2.1
def jm_ty (c k : Nat) : FieldType := (parseFieldDescriptor (jm_T c k).2.2.1).getD .int
def jm_rk (t : FieldType) : Bool := match t with
  | .object _ => true
  | .array _ => true
  | _ => false
theorem jm_clok : ∀ c, c < 9 → vwCl[c]? = some (jm_cnm c, jm_T c, jm_N c) := by
  intro c hc
  match c, hc with
  | 0, _ => rfl
  | 1, _ => rfl
  | 2, _ => rfl
  | 3, _ => rfl
  | 4, _ => rfl
  | 5, _ => rfl
  | 6, _ => rfl
  | 7, _ => rfl
  | 8, _ => rfl
  | n + 9, h => omega
theorem jm_layck : (List.range 9).all (fun c => (List.range (jm_N c)).all (fun k => jm_at ((jm_lp.getD c []).getD k 0) (u_lay (jm_cnm c) (jm_T c) k))) = true := by decide +kernel
theorem jm_tyck : (List.range 9).all (fun c => (List.range (jm_N c)).all (fun k => decide (parseFieldDescriptor (jm_T c k).2.2.1 = some (jm_ty c k)) && (if jm_isI c k then decide (jm_ty c k = .int) && !(jm_T c k).2.2.2 else (jm_T c k).2.2.2 && decide ((jm_T c k).1 = jm_cnm c) && jm_rk (jm_ty c k)))) = true := by decide +kernel
theorem jm_nmck : (List.range 9).all (fun c => (List.range (jm_N c)).all (fun a => (List.range (jm_N c)).all (fun b => decide (a = b) || decide ((jm_T c a).2.1 ≠ (jm_T c b).2.1)))) = true := by decide +kernel
theorem jm_ipck : (List.range 9).all (fun c => jm_at (jm_ip.getD c (0, 0)).1 (.instantiable (jm_cnm c) (jm_N c)) && jm_at (jm_ip.getD c (0, 0)).2 (.initialized (jm_cnm c))) = true := by decide +kernel
theorem jm_all2 {n : Nat} {f : Nat → Nat} {P : Nat → Nat → Bool} (h : (List.range n).all (fun c => (List.range (f c)).all (fun k => P c k)) = true) {c k : Nat} (hc : c < n) (hk : k < f c) : P c k = true :=
  List.all_eq_true.mp (List.all_eq_true.mp h c (List.mem_range.mpr hc)) k (List.mem_range.mpr hk)
theorem jm_lays {c : Nat} (hc : c < 9) : ∀ w ∈ u_ws (jm_cnm c) (jm_T c) (jm_N c), w ∈ jm_Tb := by
  intro w hw
  unfold u_ws at hw
  obtain ⟨k, hk, rfl⟩ := List.mem_map.mp hw
  exact jm_at_mem (jm_all2 jm_layck hc (List.mem_range.mp hk))
theorem jm_tyok {c : Nat} (hc : c < 9) : ∀ k, k < jm_N c → parseFieldDescriptor (jm_T c k).2.2.1 = some (jm_ty c k) := by
  intro k hk
  have h := jm_all2 jm_tyck hc hk
  simp only [Bool.and_eq_true, decide_eq_true_eq] at h
  exact h.1
theorem jm_tyI {c k : Nat} (hc : c < 9) (hk : k < jm_N c) (hi : jm_isI c k = true) : jm_ty c k = .int ∧ (jm_T c k).2.2.2 = false := by
  have h := jm_all2 jm_tyck hc hk
  simp only [Bool.and_eq_true, decide_eq_true_eq, hi, if_true, Bool.not_eq_true'] at h
  exact h.2
theorem jm_tyR {c k : Nat} (hc : c < 9) (hk : k < jm_N c) (hi : jm_isI c k = false) : (jm_T c k).2.2.2 = true ∧ (jm_T c k).1 = jm_cnm c ∧ jm_rk (jm_ty c k) = true := by
  have h := jm_all2 jm_tyck hc hk
  simp only [Bool.and_eq_true, decide_eq_true_eq, hi, Bool.false_eq_true, if_false] at h
  exact ⟨h.2.1.1, h.2.1.2, h.2.2⟩
theorem jm_nmok {c : Nat} (hc : c < 9) : ∀ a, a < jm_N c → ∀ b, b < jm_N c → a ≠ b → (jm_T c a).2.1 ≠ (jm_T c b).2.1 := by
  intro a ha b hb hab
  have h := List.all_eq_true.mp (jm_all2 jm_nmck hc ha) b (List.mem_range.mpr hb)
  simp only [Bool.or_eq_true, decide_eq_true_eq] at h
  exact h.resolve_left hab
theorem jm_f_ok {o x : Nat} {v : Nat × Nat × Nat} (h : jm_fT.lookup (o, x) = some v) : v.1 < 9 ∧ v.2.1 < jm_N v.1 ∧ Cond.fieldLink (jm_cnm o) x (jm_T v.1 v.2.1).1 (jm_T v.1 v.2.1).2.1 (jm_T v.1 v.2.1).2.2.1 ∈ jm_Tb := by
  have h := List.all_eq_true.mp jm_fok _ (jm_lk h)
  simp only [Bool.and_eq_true, decide_eq_true_eq] at h
  exact ⟨h.1.1, h.1.2, jm_at_mem h.2⟩
theorem jm_rk_fit {t : FieldType} (h : jm_rk t = true) (a : Nat) : narrow t (.ref a) = .ref a ∧ fits t (.ref a) = true ∧ defaultValue t = .null := by
  cases t <;> simp [jm_rk] at h <;> exact ⟨rfl, rfl, rfl⟩
/-! ===== the world that a memory is ===== -/
def jm_ad (base bS bW : Nat) (o : Nat) : Nat := if o = jx_S then bS else if o = jx_W then bW else base + o
abbrev jm_K : Type := ClassId × ClassId × ClassId × ClassId
def jm_fv (ad : Nat → Nat) (S : Nat → Int32) (c : Nat) (rs : List (Option Nat)) (k : Nat) : Value := if jm_isI c k = true then .int (S k) else va_rf ((rs.getD k none).map ad)
def jm_e (ad : Nat → Nat) (K : jm_K) (S : Nat → Int32) (q : jm_C) : va_E :=
  if q.1 = 9 then .inl (K.1, q.2.1, .inl S)
  else if q.1 = 10 then .inl (K.2.1, q.2.1, .inl S)
  else if q.1 = 11 then .inl (K.2.2.1, q.2.1, .inr (.inr (.inr (.inr (fun i => (q.2.2.getD i none).map ad)))))
  else if q.1 = 12 then .inl (K.2.2.2, q.2.1, .inr (.inr (.inr (.inr (fun i => (q.2.2.getD i none).map ad)))))
  else .inr (q.1, (List.range (jm_N q.1)).map (jm_fv ad S q.1 q.2.2))
def jm_w (ad : Nat → Nat) (K : jm_K) (M : jm_M) : va_W := M.1.mapIdx (fun o q => (ad o, jm_e ad K (M.2.1 o) q))
theorem jm_w_get (ad : Nat → Nat) (K : jm_K) (M : jm_M) (o : Nat) : (jm_w ad K M)[o]? = (M.1[o]?).map (fun q => (ad o, jm_e ad K (M.2.1 o) q)) := by
  unfold jm_w
  rw [List.getElem?_mapIdx]
theorem jm_w_at {ad : Nat → Nat} {K : jm_K} {M : jm_M} {o : Nat} {q : jm_C} (h : M.1[o]? = some q) : (jm_w ad K M)[o]? = some (ad o, jm_e ad K (M.2.1 o) q) := by
  rw [jm_w_get, h]; rfl
theorem jm_ad_lt {base bS bW o : Nat} (h : o < jx_S) : jm_ad base bS bW o = base + o := by
  unfold jm_ad
  rw [if_neg (by omega), if_neg (by show ¬ o = 1000001; have : o < 1000000 := h; omega)]
theorem jm_w_D {base bS bW : Nat} {K : jm_K} {M : jm_M} (hM : M.1.length ≤ jx_S) : va_D (fun q => base ≤ q) (jm_w (jm_ad base bS bW) K M) := by
  have key : ∀ (i : Nat) (x : Nat × va_E), (jm_w (jm_ad base bS bW) K M)[i]? = some x → x.1 = base + i := by
    intro i x hx
    rw [jm_w_get] at hx
    obtain ⟨q, h1, h2⟩ := Option.map_eq_some_iff.mp hx
    have hl := (List.getElem?_eq_some_iff.mp h1).1
    rw [← h2]
    exact jm_ad_lt (by omega)
  refine ⟨fun i j x y hi hj hxy => ?_, fun k x hx => ?_⟩
  · have := key i x hi
    have := key j y hj
    omega
  · show base ≤ x.1
    rw [key k x hx]
    omega
/-- a cell is written: the world -/
theorem jm_w_set {ad : Nat → Nat} {K : jm_K} {M : jm_M} {o : Nat} {q : jm_C} {f : Nat → Int32} (q' : jm_C) (ho : M.1[o]? = some q) : (jm_w ad K M).set o (ad o, jm_e ad K f q') = jm_w ad K (M.1.set o q', jm_row M.2.1 o f, M.2.2) := by
  apply List.ext_getElem?
  intro i
  have hl := (List.getElem?_eq_some_iff.mp ho).1
  have hw : o < (jm_w ad K M).length := by unfold jm_w; rw [List.length_mapIdx]; exact hl
  rw [jm_w_get]
  by_cases e : i = o
  · subst e
    rw [List.getElem?_set_self hw]
    show _ = ((M.1.set i q')[i]?).map _
    rw [List.getElem?_set_self hl]
    simp [jm_row]
  · rw [List.getElem?_set_ne (Ne.symm e), jm_w_get]
    show _ = ((M.1.set o q')[i]?).map _
    rw [List.getElem?_set_ne (Ne.symm e)]
    simp [jm_row, e]
theorem jm_set_self {L : List jm_C} {o : Nat} {q : jm_C} (h : L[o]? = some q) : L.set o q = L := by
  apply List.ext_getElem?
  intro i
  by_cases e : i = o
  · subst e
    rw [List.getElem?_set_self (List.getElem?_eq_some_iff.mp h).1, h]
  · rw [List.getElem?_set_ne (Ne.symm e)]
theorem jm_upd_row (S : Nat → Nat → Int32) (a k : Nat) (x : Int32) : jm_upd S a k x = jm_row S a (upd (S a) k x) := rfl
theorem jm_w_app {ad : Nat → Nat} {K : jm_K} {M : jm_M} (cs : List jm_C) (hM : M.1.length + cs.length ≤ jx_S) : jm_w ad K (M.1 ++ cs, jm_zero M.2.1 M.1.length, M.2.2) = jm_w ad K M ++ cs.mapIdx (fun i q => (ad (M.1.length + i), jm_e ad K (fun _ => 0) q)) := by
  apply List.ext_getElem?
  intro i
  rw [jm_w_get]
  by_cases hi : i < M.1.length
  · have hw : i < (jm_w ad K M).length := by unfold jm_w; rw [List.length_mapIdx]; exact hi
    rw [List.getElem?_append_left hw, jm_w_get]
    show (((M.1 ++ cs)[i]?).map _) = _
    rw [List.getElem?_append_left hi]
    have e : jm_zero M.2.1 M.1.length i = M.2.1 i := by unfold jm_zero; rw [if_neg (by omega)]
    show Option.map (fun q => (ad i, jm_e ad K (jm_zero M.2.1 M.1.length i) q)) _ = _
    rw [e]
  · have hw : (jm_w ad K M).length = M.1.length := by unfold jm_w; rw [List.length_mapIdx]
    show (((M.1 ++ cs)[i]?).map _) = _
    rw [List.getElem?_append_right (l₁ := M.1) (by omega), List.getElem?_append_right (l₁ := jm_w ad K M) (by omega), hw, List.getElem?_mapIdx]
    by_cases hc : i - M.1.length < cs.length
    · have e : jm_zero M.2.1 M.1.length i = fun _ => 0 := by unfold jm_zero; rw [if_pos (by omega)]
      show Option.map (fun q => (ad i, jm_e ad K (jm_zero M.2.1 M.1.length i) q)) _ = _
      rw [e, show M.1.length + (i - M.1.length) = i by omega]
    · rw [List.getElem?_eq_none (by omega)]
      rfl
