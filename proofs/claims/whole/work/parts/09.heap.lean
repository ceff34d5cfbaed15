/-! ===== instructions on the memory: the real machine does the same ===== -/
def jm_tys (K : jm_K) : List (ClassId × FieldType) := [(K.1, .int), (K.2.1, .boolean), (K.2.2.1, .object "JingleLaws$Camp"), (K.2.2.2, .array .int)]
/-- what holds at a method's start, of tables and of what lies outside the world -/
def jm_G (base bS bW : Nat) (K : jm_K) (D : va_G) (L : Nat) (xs wd : Nat → Int32) (U : State) : Prop :=
  va_K D vwCl (jm_tys K) U ∧ va_X bS L xs U U.heap ∧ va_Z "JingleLaws" "WIDER" "[I" (.ref bW) (fun q => base ≤ q) U U.heap ∧ va_T .int bW 6 (fun j => .int (wd j)) (fun q => base ≤ q) U U.heap ∧ bS < base ∧ base ≤ U.heap.size ∧ (Cond.arrayOver (.object "JingleLaws$Camp")).before #[] U = true ∧ (Cond.arrayOver (.array .int)).before #[] U = true ∧ ∀ w ∈ jm_nw, va_Nw w U
def jm_ok (L : Nat) (xs wd : Nat → Int32) (M : jm_M) : Prop := M.1.length ≤ jx_S ∧ M.2.1 jx_S = xs ∧ M.2.1 jx_W = wd ∧ M.2.2 = L + 1
def jm_tot (M : jm_M) : Nat := (M.1.map (fun q => q.2.1)).sum
theorem jm_in_vp {i : Int32} {n : Nat} (h : jm_in i n = true) : vp_in i n := by
  unfold jm_in at h
  rw [decide_eq_true_eq] at h
  exact h
theorem jm_e_ob {ad : Nat → Nat} {K : jm_K} {S : Nat → Int32} {c n : Nat} {rs : List (Option Nat)} (hc : c < 9) : jm_e ad K S (c, n, rs) = .inr (c, (List.range (jm_N c)).map (jm_fv ad S c rs)) := by
  unfold jm_e
  rw [if_neg (by show ¬ c = 9; omega), if_neg (by show ¬ c = 10; omega), if_neg (by show ¬ c = 11; omega), if_neg (by show ¬ c = 12; omega)]
theorem jm_ob_inv {M : jm_M} {o c : Nat} {rs : List (Option Nat)} (h : jm_ob M o c = some rs) : c < 9 ∧ ∃ n, M.1[o]? = some (c, n, rs) := by
  unfold jm_ob at h
  cases hq : M.1[o]? with
  | none => rw [hq] at h; cases h
  | some q =>
    obtain ⟨c', n, rs'⟩ := q
    rw [hq] at h
    by_cases e : c' = c ∧ c < 9
    · simp only [e, and_self, if_true] at h
      cases h
      exact ⟨e.2, n, by rw [e.1]⟩
    · simp only [e, if_false] at h
      cases h
theorem jm_wl_inv {M : jm_M} {a k n : Nat} (h : jm_wl M a k = some n) : ∃ rs, M.1[a]? = some (k, n, rs) := by
  unfold jm_wl at h
  cases hq : M.1[a]? with
  | none => rw [hq] at h; cases h
  | some q =>
    obtain ⟨c', n', rs'⟩ := q
    rw [hq] at h
    by_cases e : c' = k
    · simp only [e, if_true] at h
      cases h
      exact ⟨rs', by rw [e]⟩
    · simp only [e, if_false] at h
      cases h
theorem jm_rm (n : Nat) (f : Nat → Value) (k : Nat) (hk : k < n) : ((List.range n).map f)[k]? = some (f k) := by
  rw [List.getElem?_map, List.getElem?_range hk]; rfl
theorem jm_rs (n : Nat) (f g : Nat → Value) (k : Nat) (v : Value) (hv : k < n → g k = v) (ho : ∀ i, i ≠ k → g i = f i) : ((List.range n).map f).set k v = (List.range n).map g := by
  apply List.ext_getElem?
  intro i
  by_cases e : i = k
  · subst e
    by_cases hk : i < n
    · rw [List.getElem?_set_self (by rw [List.length_map, List.length_range]; exact hk), jm_rm n g i hk, hv hk]
    · rw [List.getElem?_eq_none (by rw [List.length_set, List.length_map, List.length_range]; omega), List.getElem?_eq_none (by rw [List.length_map, List.length_range]; omega)]
  · rw [List.getElem?_set_ne (Ne.symm e), List.getElem?_map, List.getElem?_map]
    by_cases hi : i < n
    · rw [List.getElem?_range hi]
      show some (f i) = some (g i)
      rw [ho i e]
    · rw [List.getElem?_eq_none (by rw [List.length_range]; omega)]
      rfl
theorem jm_row_self (S : Nat → Nat → Int32) (o : Nat) : jm_row S o (S o) = S := by
  funext i
  unfold jm_row
  by_cases e : i = o
  · rw [if_pos e, e]
  · rw [if_neg e]
theorem jm_getD_set (rs : List (Option Nat)) (k i : Nat) (v : Option Nat) (hk : k < rs.length) : (rs.set k v).getD i none = if i = k then v else rs.getD i none := by
  rw [List.getD_eq_getElem?_getD, List.getD_eq_getElem?_getD]
  by_cases e : i = k
  · subst e
    rw [List.getElem?_set_self hk, if_pos rfl]; rfl
  · rw [List.getElem?_set_ne (Ne.symm e), if_neg e]
theorem jm_cls_I {K : jm_K} {D : va_G} {s : State} {cA : ClassId} {k : Nat} {ty : FieldType} (hK : va_K D vwCl (jm_tys K ++ [(cA, ty)]) s) (hk : (jm_tys K)[k]? = some ((jm_tys K)[k]!.1, ty)) (hp : ty = .int ∨ ty = .boolean ∨ ty = .array .int) : cA = (jm_tys K)[k]!.1 := by
  have h1 := (hK.2 4 (cA, ty) rfl).2
  have hk4 : k < 4 := (List.getElem?_eq_some_iff.mp hk).1
  have h2 := (hK.2 k ((jm_tys K)[k]!.1, ty) (by rw [List.getElem?_append_left hk4]; exact hk)).2
  rcases hp with rfl | rfl | rfl
  · have h1 : s.vm.findClass ("[" ++ FieldType.toString .int) = some cA := h1
    have h2 : s.vm.findClass ("[" ++ FieldType.toString .int) = some (jm_tys K)[k]!.1 := h2
    exact Option.some.inj (h1.symm.trans h2)
  · have h1 : s.vm.findClass ("[" ++ FieldType.toString .boolean) = some cA := h1
    have h2 : s.vm.findClass ("[" ++ FieldType.toString .boolean) = some (jm_tys K)[k]!.1 := h2
    exact Option.some.inj (h1.symm.trans h2)
  · have h1 : s.vm.findClass ("[" ++ FieldType.toString (.array .int)) = some cA := h1
    have h2 : s.vm.findClass ("[" ++ FieldType.toString (.array .int)) = some (jm_tys K)[k]!.1 := h2
    exact Option.some.inj (h1.symm.trans h2)
theorem jm_xck : (jm_at (jm_xp.getD 0 0) (.native arraycopyName) && jm_at (jm_xp.getD 1 0) (.static arraycopyName) && jm_at (jm_xp.getD 2 0) (.initialized "java/lang/System") && jm_at (jm_xp.getD 3 0) (.instanceMethod objectInit) && jm_at (jm_xp.getD 4 0) (.arrayClass .int) && jm_at (jm_xp.getD 5 0) (.arrayClass .boolean) && jm_at jm_xo (.code objectInit ⟨#[0xb1]⟩ 1 none)) = true := by decide +kernel
theorem jm_x_ok : Cond.native arraycopyName ∈ jm_Tb ∧ Cond.static arraycopyName ∈ jm_Tb ∧ Cond.initialized "java/lang/System" ∈ jm_Tb ∧ Cond.instanceMethod objectInit ∈ jm_Tb ∧ Cond.arrayClass .int ∈ jm_Tb ∧ Cond.arrayClass .boolean ∈ jm_Tb ∧ Cond.code objectInit ⟨#[0xb1]⟩ 1 none ∈ jm_Tb := by
  have h := jm_xck
  simp only [Bool.and_eq_true] at h
  exact ⟨jm_at_mem h.1.1.1.1.1.1, jm_at_mem h.1.1.1.1.1.2, jm_at_mem h.1.1.1.1.2, jm_at_mem h.1.1.1.2, jm_at_mem h.1.1.2, jm_at_mem h.1.2, jm_at_mem h.2⟩
theorem jm_mxok : jm_mxT.all (fun q => jm_at q.2 (.methodLink (jm_cnm q.1.1) q.1.2 Lib.Math.max.name)) = true := by decide +kernel
theorem jm_mnok : jm_mnT.all (fun q => jm_at q.2 (.methodLink (jm_cnm q.1.1) q.1.2 Lib.Math.min.name)) = true := by decide +kernel
theorem jm_yck : (jm_at (jm_xp.getD 6 0) (.static Lib.Math.max.name) && jm_at (jm_xp.getD 7 0) (.static Lib.Math.min.name) && jm_at (jm_xp.getD 8 0) (.initialized "java/lang/Math") && jm_at jm_xm.1 (.code Lib.Math.max.name Lib.Math.max.code 2 (some .int)) && jm_at jm_xm.2 (.code Lib.Math.min.name Lib.Math.min.code 2 (some .int))) = true := by decide +kernel
theorem jm_y_ok : Cond.static Lib.Math.max.name ∈ jm_Tb ∧ Cond.static Lib.Math.min.name ∈ jm_Tb ∧ Cond.initialized "java/lang/Math" ∈ jm_Tb ∧ Cond.code Lib.Math.max.name Lib.Math.max.code 2 (some .int) ∈ jm_Tb ∧ Cond.code Lib.Math.min.name Lib.Math.min.code 2 (some .int) ∈ jm_Tb := by
  have h := jm_yck
  simp only [Bool.and_eq_true] at h
  exact ⟨jm_at_mem h.1.1.1.1, jm_at_mem h.1.1.1.2, jm_at_mem h.1.1.2, jm_at_mem h.1.2, jm_at_mem h.2⟩
section JMH
variable {p : Program} {l : Launch} {e : Env} {R : Room} {s : State} {m : MethodId} {args : Array Value} {below : List Frame} {meth : Method} {c : Code} {H : Heap} {locs : List Loc} {cells slots : Nat} {Q : State → Prop}
variable {base bS bW : Nat} {K : jm_K} {D : va_G} {L : Nat} {xs wd : Nat → Int32} {ls : Array Slot} {stk : List Value} {M : jm_M}
/-- where the next cell comes -/
theorem jm_hsz {T : State} (X : Stand p l e R s m args below meth c T locs cells slots) (hT : T.heap = H) (hM : M.1.length ≤ jx_S) (hP : va_P D vwCl (jm_w (jm_ad base bS bW) K M) H) (hS : va_S (fun q => base ≤ q) s.heap H locs) (hb0 : base ≤ s.heap.size) (hcn : s.heap.size + cells = base + M.1.length) : H.size = base + M.1.length := by
  have h1 := X.heapSize
  rw [hT] at h1
  have h2 := hS.1
  by_cases h0 : M.1.length = 0
  · omega
  · have hl : M.1.length - 1 < M.1.length := by omega
    have hq : M.1[M.1.length - 1]? = some (M.1[M.1.length - 1]'hl) := List.getElem?_eq_getElem hl
    have h3 := (hP _ _ (jm_w_at (ad := jm_ad base bS bW) (K := K) hq)).lt
    have h3 : jm_ad base bS bW (M.1.length - 1) < H.size := h3
    rw [jm_ad_lt (by omega)] at h3
    omega
end JMH
