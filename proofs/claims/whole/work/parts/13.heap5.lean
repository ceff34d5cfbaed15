theorem jm_tot_set {M : jm_M} {S : Nat → Nat → Int32} {o c c' n L' : Nat} {rs rs' : List (Option Nat)} (h : M.1[o]? = some (c, n, rs)) : jm_tot (M.1.set o (c', n, rs'), S, L') = jm_tot M := by
  unfold jm_tot
  show ((M.1.set o (c', n, rs')).map (fun q => q.2.1)).sum = _
  rw [List.map_set]
  congr 1
  apply List.ext_getElem?
  intro i
  by_cases e : i = o
  · subst e
    have hl := (List.getElem?_eq_some_iff.mp h).1
    rw [List.getElem?_set_self (by rw [List.length_map]; exact hl), List.getElem?_map, h]
    rfl
  · rw [List.getElem?_set_ne (Ne.symm e)]
theorem jm_tot_app {M : jm_M} {S : Nat → Nat → Int32} {L' : Nat} (cs : List jm_C) : jm_tot (M.1 ++ cs, S, L') = jm_tot M + (cs.map (fun q => q.2.1)).sum := by
  unfold jm_tot
  show ((M.1 ++ cs).map (fun q => q.2.1)).sum = _
  rw [List.map_append, List.sum_append]
theorem jm_zero_x (S : Nat → Nat → Int32) (n : Nat) : jm_zero S n jx_S = S jx_S ∧ jm_zero S n jx_W = S jx_W := by
  unfold jm_zero
  constructor
  · rw [if_neg (by omega)]
  · rw [if_neg (by show ¬ (n ≤ 1000001 ∧ 1000001 < 1000000); omega)]
theorem jm_row_x {S : Nat → Nat → Int32} {a : Nat} {f : Nat → Int32} (h : a < jx_S) : jm_row S a f jx_S = S jx_S ∧ jm_row S a f jx_W = S jx_W := by
  have h : a < 1000000 := h
  unfold jm_row
  constructor
  · rw [if_neg (by show ¬ 1000000 = a; omega)]
  · rw [if_neg (by show ¬ 1000001 = a; omega)]
/-- what every step keeps -/
def jm_kp (M M1 : jm_M) : Prop := M1.2.1 jx_S = M.2.1 jx_S ∧ M1.2.1 jx_W = M.2.1 jx_W ∧ M1.2.2 = M.2.2 ∧ M.1.length ≤ M1.1.length ∧ M1.1.length ≤ jx_S ∧ jm_tot M ≤ jm_tot M1
theorem jm_kp.rf {M : jm_M} (h : M.1.length ≤ jx_S) : jm_kp M M := ⟨rfl, rfl, rfl, Nat.le_refl _, h, Nat.le_refl _⟩
theorem jm_kp.tr {M M1 M2 : jm_M} (h1 : jm_kp M M1) (h2 : jm_kp M1 M2) : jm_kp M M2 := ⟨h2.1.trans h1.1, h2.2.1.trans h1.2.1, h2.2.2.1.trans h1.2.2.1, Nat.le_trans h1.2.2.2.1 h2.2.2.2.1, h2.2.2.2.2.1, Nat.le_trans h1.2.2.2.2.2 h2.2.2.2.2.2⟩
theorem jm_kp.ok {M M1 : jm_M} {L : Nat} {xs wd : Nat → Int32} (h : jm_kp M M1) (ho : jm_ok L xs wd M) : jm_ok L xs wd M1 := ⟨h.2.2.2.2.1, h.1.trans ho.2.1, h.2.1.trans ho.2.2.1, h.2.2.1.trans ho.2.2.2⟩
theorem jm_kp_row {M : jm_M} {a : Nat} {q : jm_C} {f : Nat → Int32} (hM : M.1.length ≤ jx_S) (ha : M.1[a]? = some q) : jm_kp M (M.1, jm_row M.2.1 a f, M.2.2) := by
  have hl := (List.getElem?_eq_some_iff.mp ha).1
  have := jm_row_x (S := M.2.1) (f := f) (show a < jx_S by omega)
  exact ⟨this.1, this.2, rfl, Nat.le_refl _, hM, Nat.le_refl _⟩
theorem jm_kp_app {M : jm_M} (cs : List jm_C) (hM : M.1.length + cs.length ≤ jx_S) : jm_kp M (M.1 ++ cs, jm_zero M.2.1 M.1.length, M.2.2) := by
  have := jm_zero_x M.2.1 M.1.length
  refine ⟨this.1, this.2, rfl, ?_, ?_, ?_⟩
  · show M.1.length ≤ (M.1 ++ cs).length
    rw [List.length_append]; omega
  · show (M.1 ++ cs).length ≤ jx_S
    rw [List.length_append]; exact hM
  · rw [jm_tot_app]; omega
section JML
variable {p : Program} {l : Launch} {e : Env} {R : Room} {s : State} {m : MethodId} {args : Array Value} {below : List Frame} {meth : Method} {c : Code} {H : Heap} {locs : List Loc} {cells slots : Nat} {Q : State → Prop}
variable {base bS bW : Nat} {K : jm_K} {D : va_G} {L : Nat} {xs wd : Nat → Int32} {ls : Array Slot} {stk : List Value} {M : jm_M}
set_option maxHeartbeats 8000000 in
set_option maxRecDepth 100000 in
theorem jm_sound_heap {j pc n pc' : Nat} {i : Instr} {stk' : List Value} {M1 : jm_M} (hx : p.tables.exec = Jvm.exec) (hb : c.code = jm_code j) (hml : c.maxLocals = ls.size) (hown : s.vm.findClass (jm_cnm (jm_own j)) = some m.cls) (hnm : (jm_y j).name = "<init>" → meth.name = "<init>") (hts : ∀ w ∈ jm_Tb, w.before args s = true) (hG : jm_G base bS bW K D L xs wd s) (hM : jm_ok L xs wd M) (hP : va_P D vwCl (jm_w (jm_ad base bS bW) K M) H) (hS : va_S (fun q => base ≤ q) s.heap H locs) (hcn : s.heap.size + cells = base + M.1.length) (hR : 1 ≤ R.frames ∧ 40 ≤ R.locals)
    (hdec : decode (jm_code j) pc = .ok (i, n)) (hn : n = jm_len i ∨ jm_len i = 0) (h : jm_heap j pc i stk M = some (pc', stk', M1)) :
    jm_kp M M1 ∧ (cells + (M1.1.length - M.1.length) ≤ R.cells → slots + (jm_tot M1 - jm_tot M) ≤ R.slots →
    (∀ (H1 : Heap) (locs1 : List Loc), va_P D vwCl (jm_w (jm_ad base bS bW) K M1) H1 → va_S (fun q => base ≤ q) s.heap H1 locs1 → W p l e R s m args below meth c H1 locs1 (cells + (M1.1.length - M.1.length)) (slots + (jm_tot M1 - jm_tot M)) Q (F0 m pc' ls (stk'.map (jm_tr (jm_ad base bS bW))))) →
    W p l e R s m args below meth c H locs cells slots Q (F0 m pc ls (stk.map (jm_tr (jm_ad base bS bW))))) := by
  have hMl := hM.1
  cases i
  all_goals (first | (simp only [jm_heap] at h; cases h; done) | skip)
  all_goals (first | (obtain hn | hn := hn <;> first | (subst hn; skip) | (exfalso; simp [jm_len] at hn; done)) | skip)
  case getfield x =>
    simp only [jm_heap] at h
    split at h
    · rename_i cc k pp hf
      split at h
      · rename_i o st
        obtain ⟨v, hv, hq⟩ := Option.map_eq_some_iff.mp h
        cases hq
        refine ⟨jm_kp.rf hMl, fun _ _ kk => ?_⟩
        rw [Nat.sub_self, Nat.sub_self] at kk
        exact jm_s_getfield hx hb hown hts hG hP hdec hf hv (kk H locs hP hS)
      · cases h
    · cases h
  case putfield x =>
    simp only [jm_heap] at h
    split at h
    · rename_i cc k pp hf
      split at h
      · rename_i v o st
        split at h
        · rename_i hq
          cases h
          obtain ⟨rs, hrs⟩ := Option.isSome_iff_exists.mp hq.1
          obtain ⟨-, n, ho⟩ := jm_ob_inv hrs
          refine ⟨jm_kp_row hMl ho, fun _ _ kk => ?_⟩
          exact jm_s_putI hx hb hown hts hG hMl hP hS hdec hf hrs hq.2 (fun H1 locs1 h1 h2 => by
            have := kk H1 locs1 h1 h2
            have e1 : jm_tot (M.1, jm_upd M.2.1 o k v, M.2.2) = jm_tot M := rfl
            rw [e1] at this
            rw [Nat.sub_self, Nat.sub_self] at this
            exact this)
        · cases h
      · rename_i r o st
        split at h
        · rename_i c' n rs ho
          split at h
          · rename_i hq
            cases h
            obtain ⟨h1, h2, h3, h4, h5, h6, h7⟩ := hq
            subst h1
            have et : jm_tot (M.1.set o (c', n, rs.set k (some r)), M.2) = jm_tot M := jm_tot_set ho
            refine ⟨⟨rfl, rfl, rfl, by rw [List.length_set]; exact Nat.le_refl _, by rw [List.length_set]; exact hMl, by rw [et]; exact Nat.le_refl _⟩, fun _ _ kk => ?_⟩
            exact jm_s_putR hx hb hown hnm hts hG hMl hP hS hdec hf ho h2 h3 h4 h5 h6 h7 (fun H1 locs1 q1 q2 => by
              have := kk H1 locs1 q1 q2
              rw [et, List.length_set, Nat.sub_self, Nat.sub_self] at this
              exact this)
          · cases h
        · cases h
      · cases h
    · cases h
  case getstatic x =>
    simp only [jm_heap] at h
    split at h
    · rename_i hq
      cases h
      obtain ⟨pp, hpp⟩ := Option.isSome_iff_exists.mp hq
      have hlk : Cond.fieldLink (jm_cnm (jm_own j)) x "JingleLaws" "WIDER" "[I" ∈ jm_Tb := jm_at_mem (List.all_eq_true.mp jm_gok _ (jm_lk hpp))
      refine ⟨jm_kp.rf hMl, fun _ _ kk => ?_⟩
      rw [Nat.sub_self, Nat.sub_self] at kk
      exact va_gets hx hb hG.2.2.1 hS hown (hts _ hlk) (fun _ q => q) hdec (kk H locs hP hS)
    · cases h
  case iaload =>
    simp only [jm_heap] at h
    split at h
    · split at h
      · rename_i n' hl
        split at h
        · rename_i hi
          cases h
          refine ⟨jm_kp.rf hMl, fun _ _ kk => ?_⟩
          rw [Nat.sub_self, Nat.sub_self] at kk
          exact jm_s_iaload hx hb hG hM hP hS hdec hl hi (kk H locs hP hS)
        · cases h
      · cases h
    · cases h
  case iastore =>
    simp only [jm_heap] at h
    split at h
    · split at h
      · rename_i n' hl
        split at h
        · rename_i hi
          cases h
          obtain ⟨rs, hq⟩ := jm_wl_inv hl
          refine ⟨jm_kp_row hMl hq, fun _ _ kk => ?_⟩
          exact jm_s_iastore hx hb hG hMl hP hS hdec hl hi (fun H1 locs1 h1 h2 => by
            have := kk H1 locs1 h1 h2
            rw [show jm_tot (M.1, jm_upd M.2.1 _ _ _, M.2.2) = jm_tot M from rfl, Nat.sub_self, Nat.sub_self] at this
            exact this)
        · cases h
      · cases h
    · cases h
  case baload =>
    simp only [jm_heap] at h
    split at h
    · split at h
      · rename_i n' hl
        split at h
        · rename_i hi
          cases h
          refine ⟨jm_kp.rf hMl, fun _ _ kk => ?_⟩
          rw [Nat.sub_self, Nat.sub_self] at kk
          exact jm_s_baload hx hb hG hP hdec hl hi (kk H locs hP hS)
        · cases h
      · cases h
    · cases h
  case bastore =>
    simp only [jm_heap] at h
    split at h
    · split at h
      · rename_i n' hl
        split at h
        · rename_i hi
          cases h
          obtain ⟨rs, hq⟩ := jm_wl_inv hl
          refine ⟨jm_kp_row hMl hq, fun _ _ kk => ?_⟩
          exact jm_s_bastore hx hb hG hMl hP hS hdec hl hi (fun H1 locs1 h1 h2 => by
            have := kk H1 locs1 h1 h2
            rw [show jm_tot (M.1, jm_upd M.2.1 _ _ _, M.2.2) = jm_tot M from rfl, Nat.sub_self, Nat.sub_self] at this
            exact this)
        · cases h
      · cases h
    · cases h
  case aaload =>
    simp only [jm_heap] at h
    split at h
    · split at h
      · rename_i cc n' rs hq
        split at h
        · rename_i hc
          split at h
          · rename_i r hr
            cases h
            refine ⟨jm_kp.rf hMl, fun _ _ kk => ?_⟩
            rw [Nat.sub_self, Nat.sub_self] at kk
            exact jm_s_aaload hx hb hG hP hdec hq hc.1 hc.2 hr (kk H locs hP hS)
          · cases h
        · cases h
      · cases h
    · cases h
  case aastore =>
    simp only [jm_heap] at h
    split at h
    · split at h
      · rename_i cc n' rs hq
        split at h
        · rename_i hc
          cases h
          obtain ⟨h1, h2, h3, h4⟩ := hc
          subst h1
          obtain ⟨rv, hrv⟩ := Option.isSome_iff_exists.mp h4
          have et : ∀ q, jm_tot (M.1.set _ (11, n', q), M.2) = jm_tot M := fun q => jm_tot_set hq
          refine ⟨⟨rfl, rfl, rfl, by rw [List.length_set]; exact Nat.le_refl _, by rw [List.length_set]; exact hMl, by rw [et]; exact Nat.le_refl _⟩, fun _ _ kk => ?_⟩
          exact jm_s_aastore hx hb hG hMl hP hS hdec hq h2 h3 hrv (fun H1 locs1 q1 q2 => by
            have := kk H1 locs1 q1 q2
            rw [et, List.length_set, Nat.sub_self, Nat.sub_self] at this
            exact this)
        · cases h
      · cases h
    · cases h
  case arraylength =>
    simp only [jm_heap] at h
    split at h
    · obtain ⟨n', hl, hq⟩ := Option.map_eq_some_iff.mp h
      cases hq
      refine ⟨jm_kp.rf hMl, fun _ _ kk => ?_⟩
      rw [Nat.sub_self, Nat.sub_self] at kk
      exact jm_s_alen hx hb hG hM hP hS hdec hl (kk H locs hP hS)
    · cases h
  case new x =>
    simp only [jm_heap] at h
    split at h
    · rename_i cc pp hcl
      split at h
      · rename_i hq
        cases h
        refine ⟨jm_kp_app [_] (by show M.1.length + 1 ≤ jx_S; omega), fun hc1 hc2 kk => ?_⟩
        dsimp only at hc1 kk
        rw [List.length_append] at hc1
        rw [jm_tot_app] at hc2
        have e1 : M.1.length + [(cc, jm_N cc, List.replicate (jm_N cc) (none : Option Nat))].length - M.1.length = 1 := by show M.1.length + 1 - M.1.length = 1; omega
        have e2 : jm_tot M + ([(cc, jm_N cc, List.replicate (jm_N cc) (none : Option Nat))].map (fun q => q.2.1)).sum - jm_tot M = jm_N cc := by show jm_tot M + (jm_N cc + 0) - jm_tot M = _; omega
        rw [e1] at hc1
        rw [e2] at hc2
        exact jm_s_new hx hb hown hts hG hq.2 hP hS hcn hdec hcl hq.1 hc1 hc2 (fun H1 q1 q2 => by
          have := kk H1 locs q1 q2
          rw [jm_tot_app, List.length_append, e1, e2] at this
          exact this)
      · cases h
    · cases h
  case newarray t =>
    simp only [jm_heap] at h
    split at h
    · rename_i nn st
      split at h
      · rename_i hq
        cases h
        refine ⟨jm_kp_app [_] (by show M.1.length + 1 ≤ jx_S; omega), fun hc1 hc2 kk => ?_⟩
        dsimp only at hc1 kk
        rw [List.length_append] at hc1
        rw [jm_tot_app] at hc2
        have e1 : ∀ q : jm_C, M.1.length + [q].length - M.1.length = 1 := fun q => by show M.1.length + 1 - M.1.length = 1; omega
        have e2 : ∀ z : Nat, jm_tot M + ([(z, nn.toNatClampNeg, ([] : List (Option Nat)))].map (fun q => q.2.1)).sum - jm_tot M = nn.toNatClampNeg := fun z => by show jm_tot M + (nn.toNatClampNeg + 0) - jm_tot M = _; omega
        rw [e1] at hc1
        rw [e2] at hc2
        exact jm_s_newa hx hb hts hG hq.2.2.2 hP hS hcn hdec hq.1 hq.2.1 hq.2.2.1 hc1 hc2 (fun H1 q1 q2 => by
          have := kk H1 locs q1 q2
          rw [jm_tot_app, List.length_append, e1, e2] at this
          exact this)
      · cases h
    · cases h
  case anewarray x =>
    simp only [jm_heap] at h
    split at h
    · rename_i nn st
      split at h
      · rename_i hq
        cases h
        obtain ⟨⟨c2, pp⟩, hcl, hc2'⟩ := Option.map_eq_some_iff.mp hq.1
        have hc2' : c2 = 2 := hc2'
        subst hc2'
        refine ⟨jm_kp_app [_] (by show M.1.length + 1 ≤ jx_S; omega), fun hc1 hc2 kk => ?_⟩
        dsimp only at hc1 kk
        rw [List.length_append] at hc1
        rw [jm_tot_app] at hc2
        have e1 : ∀ q : jm_C, M.1.length + [q].length - M.1.length = 1 := fun q => by show M.1.length + 1 - M.1.length = 1; omega
        have e2 : ∀ (z : Nat) (u : List (Option Nat)), jm_tot M + ([(z, nn.toNatClampNeg, u)].map (fun q => q.2.1)).sum - jm_tot M = nn.toNatClampNeg := fun z u => by show jm_tot M + (nn.toNatClampNeg + 0) - jm_tot M = _; omega
        rw [e1] at hc1
        rw [e2] at hc2
        exact jm_s_newq hx hb hown hts hG hq.2.2.2 hP hS hcn hdec hcl hq.2.1 hq.2.2.1 hc1 hc2 (fun H1 q1 q2 => by
          have := kk H1 locs q1 q2
          rw [jm_tot_app, List.length_append, e1, e2] at this
          exact this)
      · cases h
    · cases h
  case multianewarray x dm =>
    simp only [jm_heap] at h
    split at h
    · rename_i kx nn st
      split at h
      · rename_i hq
        cases h
        obtain ⟨hd, hcl0, q1, q2, q3, q4, q5⟩ := hq
        subst hd
        obtain ⟨⟨c2, pp⟩, hcl, hc2'⟩ := Option.map_eq_some_iff.mp hcl0
        have hc2' : c2 = 12 := hc2'
        subst hc2'
        refine ⟨jm_kp_app _ (by rw [List.length_cons, List.length_replicate]; omega), fun hc1 hc2 kk => ?_⟩
        have e1 : (M.1 ++ ((12, nn.toNatClampNeg, (List.range nn.toNatClampNeg).map (fun i => some (M.1.length + 1 + i))) :: List.replicate nn.toNatClampNeg (9, kx.toNatClampNeg, []))).length - M.1.length = 1 + nn.toNatClampNeg := by
          rw [List.length_append, List.length_cons, List.length_replicate]; omega
        have e2 : jm_tot (M.1 ++ ((12, nn.toNatClampNeg, (List.range nn.toNatClampNeg).map (fun i => some (M.1.length + 1 + i))) :: List.replicate nn.toNatClampNeg (9, kx.toNatClampNeg, [])), jm_zero M.2.1 M.1.length, M.2.2) - jm_tot M = nn.toNatClampNeg + nn.toNatClampNeg * kx.toNatClampNeg := by
          rw [jm_tot_app, List.map_cons, List.map_replicate, List.sum_cons, List.sum_replicate_nat]
          show jm_tot M + (nn.toNatClampNeg + nn.toNatClampNeg * kx.toNatClampNeg) - jm_tot M = _
          rw [Nat.add_sub_cancel_left]
        rw [e1] at hc1
        rw [e2] at hc2
        exact jm_s_mna hx hb hown hts hG hP hS hcn hdec hcl q1 q2 q3 q4 q5 hc1 hc2 (fun H1 z1 z2 => by
          have := kk H1 locs z1 z2
          rw [e1, e2] at this
          exact this)
      · cases h
    · cases h
  case invokestatic x =>
    simp only [jm_heap] at h
    split at h
    · rename_i hq
      obtain ⟨pp, hpp⟩ := Option.isSome_iff_exists.mp hq
      split at h
      · split at h
        · rename_i nb na hnb hna
          split at h
          · rename_i h6
            cases h
            obtain ⟨z1, z2, z3, z4, z5, z6⟩ := h6
            obtain ⟨rs, hqa⟩ := jm_wl_inv hna
            refine ⟨jm_kp_row hMl hqa, fun _ _ kk => ?_⟩
            exact jm_s_copy hx hb hml hown hts hG hMl hP hS hR hdec hpp hnb hna z1 z2 z3 z4 z5 (by rw [List.map_map, show (fun v : Value => v.category) ∘ jm_tr (jm_ad base bS bW) = fun v => v.category from funext (fun v => jm_tr_cat _ v)]; exact z6) (fun H1 locs1 h1 h2 => by
              have := kk H1 locs1 h1 h2
              rw [show jm_tot (M.1, jm_row M.2.1 _ _, M.2.2) = jm_tot M from rfl, Nat.sub_self, Nat.sub_self] at this
              exact this)
          · cases h
        · cases h
      · cases h
    · split at h
      · rename_i hq
        obtain ⟨pp, hpp⟩ := Option.isSome_iff_exists.mp hq
        split at h
        · split at h
          · rename_i z6
            cases h
            refine ⟨jm_kp.rf hMl, fun hc1 hc2 kk => ?_⟩
            rw [Nat.sub_self, Nat.sub_self] at kk
            have hlk : Cond.methodLink (jm_cnm (jm_own j)) x Lib.Math.max.name ∈ jm_Tb := jm_at_mem (List.all_eq_true.mp jm_mxok _ (jm_lk hpp))
            have hyo := jm_y_ok
            exact va_mmax hx hb hml hown (hts _ hlk) (hts _ hyo.1) (hts _ hyo.2.2.1) (hts _ hyo.2.2.2.1) hR.1 (by rw [List.map_map, show (fun v : Value => v.category) ∘ jm_tr (jm_ad base bS bW) = fun v => v.category from funext (fun v => jm_tr_cat _ v)]; unfold jm_cs at z6; omega) (by omega) (by omega) hdec (kk H locs hP hS)
          · cases h
        · cases h
      · split at h
        · rename_i hq
          obtain ⟨pp, hpp⟩ := Option.isSome_iff_exists.mp hq
          split at h
          · split at h
            · rename_i z6
              cases h
              refine ⟨jm_kp.rf hMl, fun hc1 hc2 kk => ?_⟩
              rw [Nat.sub_self, Nat.sub_self] at kk
              have hlk : Cond.methodLink (jm_cnm (jm_own j)) x Lib.Math.min.name ∈ jm_Tb := jm_at_mem (List.all_eq_true.mp jm_mnok _ (jm_lk hpp))
              have hyo := jm_y_ok
              exact va_mmin hx hb hml hown (hts _ hlk) (hts _ hyo.2.1) (hts _ hyo.2.2.1) (hts _ hyo.2.2.2.2) hR.1 (by rw [List.map_map, show (fun v : Value => v.category) ∘ jm_tr (jm_ad base bS bW) = fun v => v.category from funext (fun v => jm_tr_cat _ v)]; unfold jm_cs at z6; omega) (by omega) (by omega) hdec (kk H locs hP hS)
            · cases h
          · cases h
        · cases h
  case invokespecial x =>
    simp only [jm_heap] at h
    split at h
    · rename_i hq
      obtain ⟨pp, hpp⟩ := Option.isSome_iff_exists.mp hq
      split at h
      · split at h
        · rename_i z6
          cases h
          refine ⟨jm_kp.rf hMl, fun _ _ kk => ?_⟩
          rw [Nat.sub_self, Nat.sub_self] at kk
          exact jm_s_objInit hx hb hml hown hts hR hdec hpp (by rw [List.map_map, show (fun v : Value => v.category) ∘ jm_tr (jm_ad base bS bW) = fun v => v.category from funext (fun v => jm_tr_cat _ v)]; exact z6) (kk H locs hP hS)
        · cases h
      · cases h
    · cases h
end JML
