section JMJ
variable {p : Program} {l : Launch} {e : Env} {R : Room} {s : State} {m : MethodId} {args : Array Value} {below : List Frame} {meth : Method} {c : Code} {H : Heap} {locs : List Loc} {cells slots : Nat} {Q : State → Prop}
variable {base bS bW : Nat} {K : jm_K} {D : va_G} {L : Nat} {xs wd : Nat → Int32} {ls : Array Slot} {stk : List Value} {M : jm_M}
theorem jm_s_alen {j pc : Nat} (hx : p.tables.exec = Jvm.exec) (hb : c.code = jm_code j) (hG : jm_G base bS bW K D L xs wd s) (hM : jm_ok L xs wd M) (hP : va_P D vwCl (jm_w (jm_ad base bS bW) K M) H) (hS : va_S (fun q => base ≤ q) s.heap H locs) (hdec : decode (jm_code j) pc = .ok (.arraylength, 1))
    {a n : Nat} {st : List Value} (hl : jm_ln M a = some n)
    (kk : W p l e R s m args below meth c H locs cells slots Q (F0 m (pc + 1) ls (.int (Int32.ofNat n) :: st))) : W p l e R s m args below meth c H locs cells slots Q (F0 m pc ls (.ref (jm_ad base bS bW a) :: st)) := by
  unfold jm_ln at hl
  obtain ⟨g1, g2, g3, g4, g5, g6, -⟩ := hG
  by_cases e1 : a = jx_S
  · subst e1
    rw [if_pos rfl, hM.2.2.2, if_neg (Nat.succ_ne_zero L), Nat.add_sub_cancel] at hl
    cases hl
    have e : jm_ad base bS bW jx_S = bS := rfl
    rw [e]
    exact va_slen hx hb g2 (by omega) (by show ¬ base ≤ bS; omega) hS hdec kk
  · rw [if_neg e1] at hl
    by_cases e2 : a = jx_W
    · subst e2
      rw [if_pos rfl] at hl
      cases hl
      have e : jm_ad base bS bW jx_W = bW := rfl
      rw [e]
      exact va_tlen hx hb g4 hS rfl hdec kk
    · rw [if_neg e2] at hl
      cases hq : M.1[a]? with
      | none => rw [hq] at hl; cases hl
      | some q =>
        obtain ⟨c', n', rs⟩ := q
        rw [hq] at hl
        dsimp only at hl
        by_cases e9 : 9 ≤ c' ∧ c' ≤ 12
        · rw [if_pos e9] at hl
          cases hl
          rcases (show c' = 9 ∨ c' = 10 ∨ c' = 11 ∨ c' = 12 by omega) with rfl | rfl | rfl | rfl
          · exact va_alen hx hb g1 hP a 0 (by rw [jm_w_at hq, jm_e_9]) (ty := .int) rfl rfl hdec kk
          · exact va_alen hx hb g1 hP a 1 (by rw [jm_w_at hq, jm_e_10]) (ty := .boolean) rfl rfl hdec kk
          · exact va_alen hx hb g1 hP a 2 (by rw [jm_w_at hq, jm_e_11]) (ty := .object "JingleLaws$Camp") rfl rfl hdec kk
          · exact va_alen hx hb g1 hP a 3 (by rw [jm_w_at hq, jm_e_12]) (ty := .array .int) rfl rfl hdec kk
        · rw [if_neg e9] at hl
          cases hl
theorem jm_s_copy {j pc x : Nat} (hx : p.tables.exec = Jvm.exec) (hb : c.code = jm_code j) (hml : c.maxLocals = ls.size) (hown : s.vm.findClass (jm_cnm (jm_own j)) = some m.cls) (hts : ∀ w ∈ jm_Tb, w.before args s = true) (hG : jm_G base bS bW K D L xs wd s) (hM : M.1.length ≤ jx_S) (hP : va_P D vwCl (jm_w (jm_ad base bS bW) K M) H) (hS : va_S (fun q => base ≤ q) s.heap H locs) (hR : 1 ≤ R.frames ∧ 40 ≤ R.locals) (hdec : decode (jm_code j) pc = .ok (.invokestatic x, 3))
    {a b na nb pp : Nat} {n dp sp : Int32} {st : List Value} (hcp : jm_cpT.lookup (jm_own j, x) = some pp) (hb' : jm_wl M b 9 = some nb) (ha : jm_wl M a 9 = some na) (h1 : ¬ sp < 0) (h2 : ¬ dp < 0) (h3 : ¬ n < 0) (h4 : sp.toNatClampNeg + n.toNatClampNeg ≤ nb) (h5 : dp.toNatClampNeg + n.toNatClampNeg ≤ na) (hcs : (st.map fun v => v.category).sum ≤ 8)
    (kk : ∀ (H1 : Heap) (locs1 : List Loc), va_P D vwCl (jm_w (jm_ad base bS bW) K (M.1, jm_row M.2.1 a (va_cpy (M.2.1 b) (M.2.1 a) sp.toNatClampNeg dp.toNatClampNeg n.toNatClampNeg), M.2.2)) H1 → va_S (fun q => base ≤ q) s.heap H1 locs1 → W p l e R s m args below meth c H1 locs1 cells slots Q (F0 m (pc + 3) ls st)) : W p l e R s m args below meth c H locs cells slots Q (F0 m pc ls (.int n :: .int dp :: .ref (jm_ad base bS bW a) :: .int sp :: .ref (jm_ad base bS bW b) :: st)) := by
  obtain ⟨rb, hqb⟩ := jm_wl_inv hb'
  obtain ⟨ra, hqa⟩ := jm_wl_inv ha
  have hlk : Cond.methodLink (jm_cnm (jm_own j)) x arraycopyName ∈ jm_Tb := jm_at_mem (List.all_eq_true.mp jm_cpok _ (jm_lk hcp))
  have hxo := jm_x_ok
  have hnf : (st.map fun v => v.category).sum + (nativeFrameWords "java/lang/System" "arraycopy" 5 + 11) ≤ R.locals := by
    have h7 : nativeFrameWords "java/lang/System" "arraycopy" 5 = 7 := by decide
    rw [h7]
    omega
  refine va_copyi hx hb hml hown (hts _ hlk) (hts _ hxo.1) (hts _ hxo.2.1) (hts _ hxo.2.2.1) hG.1 hP (jm_w_D hM) hS b a 0 0 (by rw [jm_w_at hqb, jm_e_9]) (by rw [jm_w_at hqa, jm_e_9]) (ty := .int) rfl rfl rfl h1 h2 h3 h4 h5 (fun i _ => rfl) hR.1 hnf hdec (fun H1 locs1 hP1 _ hS1 => kk H1 locs1 ?_ hS1)
  rw [← jm_e_9 (ad := jm_ad base bS bW) (rs := ra), jm_w_set (9, na, ra) hqa, jm_set_self hqa] at hP1
  exact hP1
theorem jm_s_objInit {j pc x : Nat} (hx : p.tables.exec = Jvm.exec) (hb : c.code = jm_code j) (hml : c.maxLocals = ls.size) (hown : s.vm.findClass (jm_cnm (jm_own j)) = some m.cls) (hts : ∀ w ∈ jm_Tb, w.before args s = true) (hR : 1 ≤ R.frames ∧ 40 ≤ R.locals) (hdec : decode (jm_code j) pc = .ok (.invokespecial x, 3))
    {a pp : Nat} {st : List Value} (hoi : jm_oiT.lookup (jm_own j, x) = some pp) (hcs : (st.map fun v => v.category).sum ≤ 8)
    (kk : W p l e R s m args below meth c H locs cells slots Q (F0 m (pc + 3) ls st)) : W p l e R s m args below meth c H locs cells slots Q (F0 m pc ls (.ref a :: st)) := by
  have hlk : Cond.methodLink (jm_cnm (jm_own j)) x objectInit ∈ jm_Tb := jm_at_mem (List.all_eq_true.mp jm_oiok _ (jm_lk hoi))
  have hxo := jm_x_ok
  exact W.objInit hx hb hown (hts _ hlk) (hts _ hxo.2.2.2.1) (hts _ hxo.2.2.2.2.2.2) (g := F0 m pc ls (.ref a :: st)) rfl hml.symm rfl hdec hR.1 (by have := lv_room (m := m) (pc := pc) (ls := ls) (rest := .ref a :: st) hcs; omega) kk
theorem jm_pin {T : State} {q : Nat} {v : va_E} {H1 : Heap} {locs1 : List Loc} {cells1 slots1 : Nat} (X : Stand p l e R s m args below meth c T locs1 cells1 slots1) (hT : T.heap = H1) (hM : M.1.length ≤ jx_S) (hP : va_P D vwCl (jm_w (jm_ad base bS bW) K M ++ [(q, v)]) H1) (hD : va_D (fun q => base ≤ q) (jm_w (jm_ad base bS bW) K M ++ [(q, v)])) (hcn : s.heap.size + cells1 = base + M.1.length + 1) : q = base + M.1.length := by
  have hlen : (jm_w (jm_ad base bS bW) K M).length = M.1.length := by unfold jm_w; rw [List.length_mapIdx]
  have hq : (jm_w (jm_ad base bS bW) K M ++ [(q, v)])[M.1.length]? = some (q, v) := by
    rw [List.getElem?_append_right (by omega), hlen, Nat.sub_self]; rfl
  have h1 := (hP _ _ hq).lt
  have h1 : q < H1.size := h1
  have h2 := X.heapSize
  rw [hT] at h2
  have h3 : base ≤ q := hD.2 _ _ hq
  by_cases e : q = base + M.1.length
  · exact e
  · exfalso
    have hl : q - base < M.1.length := by omega
    have hq2 : M.1[q - base]? = some (M.1[q - base]'hl) := List.getElem?_eq_getElem hl
    have hw := jm_w_at (ad := jm_ad base bS bW) (K := K) hq2
    have hw2 : (jm_w (jm_ad base bS bW) K M ++ [(q, v)])[q - base]? = some (jm_ad base bS bW (q - base), jm_e (jm_ad base bS bW) K (M.2.1 (q - base)) (M.1[q - base]'hl)) := by
      rw [List.getElem?_append_left (by omega)]; exact hw
    have := hD.1 _ _ _ _ hw2 hq (by show jm_ad base bS bW (q - base) = q; rw [jm_ad_lt (by omega)]; omega)
    omega
theorem jm_w_push {q : Nat} {v : va_E} {cs : jm_C} (hM : M.1.length < jx_S) (hq : q = base + M.1.length) (hv : v = jm_e (jm_ad base bS bW) K (fun _ => 0) cs) : jm_w (jm_ad base bS bW) K M ++ [(q, v)] = jm_w (jm_ad base bS bW) K (M.1 ++ [cs], jm_zero M.2.1 M.1.length, M.2.2) := by
  rw [jm_w_app [cs] (by show M.1.length + 1 ≤ jx_S; omega)]
  congr 1
  show [(q, v)] = [(jm_ad base bS bW (M.1.length + 0), jm_e (jm_ad base bS bW) K (fun _ => 0) cs)]
  rw [Nat.add_zero, jm_ad_lt hM, hq, hv]
theorem jm_defs {c : Nat} (hc : c < 9) : ∀ k, k < jm_N c → defaultValue (jm_ty c k) = vp_V ((List.range (jm_N c)).map (jm_fv (jm_ad base bS bW) (fun _ => 0) c (List.replicate (jm_N c) none))) k := by
  intro k hk
  unfold vp_V
  rw [List.getD_eq_getElem?_getD, jm_rm _ _ _ hk]
  rw [Option.getD_some]
  unfold jm_fv
  by_cases hi : jm_isI c k = true
  · rw [if_pos hi, (jm_tyI hc hk hi).1]; rfl
  · have hi' : jm_isI c k = false := by simpa using hi
    rw [if_neg hi, (jm_rk_fit (jm_tyR hc hk hi').2.2 0).2.2, List.getD_eq_getElem?_getD, List.getElem?_replicate]
    rw [if_pos hk]; rfl
theorem jm_s_new {j pc x : Nat} (hx : p.tables.exec = Jvm.exec) (hb : c.code = jm_code j) (hown : s.vm.findClass (jm_cnm (jm_own j)) = some m.cls) (hts : ∀ w ∈ jm_Tb, w.before args s = true) (hG : jm_G base bS bW K D L xs wd s) (hM : M.1.length < jx_S) (hP : va_P D vwCl (jm_w (jm_ad base bS bW) K M) H) (hS : va_S (fun q => base ≤ q) s.heap H locs) (hcn : s.heap.size + cells = base + M.1.length) (hdec : decode (jm_code j) pc = .ok (.new x, 3))
    {cc pp : Nat} {st : List Value} (hcl : jm_cT.lookup (jm_own j, x) = some (cc, pp)) (hc : cc < 9) (h1 : cells + 1 ≤ R.cells) (h2 : slots + jm_N cc ≤ R.slots)
    (kk : ∀ (H1 : Heap), va_P D vwCl (jm_w (jm_ad base bS bW) K (M.1 ++ [(cc, jm_N cc, List.replicate (jm_N cc) none)], jm_zero M.2.1 M.1.length, M.2.2)) H1 → va_S (fun q => base ≤ q) s.heap H1 locs → W p l e R s m args below meth c H1 locs (cells + 1) (slots + jm_N cc) Q (F0 m (pc + 3) ls (.ref (jm_ad base bS bW M.1.length) :: st))) : W p l e R s m args below meth c H locs cells slots Q (F0 m pc ls st) := by
  have hlk := jm_at_mem (List.all_eq_true.mp jm_cok _ (jm_lk hcl))
  have hlk : Cond.classLink (jm_cnm (jm_own j)) x (if cc = 12 then "[[I" else jm_cnm cc) ∈ jm_Tb := hlk
  rw [if_neg (by omega)] at hlk
  have hip := List.all_eq_true.mp jm_ipck cc (List.mem_range.mpr hc)
  rw [Bool.and_eq_true] at hip
  refine va_new (D := D) (cl := vwCl) (tys := jm_tys K) (A := fun q => base ≤ q) (C := jm_cnm cc) (T := jm_T cc) (N := jm_N cc) (ci := cc) hx hb hts (jm_lays hc) (jm_ty cc) (jm_tyok hc) hown (hts _ hlk) (hts _ (jm_at_mem hip.1)) (hts _ (jm_at_mem hip.2)) hG.1 hP (jm_w_D (by omega)) hS (fun q h => Nat.le_trans hG.2.2.2.2.2.1 h) (jm_clok cc hc) (jm_defs (bS := bS) (bW := bW) (base := base) hc) h1 h2 hdec (fun q H1 hP1 hD1 hS1 => ?_)
  intro T hT X
  have e := jm_pin X hT (by omega) hP1 hD1 (by omega)
  rw [jm_w_push (cs := (cc, jm_N cc, List.replicate (jm_N cc) none)) hM e (jm_e_ob hc).symm] at hP1
  have k2 := kk H1 hP1 hS1
  rw [jm_ad_lt hM, ← e] at k2
  exact k2 T hT X
end JMJ
