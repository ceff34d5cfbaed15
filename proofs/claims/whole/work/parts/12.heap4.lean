section JMK
variable {p : Program} {l : Launch} {e : Env} {R : Room} {s : State} {m : MethodId} {args : Array Value} {below : List Frame} {meth : Method} {c : Code} {H : Heap} {locs : List Loc} {cells slots : Nat} {Q : State → Prop}
variable {base bS bW : Nat} {K : jm_K} {D : va_G} {L : Nat} {xs wd : Nat → Int32} {ls : Array Slot} {stk : List Value} {M : jm_M}
theorem jm_s_newa {j pc : Nat} {t : ArrayType} (hx : p.tables.exec = Jvm.exec) (hb : c.code = jm_code j) (hts : ∀ w ∈ jm_Tb, w.before args s = true) (hG : jm_G base bS bW K D L xs wd s) (hM : M.1.length < jx_S) (hP : va_P D vwCl (jm_w (jm_ad base bS bW) K M) H) (hS : va_S (fun q => base ≤ q) s.heap H locs) (hcn : s.heap.size + cells = base + M.1.length) (hdec : decode (jm_code j) pc = .ok (.newarray t, 2))
    {n : Int32} {st : List Value} (ht : t = .int ∨ t = .boolean) (hn : ¬ n < 0) (hle : n.toNatClampNeg ≤ 100000) (h1 : cells + 1 ≤ R.cells) (h2 : slots + n.toNatClampNeg ≤ R.slots)
    (kk : ∀ (H1 : Heap), va_P D vwCl (jm_w (jm_ad base bS bW) K (M.1 ++ [(if t = .int then 9 else 10, n.toNatClampNeg, [])], jm_zero M.2.1 M.1.length, M.2.2)) H1 → va_S (fun q => base ≤ q) s.heap H1 locs → W p l e R s m args below meth c H1 locs (cells + 1) (slots + n.toNatClampNeg) Q (F0 m (pc + 2) ls (.ref (jm_ad base bS bW M.1.length) :: st))) : W p l e R s m args below meth c H locs cells slots Q (F0 m pc ls (.int n :: st)) := by
  have hxo := jm_x_ok
  have hA : ∀ q, s.heap.size ≤ q → base ≤ q := fun q h => Nat.le_trans hG.2.2.2.2.2.1 h
  rcases ht with rfl | rfl
  · refine va_newa (D := D) (cl := vwCl) (tys := jm_tys K) (A := fun q => base ≤ q) (a0 := (n.toNatClampNeg, .inl (fun _ => 0))) (atype := .int) (ty := .int) hx hb (hts _ hxo.2.2.2.2.1) rfl hG.1 hP (jm_w_D (by omega)) hS hA (fun cA => rfl) hn rfl (by show n.toNatClampNeg * 4 ≤ _; omega) h1 h2 hdec (fun q cA H1 hK1 hP1 hD1 hS1 => ?_)
    intro T hT X
    have ecA : cA = K.1 := jm_cls_I (k := 0) hK1 rfl (Or.inl rfl)
    subst ecA
    have e := jm_pin X hT (by omega) hP1 hD1 (by omega)
    rw [jm_w_push (v := .inl (K.1, n.toNatClampNeg, .inl (fun _ => 0))) (cs := (9, n.toNatClampNeg, [])) hM e rfl] at hP1
    have k2 := kk H1 hP1 hS1
    rw [jm_ad_lt hM, ← e] at k2
    exact k2 T hT X
  · refine va_newa (D := D) (cl := vwCl) (tys := jm_tys K) (A := fun q => base ≤ q) (a0 := (n.toNatClampNeg, .inl (fun _ => 0))) (atype := .boolean) (ty := .boolean) hx hb (hts _ hxo.2.2.2.2.2.1) rfl hG.1 hP (jm_w_D (by omega)) hS hA (fun cA => rfl) hn rfl (by show n.toNatClampNeg * 1 ≤ _; omega) h1 h2 hdec (fun q cA H1 hK1 hP1 hD1 hS1 => ?_)
    intro T hT X
    have ecA : cA = K.2.1 := jm_cls_I (k := 1) hK1 rfl (Or.inr (Or.inl rfl))
    subst ecA
    have e := jm_pin X hT (by omega) hP1 hD1 (by omega)
    rw [jm_w_push (v := .inl (K.2.1, n.toNatClampNeg, .inl (fun _ => 0))) (cs := (10, n.toNatClampNeg, [])) hM e rfl] at hP1
    have k2 := kk H1 hP1 hS1
    rw [jm_ad_lt hM, ← e] at k2
    exact k2 T hT X
theorem jm_s_newq {j pc x : Nat} (hx : p.tables.exec = Jvm.exec) (hb : c.code = jm_code j) (hown : s.vm.findClass (jm_cnm (jm_own j)) = some m.cls) (hts : ∀ w ∈ jm_Tb, w.before args s = true) (hG : jm_G base bS bW K D L xs wd s) (hM : M.1.length < jx_S) (hP : va_P D vwCl (jm_w (jm_ad base bS bW) K M) H) (hS : va_S (fun q => base ≤ q) s.heap H locs) (hcn : s.heap.size + cells = base + M.1.length) (hdec : decode (jm_code j) pc = .ok (.anewarray x, 3))
    {n : Int32} {pp : Nat} {st : List Value} (hcl : jm_cT.lookup (jm_own j, x) = some (2, pp)) (hn : ¬ n < 0) (hle : n.toNatClampNeg ≤ 100000) (h1 : cells + 1 ≤ R.cells) (h2 : slots + n.toNatClampNeg ≤ R.slots)
    (kk : ∀ (H1 : Heap), va_P D vwCl (jm_w (jm_ad base bS bW) K (M.1 ++ [(11, n.toNatClampNeg, List.replicate n.toNatClampNeg none)], jm_zero M.2.1 M.1.length, M.2.2)) H1 → va_S (fun q => base ≤ q) s.heap H1 locs → W p l e R s m args below meth c H1 locs (cells + 1) (slots + n.toNatClampNeg) Q (F0 m (pc + 3) ls (.ref (jm_ad base bS bW M.1.length) :: st))) : W p l e R s m args below meth c H locs cells slots Q (F0 m pc ls (.int n :: st)) := by
  have hlk := jm_at_mem (List.all_eq_true.mp jm_cok _ (jm_lk hcl))
  have hlk : Cond.classLink (jm_cnm (jm_own j)) x "JingleLaws$Camp" ∈ jm_Tb := hlk
  have hA : ∀ q, s.heap.size ≤ q → base ≤ q := fun q h => Nat.le_trans hG.2.2.2.2.2.1 h
  refine va_newq (D := D) (cl := vwCl) (tys := jm_tys K) (A := fun q => base ≤ q) (C := "JingleLaws$Camp") hx hb hown (hts _ hlk) (va_AO.of hG.2.2.2.2.2.2.1) hG.1 hP (jm_w_D (by omega)) hS hA hn rfl (by omega) h1 h2 hdec (fun q cA H1 hK1 hP1 hD1 hS1 => ?_)
  intro T hT X
  have ecA : cA = K.2.2.1 := by
    obtain ⟨-, -, -, -, -, f1⟩ := (hK1.2 4 (cA, .object "JingleLaws$Camp") rfl).2
    obtain ⟨-, -, -, -, -, f2⟩ := (hK1.2 2 (K.2.2.1, .object "JingleLaws$Camp") rfl).2
    exact Option.some.inj (f1.symm.trans f2)
  subst ecA
  have e := jm_pin X hT (by omega) hP1 hD1 (by omega)
  have ev : (Sum.inl (K.2.2.1, n.toNatClampNeg, .inr (.inr (.inr (.inr (fun _ => none))))) : va_E) = jm_e (jm_ad base bS bW) K (fun _ => 0) (11, n.toNatClampNeg, List.replicate n.toNatClampNeg none) := by
    rw [jm_e_11]
    congr 7
    funext i
    rw [List.getD_eq_getElem?_getD, List.getElem?_replicate]
    split <;> rfl
  rw [jm_w_push (cs := (11, n.toNatClampNeg, List.replicate n.toNatClampNeg none)) hM e ev] at hP1
  have k2 := kk H1 hP1 hS1
  rw [jm_ad_lt hM, ← e] at k2
  exact k2 T hT X
theorem jm_outer (c : ClassId) (N h0 : Nat) : ∀ i : Nat, Jvm.Free.Multi.outerC c N h0 i = arrV c N (fun j => va_rf (if j < i then some (h0 + 1 + j) else none))
  | 0 => by
    show ({ cls := c, slots := Array.replicate N .null, vm := .none } : Cell) = _
    rw [arrV_new]
    refine congrArg (arrV c N) (funext fun j => ?_)
    simp [va_rf]
  | i + 1 => by
    show (Jvm.Free.Multi.outerC c N h0 i).setSlot i (.ref (h0 + 1 + i)) = _
    rw [jm_outer c N h0 i, arrV_store]
    refine congrArg (arrV c N) (funext fun j => ?_)
    by_cases e : j = i
    · subst e
      simp [updV, va_rf]
    · by_cases h : j < i
      · simp [updV, e, h, Nat.lt_succ_of_lt h]
      · simp [updV, e, h, show ¬ j < i + 1 by omega]
theorem jm_arrV_cong {c : ClassId} {N : Nat} {f g : Nat → Value} (h : ∀ j, j < N → f j = g j) : arrV c N f = arrV c N g := by
  unfold arrV
  congr 1
  apply Array.ext
  · simp
  · intro i h1 h2
    simp
    exact h i (by simpa using h1)
theorem jm_mapIdx_rep {α β : Type} (f : Nat → α → β) (a : α) (n : Nat) : (List.replicate n a).mapIdx f = (List.range n).map (fun i => f i a) := by
  apply List.ext_getElem?
  intro i
  rw [List.getElem?_mapIdx, List.getElem?_map, List.getElem?_replicate]
  by_cases h : i < n
  · rw [if_pos h, List.getElem?_range h]; rfl
  · rw [if_neg h, List.getElem?_eq_none (by rw [List.length_range]; omega)]; rfl
theorem jm_s_mna {j pc x : Nat} (hx : p.tables.exec = Jvm.exec) (hb : c.code = jm_code j) (hown : s.vm.findClass (jm_cnm (jm_own j)) = some m.cls) (hts : ∀ w ∈ jm_Tb, w.before args s = true) (hG : jm_G base bS bW K D L xs wd s) (hP : va_P D vwCl (jm_w (jm_ad base bS bW) K M) H) (hS : va_S (fun q => base ≤ q) s.heap H locs) (hcn : s.heap.size + cells = base + M.1.length) (hdec : decode (jm_code j) pc = .ok (.multianewarray x 2, 4))
    {n k : Int32} {pp : Nat} {st : List Value} (hcl : jm_cT.lookup (jm_own j, x) = some (12, pp)) (hn : ¬ n < 0) (hk : ¬ k < 0) (hle : n.toNatClampNeg ≤ 100000) (hle2 : k.toNatClampNeg ≤ 100000) (hM : M.1.length + n.toNatClampNeg < jx_S) (h1 : cells + (1 + n.toNatClampNeg) ≤ R.cells) (h2 : slots + (n.toNatClampNeg + n.toNatClampNeg * k.toNatClampNeg) ≤ R.slots)
    (kk : ∀ (H1 : Heap), va_P D vwCl (jm_w (jm_ad base bS bW) K (M.1 ++ ((12, n.toNatClampNeg, (List.range n.toNatClampNeg).map (fun i => some (M.1.length + 1 + i))) :: List.replicate n.toNatClampNeg (9, k.toNatClampNeg, [])), jm_zero M.2.1 M.1.length, M.2.2)) H1 → va_S (fun q => base ≤ q) s.heap H1 locs → W p l e R s m args below meth c H1 locs (cells + (1 + n.toNatClampNeg)) (slots + (n.toNatClampNeg + n.toNatClampNeg * k.toNatClampNeg)) Q (F0 m (pc + 4) ls (.ref (jm_ad base bS bW M.1.length) :: st))) : W p l e R s m args below meth c H locs cells slots Q (F0 m pc ls (.int k :: .int n :: st)) := by
  have hlk := jm_at_mem (List.all_eq_true.mp jm_cok _ (jm_lk hcl))
  have hlk : Cond.classLink (jm_cnm (jm_own j)) x ("[" ++ (FieldType.array .int).toString) ∈ jm_Tb := hlk
  have hxo := jm_x_ok
  have hlen : M.1.length < jx_S := by omega
  intro T hT X
  have hsz := jm_hsz X hT (by omega) hP hS hG.2.2.2.2.2.1 hcn
  obtain ⟨vm₁, cA, comp, -, fA, fC, -, -, X', step⟩ := X.multianewarray2F hx hown (hts _ hlk) (show (Cond.arrayOver (.array .int)).before args s = true from hG.2.2.2.2.2.2.2.1) (hts _ hxo.2.2.2.2.1) (g := F0 m pc ls (.int k :: .int n :: st)) rfl (by rw [hb]; exact hdec) rfl hn hk (by omega) (by show k.toNatClampNeg * 4 ≤ _; omega) (by omega) rfl rfl h1 h2
  have eA : cA = K.2.2.2 := by
    have f2 : s.vm.findClass ("[" ++ FieldType.toString (.array .int)) = some K.2.2.2 := (hG.1.2 3 (K.2.2.2, .array .int) rfl).2
    exact Option.some.inj (fA.symm.trans f2)
  have eC : comp = K.1 := by
    have f2 : s.vm.findClass ("[" ++ FieldType.toString .int) = some K.1 := (hG.1.2 0 (K.1, .int) rfl).2
    have f1 : s.vm.findClass ("[" ++ FieldType.toString .int) = some comp := fC
    exact Option.some.inj (f1.symm.trans f2)
  subst eA
  subst eC
  generalize hF : Jvm.Free.Multi.fill (T.setVm vm₁) K.2.2.2 K.1 n.toNatClampNeg k.toNatClampNeg (defaultValue .int) n.toNatClampNeg = F at X' step
  have hTh : (T.setVm vm₁).heap = H := hT
  obtain ⟨f1, f2, -, -⟩ := Jvm.Free.Multi.fill_facts (T.setVm vm₁) K.2.2.2 K.1 n.toNatClampNeg k.toNatClampNeg (defaultValue .int) n.toNatClampNeg
  rw [hF, hTh] at f1 f2
  have hold : ∀ x : Nat, x < H.size → F.heap[x]? = H[x]? := fun x hx => by
    have := Jvm.Free.Multi.fill_old (T.setVm vm₁) K.2.2.2 K.1 n.toNatClampNeg k.toNatClampNeg (defaultValue .int) (a := x) (by rw [hTh]; exact hx) n.toNatClampNeg
    rw [hF, hTh] at this
    exact this
  have hrow : ∀ i : Nat, i < n.toNatClampNeg → F.heap[H.size + 1 + i]? = some (vp_cell K.1 (k.toNatClampNeg, .inl (fun _ => 0))) := fun i hi => by
    have := Jvm.Free.Multi.fill_inner (T.setVm vm₁) K.2.2.2 K.1 n.toNatClampNeg k.toNatClampNeg (defaultValue .int) n.toNatClampNeg i hi
    rw [hF, hTh] at this
    rw [this]
    show some ({ cls := K.1, slots := Array.replicate k.toNatClampNeg (.int 0), vm := .none } : Cell) = _
    rw [arrV_new]
    rfl
  rw [jm_outer] at f2
  have hP0 : va_P D vwCl (jm_w (jm_ad base bS bW) K M) F.heap := hP.kept (fun k9 x hx => hold x.1 ((hP k9 x hx).lt))
  have hP1 : va_P D vwCl (jm_w (jm_ad base bS bW) K (M.1 ++ ((12, n.toNatClampNeg, (List.range n.toNatClampNeg).map (fun i => some (M.1.length + 1 + i))) :: List.replicate n.toNatClampNeg (9, k.toNatClampNeg, [])), jm_zero M.2.1 M.1.length, M.2.2)) F.heap := by
    rw [jm_w_app _ (by simp only [List.length_cons, List.length_replicate]; omega)]
    refine hP0.app (fun i q hq => ?_)
    rw [List.mapIdx_cons] at hq
    cases i with
    | zero =>
      rw [List.getElem?_cons_zero] at hq
      cases hq
      show F.heap[jm_ad base bS bW (M.1.length + 0)]? = some (vp_cell K.2.2.2 (n.toNatClampNeg, .inr (.inr (.inr (.inr (fun i => (((List.range n.toNatClampNeg).map (fun i => some (M.1.length + 1 + i))).getD i none).map (jm_ad base bS bW)))))))
      rw [Nat.add_zero, jm_ad_lt hlen, ← hsz, f2]
      show some (arrV K.2.2.2 n.toNatClampNeg _) = some (arrV K.2.2.2 n.toNatClampNeg (fun j => va_rf ((((List.range n.toNatClampNeg).map (fun i => some (M.1.length + 1 + i))).getD j none).map (jm_ad base bS bW))))
      refine congrArg some (jm_arrV_cong (fun i hi => ?_))
      rw [if_pos hi, List.getD_eq_getElem?_getD, List.getElem?_map, List.getElem?_range hi]
      show va_rf (some (H.size + 1 + i)) = va_rf (some (jm_ad base bS bW (M.1.length + 1 + i)))
      rw [jm_ad_lt (by omega), hsz]
      congr 2
      omega
    | succ i =>
      rw [List.getElem?_cons_succ, List.getElem?_mapIdx, List.getElem?_replicate] at hq
      by_cases hi : i < n.toNatClampNeg
      · rw [if_pos hi] at hq
        cases hq
        show F.heap[jm_ad base bS bW (M.1.length + (i + 1))]? = some (vp_cell K.1 (k.toNatClampNeg, .inl (fun _ => 0)))
        rw [jm_ad_lt (by omega), ← hrow i hi, hsz]
        congr 1
        omega
      · rw [if_neg hi] at hq
        cases hq
  have k2 := kk F.heap hP1 ⟨by rw [f1]; have := hS.1; omega, fun x h1 h2 => (hold x (Nat.lt_of_lt_of_le h1 hS.1)).trans (hS.2.1 x h1 h2), hS.2.2⟩
  rw [jm_ad_lt hlen, ← hsz] at k2
  rw [Nat.add_assoc cells, Nat.add_assoc slots] at X'
  obtain ⟨t, a1, b1⟩ := k2 F rfl X'
  refine ⟨t, step t ?_, b1⟩
  have e : T.heap.size = H.size := by rw [hT]
  rw [e]
  exact a1
end JMK
