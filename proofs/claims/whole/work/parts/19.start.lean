def R_law : String := "JingleLawsLaw"
def lw_P (b : Addr) (xs : List Int32) (args : Array Value) (s : State) : Prop := args = #[.ref b] ∧ s.IntsAt b xs ∧ xs.length ≤ 384 ∧ (Jvm.Cond.and given_1 narrow_1).before args s = true
def lw_Q (_ : Array Value) (s : State) (o : Outcome) (t : State) : Prop := o = .returned (some (.int 1)) ∧ Framed s o t [] 600000 7302250
def lw_Z (below : List Frame) (a : Array Value) (s : State) : State → Prop := fun t => ∃ o, t.status = .running ∧ Ended t below o ∧ lw_Q a s o t
/-- the law's own end, with 1 on the stack, nothing written that was there before, its room as the claim has it -/
theorem lw_ret {p : Program} {l : Launch} {e : Env} {s : State} {m : MethodId} {below : List Frame} {meth : Method} {c : Code} {b : Nat} (hx : p.tables.exec = Jvm.exec) (hb : c.code = code) (hr : meth.sig.returnType = ret) (hlocks : meth.locks = false) {pc : Nat} {H : Heap} {ls : Array Slot} (hdg : decode code pc = .ok (.ireturn, 1)) : W p l e room_1 s m #[Value.ref b] below meth c H [] 600000 7302250 (lw_Z below #[Value.ref b] s) (F0 m pc ls [.int 1]) := by
  intro T hT X
  obtain ⟨fs, hret, hrun, hended, hW, hframe⟩ := X.leave (v := some (.int 1)) (hlocks := hlocks) (fun h => by rw [hr] at h; cases h)
  have hmeth' : T.vm.method? m = some meth := X.method'
  refine ⟨T.setFrames fs, ?_, .returned (some (.int 1)), hrun, hended, rfl, ⟨_, rfl⟩, hW, hframe⟩
  jvm_step X.here [X.here.top, hx, hb, hdg, hmeth', hr, ret, narrow_b1]
  (try refine ⟨rfl, ?_⟩); (try refine ⟨rfl, ?_⟩)
  first | (intro acts; rw [hret _ acts rfl rfl rfl]) | rw [hret _ _ rfl rfl rfl]
  exact Steps.refl _
/-- what holds at the law's entry: the machine, the code, the tables' words (any of lw_tbl by 'hts w (by decide +kernel)'), the script of L ints xs at the cell b, what the Statement gives of the start (any of its parts by flat_of_before) -/
def lw_At (p : Program) (s : State) (m : MethodId) (meth : Method) (c : Code) (b L : Nat) (xs : Nat → Int32) : Prop :=
  p.tables.exec = Jvm.exec ∧ c.code = code ∧ meth.sig.returnType = ret ∧ c.maxLocals = 4 ∧ s.vm.findClass R_law = some m.cls ∧ (∀ w ∈ lw_tbl, w.before #[Value.ref b] s = true) ∧ va_X b L xs s s.heap ∧ b < s.heap.size ∧ meth.locks = false ∧ (Jvm.Cond.and given_1 narrow_1).before #[Value.ref b] s = true
/-! ===== the law's start, out of one run of the small machine ===== -/
def jm_wd : Nat → Int32 := fun j => [(-1 : Int32), 0, 1, 1, 0, 4].getD j 0
def jm_S0 (xs : Nat → Int32) : Nat → Nat → Int32 := fun o => if o = jx_S then xs else if o = jx_W then jm_wd else fun _ => 0
/-- what is left to show -/
def jm_goal : Prop := ∀ (L : Nat) (xs : Nat → Int32), L ≤ 384 → ∃ (f : Nat) (M' : jm_M), jm_run f 100 223 0 [.ref jx_S, .null, .null, .null] [] ([], jm_S0 xs, L + 1) = some (some (.int 1), M') ∧ M'.1.length ≤ 600000 ∧ jm_tot M' ≤ 7302250
theorem jm_aock : (decide (lw_tbl[jm_ao.getD 0 0]? = some (.arrayOver (.array .int))) && decide (lw_tbl[jm_ao.getD 1 0]? = some (.arrayOver (.object "JingleLaws$Camp"))) && decide (lw_tbl[580]? = some (.laysStatic "JingleLaws" "WIDER" "[I")) && jm_at (jm_ip.getD 7 (0, 0)).2 (.initialized "JingleLaws")) = true := by decide +kernel
theorem jm_nwck : (jm_nw.zip jm_nwp).all (fun q => decide (lw_tbl[q.2]? = some q.1)) = true := by decide +kernel
theorem jm_nw_mem : ∀ w ∈ jm_nw, w ∈ lw_tbl := by
  intro w hw
  have hl : jm_nw.length = jm_nwp.length := rfl
  obtain ⟨i, hi⟩ := List.getElem?_of_mem hw
  have hlt := (List.getElem?_eq_some_iff.mp hi).1
  have hz : (jm_nw.zip jm_nwp)[i]? = some (w, jm_nwp[i]'(by omega)) := by
    rw [List.getElem?_zip_eq_some]
    exact ⟨hi, List.getElem?_eq_getElem (by omega)⟩
  have h := List.all_eq_true.mp jm_nwck _ (List.mem_of_getElem? hz)
  rw [decide_eq_true_eq] at h
  exact List.mem_of_getElem? h
set_option maxHeartbeats 4000000 in
set_option maxRecDepth 100000 in
theorem whole_start_open (hgoal : jm_goal) {p : Program} {e : Env} {s : State} {m : MethodId} {below : List Frame} {meth : Method} {c : Code} (l : Launch) {b L : Nat} {xs : Nat → Int32} (hL : L ≤ 384) (C0 : lw_At p s m meth c b L xs) : W p l e room_1 s m #[Value.ref b] below meth c s.heap [] 0 0 (lw_Z below #[Value.ref b] s) (entryFrame m ([Value.ref b] : List Value).toArray 4) := by
  obtain ⟨hx, hb, hr, hml, hown, hts, hX, hbl, hlocks, hgv⟩ := id C0
  obtain ⟨f, M', hrun, hM1, hM2⟩ := hgoal L xs hL
  have hA : ∀ a : Nat, a < s.heap.size → ¬ (fun q : Nat => s.heap.size ≤ q) a := fun a h => Nat.not_le.mpr h
  have htb : ∀ w ∈ jm_Tb, w.before #[Value.ref b] s = true := fun w hw => hts w (List.mem_filter.mp hw).1
  have hao := jm_aock
  simp only [Bool.and_eq_true, decide_eq_true_eq] at hao
  obtain ⟨⟨⟨hao1, hao2⟩, hao3⟩, hao4⟩ := hao
  -- the classes
  have hcl : ∀ k : Nat, ∃ q : ClassId × (Nat → Nat), k < 9 → u_Kn s (jm_cnm k) (jm_T k) (jm_N k) q.1 q.2 := by
    intro k
    by_cases hk : k < 9
    · have hip := List.all_eq_true.mp jm_ipck k (List.mem_range.mpr hk)
      rw [Bool.and_eq_true] at hip
      obtain ⟨c0, iS0, hKn0⟩ := u_known (C := jm_cnm k) (T := jm_T k) (N := jm_N k) (n := jm_N k) htb (jm_lays hk) (htb _ (jm_at_mem hip.1))
      exact ⟨(c0, iS0), fun _ => hKn0⟩
    · exact ⟨(0, fun _ => 0), fun h => absurd h hk⟩
  obtain ⟨dq, hdq⟩ := Classical.axiomOfChoice hcl
  have hxo := jm_x_ok
  obtain ⟨cI, kI, mI, i1, i2, i3⟩ := Cond.arrayClass_spec (htb _ hxo.2.2.2.2.1)
  obtain ⟨cZ, kZ, mZ, z1, z2, z3⟩ := Cond.arrayClass_spec (htb _ hxo.2.2.2.2.2.1)
  obtain ⟨mC, cC, kC, q1, q2, q3, q4, q5⟩ := Cond.arrayOver_spec (hts _ (List.mem_of_getElem? hao2))
  obtain ⟨mG, cG, kG, g1, g2, g3, g4, g5⟩ := arrayOverA_spec (hts _ (List.mem_of_getElem? hao1))
  have hK : va_K (fun k => (dq k).1, fun k => (dq k).2) vwCl (jm_tys (cI, cZ, cC, cG)) s := by
    refine ⟨fun k q hq => ?_, fun k q hq => ?_⟩
    · have hk : k < 9 := (List.getElem?_eq_some_iff.mp hq).1
      rw [jm_clok k hk] at hq
      cases hq
      exact hdq k hk
    · match k, hq with
      | 0, hq => cases hq; exact ⟨fun n z => ⟨fun k h => (by cases h), kI, i2, mI, i3⟩, i1⟩
      | 1, hq => cases hq; exact ⟨fun n z => ⟨fun k h => (by cases h), kZ, z2, mZ, z3⟩, z1⟩
      | 2, hq => cases hq; exact ⟨fun n z => ⟨fun k h => (by cases h), kC, q3, mC, q4⟩, kC, mC, q3, q4, q1, q5⟩
      | 3, hq => cases hq; exact ⟨fun n z => ⟨fun k h => (by cases h), kG, g3, mG, g4⟩, g5⟩
      | k + 4, hq => simp [jm_tys] at hq
  -- the static array
  have hs := flat_of_before _ hgv
  have ha1 : (Cond.arrayOf (.static "JingleLaws" "WIDER" "[I") .int).before #[Value.ref b] s = true := hs _ (by decide +kernel)
  have ha2 := va_eqt (z := 6) (hs (Cond.eq (.length (.static "JingleLaws" "WIDER" "[I")) (.int 6)) (by decide +kernel))
  have e0 := va_eqt (z := -1) (hs (Cond.eq (.elem (.static "JingleLaws" "WIDER" "[I") (.int 0)) (.int (-1))) (by decide +kernel))
  have e1 := va_eqt (z := 0) (hs (Cond.eq (.elem (.static "JingleLaws" "WIDER" "[I") (.int 1)) (.int 0)) (by decide +kernel))
  have e2 := va_eqt (z := 1) (hs (Cond.eq (.elem (.static "JingleLaws" "WIDER" "[I") (.int 2)) (.int 1)) (by decide +kernel))
  have e3 := va_eqt (z := 1) (hs (Cond.eq (.elem (.static "JingleLaws" "WIDER" "[I") (.int 3)) (.int 1)) (by decide +kernel))
  have e4 := va_eqt (z := 0) (hs (Cond.eq (.elem (.static "JingleLaws" "WIDER" "[I") (.int 4)) (.int 0)) (by decide +kernel))
  have e5 := va_eqt (z := 4) (hs (Cond.eq (.elem (.static "JingleLaws" "WIDER" "[I") (.int 5)) (.int 4)) (by decide +kernel))
  obtain ⟨bW, ht, hT⟩ := va_Tof (args := #[Value.ref b]) (s := s) (tm := .static "JingleLaws" "WIDER" "[I") (ty := .int) (N := 6) (f := fun j => .int (jm_wd j)) (A := fun q => s.heap.size ≤ q) (by decide) ha1 ha2 (fun j hj => by
    match j, hj with
    | 0, _ => exact e0
    | 1, _ => exact e1
    | 2, _ => exact e2
    | 3, _ => exact e3
    | 4, _ => exact e4
    | 5, _ => exact e5
    | n + 6, h => omega) hA
  have hZ := va_Zref (C := "JingleLaws") (n := "WIDER") (d := "[I") (A := fun q => s.heap.size ≤ q) (hts _ (List.mem_of_getElem? hao3)) (htb _ (jm_at_mem hao4)) ht hA
  have hG : jm_G s.heap.size b bW (cI, cZ, cC, cG) (fun k => (dq k).1, fun k => (dq k).2) L xs jm_wd s := by
    refine ⟨hK, hX, hZ, hT, hbl, Nat.le_refl _, hts _ (List.mem_of_getElem? hao2), hts _ (List.mem_of_getElem? hao1), fun w hw => ?_⟩
    obtain ⟨a, i, x, h, rfl⟩ := jm_nw_is w hw
    exact va_Nw.of rfl (hts _ (jm_nw_mem _ hw))
  have hM : jm_ok L xs jm_wd ([], jm_S0 xs, L + 1) := ⟨Nat.zero_le _, rfl, rfl, rfl⟩
  have hP : va_P (fun k => (dq k).1, fun k => (dq k).2) vwCl (jm_w (jm_ad s.heap.size b bW) (cI, cZ, cC, cG) ([], jm_S0 xs, L + 1)) s.heap := fun k q h => by simp [jm_w] at h
  have hl := jm_lr.entry (ad := jm_ad s.heap.size b bW) (t := 223) (vs := [.ref jx_S]) (l0 := [.ref jx_S, .null, .null, .null]) rfl
  rw [lg_entry_eq]
  refine jm_sound l s.heap.size b bW (cI, cZ, cC, cG) (fun k => (dq k).1, fun k => (dq k).2) L xs jm_wd f hrun hx (by rw [hb]; rfl) (by rw [hml]; rfl) hown (fun q => absurd q (by decide)) htb hG hM hP va_S.rf rfl ⟨by decide, by decide⟩ hl (mc := 600000) (ms := 7302250) (by show 0 + (M'.1.length - 0) ≤ 600000; omega) (by show 0 + (jm_tot M' - 0) ≤ 7302250; omega) (by decide) (by decide) ?_
  intro H1 locs1 cells1 slots1 pc1 n ls1 stk1 i hdec hn hret hP1 hS1 hc1 hc2
  refine va_forget hS1.2.2 ?_
  refine W.widen hc1 hc2 ?_
  cases i
  all_goals (first | (simp only [jm_ret] at hret; cases hret; done) | skip)
  all_goals (first | (obtain hn | hn := hn <;> first | (subst hn; skip) | (exfalso; simp [jm_len] at hn; done)) | skip)
  case ireturn =>
    simp only [jm_ret] at hret
    split at hret
    · split at hret
      · cases hret
        exact lw_ret hx hb hr hlocks hdec
      · cases hret
    · cases hret
  case lreturn =>
    simp only [jm_ret] at hret
    split at hret
    · split at hret <;> cases hret
    · cases hret
  case areturn =>
    simp only [jm_ret] at hret
    split at hret
    · split at hret <;> cases hret
    · cases hret
  case return_ =>
    simp only [jm_ret] at hret
    split at hret
    · split at hret <;> cases hret
    · cases hret
