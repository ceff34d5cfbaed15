/-! ===== instructions that leave the memory alone ===== -/
def jm_len : Instr → Nat
  | .iconst _ | .lconst _ | .iload_n _ | .lload_n _ | .aload_n _ | .istore_n _ | .lstore_n _ | .astore_n _ => 1
  | .iadd | .isub | .imul | .iand | .ior | .ixor | .ishl | .ishr | .iushr | .idiv | .irem | .ladd | .lsub | .lmul | .ldiv | .lrem | .ineg | .i2l | .l2i | .i2b | .i2s | .lcmp | .dup | .dup2 => 1
  | .iaload | .iastore | .baload | .bastore | .aaload | .aastore | .arraylength | .ireturn | .lreturn | .areturn | .return_ => 1
  | .bipush _ | .ldc _ | .iload _ | .lload _ | .aload _ | .istore _ | .lstore _ | .astore _ | .newarray _ => 2
  | .sipush _ | .ldc_w _ | .ldc2_w _ | .iinc _ _ | .ifCond _ _ | .if_icmp _ _ | .goto _ | .getfield _ | .putfield _ | .getstatic _ | .new _ | .anewarray _ | .invokestatic _ | .invokespecial _ | .invokevirtual _ => 3
  | .multianewarray _ _ => 4
  | _ => 0
theorem jm_bi_inv {f : Int32 → Int32 → Int32} {pc : Nat} {loc stk : List Value} {r : jm_P} (h : jm_bi f pc loc stk = some r) : ∃ x y st, stk = .int y :: .int x :: st ∧ r = (pc + 1, loc, .int (f x y) :: st) := by
  unfold jm_bi at h
  split at h
  · cases h; exact ⟨_, _, _, rfl, rfl⟩
  · cases h
theorem jm_bl_inv {f : Int64 → Int64 → Int64} {pc : Nat} {loc stk : List Value} {r : jm_P} (h : jm_bl f pc loc stk = some r) : ∃ x y st, stk = .long y :: .long x :: st ∧ r = (pc + 1, loc, .long (f x y) :: st) := by
  unfold jm_bl at h
  split at h
  · cases h; exact ⟨_, _, _, rfl, rfl⟩
  · cases h
theorem jm_di_inv {f : Int32 → Int32 → Int32} {pc : Nat} {loc stk : List Value} {r : jm_P} (h : jm_di f pc loc stk = some r) : ∃ x y st, stk = .int y :: .int x :: st ∧ ¬ y = 0 ∧ r = (pc + 1, loc, .int (f x y) :: st) := by
  unfold jm_di at h
  split at h
  · split at h
    · cases h
    · cases h; exact ⟨_, _, _, rfl, by assumption, rfl⟩
  · cases h
theorem jm_dl_inv {f : Int64 → Int64 → Int64} {pc : Nat} {loc stk : List Value} {r : jm_P} (h : jm_dl f pc loc stk = some r) : ∃ x y st, stk = .long y :: .long x :: st ∧ ¬ y = 0 ∧ r = (pc + 1, loc, .long (f x y) :: st) := by
  unfold jm_dl at h
  split at h
  · split at h
    · cases h
    · cases h; exact ⟨_, _, _, rfl, by assumption, rfl⟩
  · cases h
theorem jm_jp_inv {pc : Nat} {off : Int} {loc stk : List Value} {r : jm_P} (h : jm_jp pc off loc stk = some r) : ∃ t : Nat, (pc : Int) + off = (t : Int) ∧ r = (t, loc, stk) := by
  unfold jm_jp at h
  split at h
  · rename_i h0
    cases h
    exact ⟨_, (Int.toNat_of_nonneg h0).symm, rfl⟩
  · cases h
theorem jm_ldi_inv {pc x : Nat} {loc stk : List Value} {r : jm_P} (h : jm_ldi pc x loc stk = some r) : ∃ v, loc[x]? = some (.int v) ∧ r = (pc, loc, .int v :: stk) := by
  unfold jm_ldi at h
  split at h
  · cases h; exact ⟨_, by assumption, rfl⟩
  · cases h
theorem jm_ldl_inv {pc x : Nat} {loc stk : List Value} {r : jm_P} (h : jm_ldl pc x loc stk = some r) : ∃ v, loc[x]? = some (.long v) ∧ r = (pc, loc, .long v :: stk) := by
  unfold jm_ldl at h
  split at h
  · cases h; exact ⟨_, by assumption, rfl⟩
  · cases h
theorem jm_lda_inv {pc x : Nat} {loc stk : List Value} {r : jm_P} (h : jm_lda pc x loc stk = some r) : ∃ v, loc[x]? = some (.ref v) ∧ r = (pc, loc, .ref v :: stk) := by
  unfold jm_lda at h
  split at h
  · cases h; exact ⟨_, by assumption, rfl⟩
  · cases h
theorem jm_sti_inv {pc x : Nat} {loc stk : List Value} {r : jm_P} (h : jm_sti pc x loc stk = some r) : ∃ v st l', stk = .int v :: st ∧ jm_st1 loc x (.int v) = some l' ∧ r = (pc, l', st) := by
  unfold jm_sti at h
  split at h
  · obtain ⟨l', h1, h2⟩ := Option.map_eq_some_iff.mp h
    exact ⟨_, _, l', rfl, h1, h2.symm⟩
  · cases h
theorem jm_sta_inv {pc x : Nat} {loc stk : List Value} {r : jm_P} (h : jm_sta pc x loc stk = some r) : ∃ v st l', stk = .ref v :: st ∧ jm_st1 loc x (.ref v) = some l' ∧ r = (pc, l', st) := by
  unfold jm_sta at h
  split at h
  · obtain ⟨l', h1, h2⟩ := Option.map_eq_some_iff.mp h
    exact ⟨_, _, l', rfl, h1, h2.symm⟩
  · cases h
theorem jm_stl_inv {pc x : Nat} {loc stk : List Value} {r : jm_P} (h : jm_stl pc x loc stk = some r) : ∃ v st l', stk = .long v :: st ∧ jm_st2 loc x (.long v) = some l' ∧ r = (pc, l', st) := by
  unfold jm_stl at h
  split at h
  · obtain ⟨l', h1, h2⟩ := Option.map_eq_some_iff.mp h
    exact ⟨_, _, l', rfl, h1, h2.symm⟩
  · cases h
theorem jm_st1_lt {loc l' : List Value} {x : Nat} {v : Value} (h : jm_st1 loc x v = some l') : x < loc.length := by
  unfold jm_st1 at h
  split at h
  · assumption
  · cases h
theorem jm_st2_lt {loc l' : List Value} {x : Nat} {v : Value} (h : jm_st2 loc x v = some l') : x + 1 < loc.length := by
  unfold jm_st2 at h
  split at h
  · assumption
  · cases h
section JMP
variable {p : Program} {l : Launch} {e : Env} {R : Room} {s : State} {m : MethodId} {args : Array Value} {below : List Frame} {meth : Method} {c : Code} {H : Heap} {locs : List Loc} {cells slots : Nat} {Q : State → Prop}
variable {ad : Nat → Nat} {ls : Array Slot} {nL : Nat} {loc stk : List Value}
theorem jm_br_inv {b : Bool} {pc : Nat} {off : Int} {loc stk : List Value} {r : jm_P} (h : jm_br b pc off loc stk = some r) : ∃ t : Nat, (pc : Int) + off = (t : Int) ∧ (b = true → r = (t, loc, stk)) ∧ (¬ b = true → r = (pc + 3, loc, stk)) := by
  unfold jm_br at h
  split at h
  · rename_i h0
    cases h
    exact ⟨_, (Int.toNat_of_nonneg h0).symm, fun q => by rw [if_pos q], fun q => by rw [if_neg q]⟩
  · cases h
theorem jm_cmp (hx : p.tables.exec = Jvm.exec) {cc : ByteArray} (hb : c.code = cc) {pc : Nat} {cd : ClassFile.Cond} {off : Int} {x y : Int32} {st : List Value} (hd : decode cc pc = .ok (.if_icmp cd off, 3)) {r : jm_P} (h : jm_br (jm_cnd cd x y) pc off loc st = some r) (kk : W p l e R s m args below meth c H locs cells slots Q (F0 m r.1 ls (r.2.2.map (jm_tr ad)))) : W p l e R s m args below meth c H locs cells slots Q (F0 m pc ls (.int y :: .int x :: st.map (jm_tr ad))) := by
  obtain ⟨t, h1, kt, kf⟩ := jm_br_inv h
  have kt : jm_cnd cd x y = true → W p l e R s m args below meth c H locs cells slots Q (F0 m t ls (st.map (jm_tr ad))) := fun q => by rw [kt q] at kk; exact kk
  have kf : ¬ jm_cnd cd x y = true → W p l e R s m args below meth c H locs cells slots Q (F0 m (pc + 3) ls (st.map (jm_tr ad))) := fun q => by rw [kf q] at kk; exact kk
  cases cd <;> simp only [jm_cnd, decide_eq_true_eq, Decidable.not_not] at kt kf
  · exact lv_icmp_eq hx hb hd h1 kt kf
  · exact lv_icmp_ne hx hb hd h1 kt kf
  · exact lv_icmp_lt hx hb hd h1 kt kf
  · exact lv_icmp_ge hx hb hd h1 kt kf
  · exact lv_icmp_gt hx hb hd h1 kt kf
  · exact lv_icmp_le hx hb hd h1 kt kf
theorem jm_cmp0 (hx : p.tables.exec = Jvm.exec) {cc : ByteArray} (hb : c.code = cc) {pc : Nat} {cd : ClassFile.Cond} {off : Int} {x : Int32} {st : List Value} (hd : decode cc pc = .ok (.ifCond cd off, 3)) {r : jm_P} (h : jm_br (jm_cnd cd x 0) pc off loc st = some r) (kk : W p l e R s m args below meth c H locs cells slots Q (F0 m r.1 ls (r.2.2.map (jm_tr ad)))) : W p l e R s m args below meth c H locs cells slots Q (F0 m pc ls (.int x :: st.map (jm_tr ad))) := by
  obtain ⟨t, h1, kt, kf⟩ := jm_br_inv h
  have kt : jm_cnd cd x 0 = true → W p l e R s m args below meth c H locs cells slots Q (F0 m t ls (st.map (jm_tr ad))) := fun q => by rw [kt q] at kk; exact kk
  have kf : ¬ jm_cnd cd x 0 = true → W p l e R s m args below meth c H locs cells slots Q (F0 m (pc + 3) ls (st.map (jm_tr ad))) := fun q => by rw [kf q] at kk; exact kk
  cases cd <;> simp only [jm_cnd, decide_eq_true_eq, Decidable.not_not] at kt kf
  · exact lv_if_eq hx hb hd h1 kt kf
  · exact lv_if_ne hx hb hd h1 kt kf
  · exact lv_if_lt hx hb hd h1 kt kf
  · exact lv_if_ge hx hb hd h1 kt kf
  · exact lv_if_gt hx hb hd h1 kt kf
  · exact lv_if_le hx hb hd h1 kt kf
theorem jm_at_lr (hl : jm_lr ad ls nL loc) {x : Nat} {v : Value} (h : loc[x]? = some v) (hv : v ≠ .null) : ls[x]? = some (.val (jm_tr ad v)) := hl.2.2.2 x v h hv
set_option maxHeartbeats 8000000 in
set_option maxRecDepth 100000 in
theorem jm_sound_pure {j pc n : Nat} {i : Instr} {r : jm_P} (hx : p.tables.exec = Jvm.exec) (hb : c.code = jm_code j) (hown : s.vm.findClass (jm_cnm (jm_own j)) = some m.cls) (hts : ∀ w ∈ jm_Tb, w.before args s = true) (hdec : decode (jm_code j) pc = .ok (i, n)) (hn : n = jm_len i ∨ jm_len i = 0) (hl : jm_lr ad ls nL loc) (h : jm_pure j pc i loc stk = some r) (kk : ∀ ls', jm_lr ad ls' nL r.2.1 → W p l e R s m args below meth c H locs cells slots Q (F0 m r.1 ls' (r.2.2.map (jm_tr ad)))) : W p l e R s m args below meth c H locs cells slots Q (F0 m pc ls (stk.map (jm_tr ad))) := by
  cases i
  all_goals (first | (simp only [jm_pure] at h; cases h; done) | skip)
  all_goals (first | (obtain hn | hn := hn <;> first | (subst hn; skip) | (exfalso; simp [jm_len] at hn; done)) | skip)
  case iconst z => cases h; exact lv_iconst hx hb hdec rfl (kk ls hl)
  case bipush z => cases h; exact lv_bipush hx hb hdec rfl (kk ls hl)
  case sipush z => cases h; exact lv_sipush hx hb hdec rfl (kk ls hl)
  case lconst z => cases h; exact lv_lconst hx hb hdec rfl (kk ls hl)
  case ldc x => 
    obtain ⟨v, h1, rfl⟩ := Option.map_eq_some_iff.mp h
    exact lv_ldc hx hb hown (hts _ (jm_k_ok h1)) hdec (kk ls hl)
  case ldc_w x => 
    obtain ⟨v, h1, rfl⟩ := Option.map_eq_some_iff.mp h
    exact lv_ldcw hx hb hown (hts _ (jm_k_ok h1)) hdec (kk ls hl)
  case ldc2_w x => 
    obtain ⟨v, h1, rfl⟩ := Option.map_eq_some_iff.mp h
    exact lv_ldc2 hx hb hown (hts _ (jm_l_ok h1)) hdec (kk ls hl)
  case iload_n x => obtain ⟨v, h1, rfl⟩ := jm_ldi_inv h; exact lv_iload_n hx hb hdec rfl (jm_at_lr hl h1 (by simp)) (kk ls hl)
  case iload x => obtain ⟨v, h1, rfl⟩ := jm_ldi_inv h; exact lv_iload hx hb hdec (jm_at_lr hl h1 (by simp)) (kk ls hl)
  case lload_n x => obtain ⟨v, h1, rfl⟩ := jm_ldl_inv h; exact lv_lload_n hx hb hdec rfl (jm_at_lr hl h1 (by simp)) (kk ls hl)
  case lload x => obtain ⟨v, h1, rfl⟩ := jm_ldl_inv h; exact lv_lload hx hb hdec (jm_at_lr hl h1 (by simp)) (kk ls hl)
  case aload_n x => obtain ⟨v, h1, rfl⟩ := jm_lda_inv h; exact lv_aload_n hx hb hdec rfl (jm_at_lr hl h1 (by simp)) (kk ls hl)
  case aload x => obtain ⟨v, h1, rfl⟩ := jm_lda_inv h; exact lv_aload hx hb hdec (jm_at_lr hl h1 (by simp)) (kk ls hl)
  case istore_n x => obtain ⟨v, st, l', rfl, h1, rfl⟩ := jm_sti_inv h; exact lv_istore_n hx hb hdec rfl hl.has (by rw [← hl.2.2.1]; exact jm_st1_lt h1) rfl (fun ls' h' => kk ls' (jm_lr.st1 hl.2.2.1 h1 h'))
  case istore x => obtain ⟨v, st, l', rfl, h1, rfl⟩ := jm_sti_inv h; exact lv_istore hx hb hdec hl.has (by rw [← hl.2.2.1]; exact jm_st1_lt h1) rfl (fun ls' h' => kk ls' (jm_lr.st1 hl.2.2.1 h1 h'))
  case astore_n x => obtain ⟨v, st, l', rfl, h1, rfl⟩ := jm_sta_inv h; exact lv_astore_n hx hb hdec rfl hl.has (by rw [← hl.2.2.1]; exact jm_st1_lt h1) rfl (fun ls' h' => kk ls' (jm_lr.st1 hl.2.2.1 h1 h'))
  case astore x => obtain ⟨v, st, l', rfl, h1, rfl⟩ := jm_sta_inv h; exact lv_astore hx hb hdec hl.has (by rw [← hl.2.2.1]; exact jm_st1_lt h1) rfl (fun ls' h' => kk ls' (jm_lr.st1 hl.2.2.1 h1 h'))
  case lstore_n x => obtain ⟨v, st, l', rfl, h1, rfl⟩ := jm_stl_inv h; exact lv_lstore_n hx hb hdec rfl hl.has (by rw [← hl.2.2.1]; exact jm_st2_lt h1) rfl (fun ls' h' => kk ls' (jm_lr.st2 hl.2.2.1 h1 h'))
  case lstore x => obtain ⟨v, st, l', rfl, h1, rfl⟩ := jm_stl_inv h; exact lv_lstore hx hb hdec hl.has (by rw [← hl.2.2.1]; exact jm_st2_lt h1) rfl (fun ls' h' => kk ls' (jm_lr.st2 hl.2.2.1 h1 h'))
  case iinc x z =>
    simp only [jm_pure] at h
    split at h
    · rename_i v hv
      obtain ⟨l', h1, rfl⟩ := Option.map_eq_some_iff.mp h
      have hm : (x, jm_tr ad (.int v)) ∈ jm_lv ad loc := jm_lv_mem.mpr ⟨_, hv, by simp, rfl⟩
      obtain ⟨k, hk⟩ := List.getElem?_of_mem hm
      exact lv_iinc hx hb hdec hl.has hk rfl (by rw [← hl.2.2.1]; exact jm_st1_lt h1) rfl (fun ls' h' => kk ls' (jm_lr.st1 hl.2.2.1 h1 h'))
    · cases h
  case iadd => obtain ⟨x, y, st, rfl, rfl⟩ := jm_bi_inv h; exact lv_iadd hx hb hdec (kk ls hl)
  case isub => obtain ⟨x, y, st, rfl, rfl⟩ := jm_bi_inv h; exact lv_isub hx hb hdec (kk ls hl)
  case imul => obtain ⟨x, y, st, rfl, rfl⟩ := jm_bi_inv h; exact lv_imul hx hb hdec (kk ls hl)
  case iand => obtain ⟨x, y, st, rfl, rfl⟩ := jm_bi_inv h; exact lv_iand hx hb hdec (kk ls hl)
  case ior => obtain ⟨x, y, st, rfl, rfl⟩ := jm_bi_inv h; exact lv_ior hx hb hdec (kk ls hl)
  case ixor => obtain ⟨x, y, st, rfl, rfl⟩ := jm_bi_inv h; exact lv_ixor hx hb hdec (kk ls hl)
  case ishl => obtain ⟨x, y, st, rfl, rfl⟩ := jm_bi_inv h; exact lv_ishl hx hb hdec (kk ls hl)
  case ishr => obtain ⟨x, y, st, rfl, rfl⟩ := jm_bi_inv h; exact lv_ishr hx hb hdec (kk ls hl)
  case iushr => obtain ⟨x, y, st, rfl, rfl⟩ := jm_bi_inv h; exact lv_iushr hx hb hdec rfl (kk ls hl)
  case idiv => obtain ⟨x, y, st, rfl, h0, rfl⟩ := jm_di_inv h; exact lv_idiv hx hb hdec h0 (kk ls hl)
  case irem => obtain ⟨x, y, st, rfl, h0, rfl⟩ := jm_di_inv h; exact lv_irem hx hb hdec h0 (kk ls hl)
  case ladd => obtain ⟨x, y, st, rfl, rfl⟩ := jm_bl_inv h; exact lv_ladd hx hb hdec (kk ls hl)
  case lsub => obtain ⟨x, y, st, rfl, rfl⟩ := jm_bl_inv h; exact lv_lsub hx hb hdec (kk ls hl)
  case lmul => obtain ⟨x, y, st, rfl, rfl⟩ := jm_bl_inv h; exact lv_lmul hx hb hdec (kk ls hl)
  case ldiv => obtain ⟨x, y, st, rfl, h0, rfl⟩ := jm_dl_inv h; exact lv_ldiv hx hb hdec h0 (kk ls hl)
  case lrem => obtain ⟨x, y, st, rfl, h0, rfl⟩ := jm_dl_inv h; exact lv_lrem hx hb hdec h0 (kk ls hl)
  case ineg =>
    simp only [jm_pure] at h
    split at h <;> cases h
    exact lv_ineg hx hb hdec (kk ls hl)
  case i2l =>
    simp only [jm_pure] at h
    split at h <;> cases h
    exact lv_i2l hx hb hdec rfl (kk ls hl)
  case l2i =>
    simp only [jm_pure] at h
    split at h <;> cases h
    exact lv_l2i hx hb hdec rfl (kk ls hl)
  case i2b =>
    simp only [jm_pure] at h
    split at h <;> cases h
    exact lv_i2b hx hb hdec rfl (kk ls hl)
  case i2s =>
    simp only [jm_pure] at h
    split at h <;> cases h
    exact lv_i2s hx hb hdec rfl (kk ls hl)
  case lcmp =>
    simp only [jm_pure] at h
    split at h <;> cases h
    exact W.lcmp hx hb hdec (kk ls hl)
  case dup =>
    simp only [jm_pure] at h
    split at h <;> cases h
    · exact lv_dup hx hb hdec rfl (kk ls hl)
    · exact lv_dup hx hb hdec rfl (kk ls hl)
  case dup2 =>
    simp only [jm_pure] at h
    split at h <;> cases h
    exact lv_dup2_11 hx hb hdec rfl rfl (kk ls hl)
  case ifCond cd off =>
    simp only [jm_pure] at h
    split at h
    · rename_i x st
      have e : r.2.1 = loc := by
        obtain ⟨t, -, h1, h2⟩ := jm_br_inv h
        by_cases q : jm_cnd cd x 0 = true
        · rw [h1 q]
        · rw [h2 q]
      exact jm_cmp0 hx hb hdec h (kk ls (by rw [e]; exact hl))
    · cases h
  case if_icmp cd off =>
    simp only [jm_pure] at h
    split at h
    · rename_i y x st
      have e : r.2.1 = loc := by
        obtain ⟨t, -, h1, h2⟩ := jm_br_inv h
        by_cases q : jm_cnd cd x y = true
        · rw [h1 q]
        · rw [h2 q]
      exact jm_cmp hx hb hdec h (kk ls (by rw [e]; exact hl))
    · cases h
  case goto off =>
    obtain ⟨t, h1, rfl⟩ := jm_jp_inv h
    exact lv_goto hx hb hdec h1 (kk ls hl)
  case tableswitch d lo hi offs =>
    simp only [jm_pure] at h
    split at h
    · split at h
      · rename_i hq
        obtain ⟨t, h1, rfl⟩ := jm_jp_inv h
        exact lv_tableOut hx hb hdec hq h1 (kk ls hl)
      · rename_i hq
        split at h
        · rename_i o ho
          obtain ⟨t, h1, rfl⟩ := jm_jp_inv h
          exact lv_tableIn hx hb hdec (fun z => hq (Or.inl z)) (fun z => hq (Or.inr z)) ho h1 (kk ls hl)
        · cases h
    · cases h
  case lookupswitch d ps =>
    simp only [jm_pure] at h
    split at h
    · split at h
      · rename_i hq
        obtain ⟨t, h1, rfl⟩ := jm_jp_inv h
        exact lv_lookup hx hb hdec hq rfl h1 (kk ls hl)
      · cases h
    · cases h
end JMP
