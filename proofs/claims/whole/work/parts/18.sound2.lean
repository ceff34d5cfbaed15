/-- what the real machine does, when the small one runs to an end -/
def jm_SND (l : Launch) (base bS bW : Nat) (K : jm_K) (D : va_G) (L : Nat) (xs wd : Nat → Int32) (f : Nat) : Prop :=
  ∀ {d j pc : Nat} {loc stk : List Value} {M M' : jm_M} {r : Option Value}, jm_run f d j pc loc stk M = some (r, M') →
  ∀ {p : Program} {e : Env} {R : Room} {s : State} {m : MethodId} {args : Array Value} {below : List Frame} {meth : Method} {c : Code} {H : Heap} {locs : List Loc} {cells slots : Nat} {Q : State → Prop} {ls : Array Slot} {mc ms : Nat},
  p.tables.exec = Jvm.exec → c.code = jm_code j → c.maxLocals = jm_ml j → s.vm.findClass (jm_cnm (jm_own j)) = some m.cls → ((jm_y j).name = "<init>" → meth.name = "<init>") → (∀ w ∈ jm_Tb, w.before args s = true) → jm_G base bS bW K D L xs wd s → jm_ok L xs wd M → va_P D vwCl (jm_w (jm_ad base bS bW) K M) H → va_S (fun q => base ≤ q) s.heap H locs → s.heap.size + cells = base + M.1.length → (d + 1 ≤ R.frames ∧ 60 * (d + 1) ≤ R.locals) → jm_lr (jm_ad base bS bW) ls (jm_ml j) loc →
  cells + (M'.1.length - M.1.length) ≤ mc → slots + (jm_tot M' - jm_tot M) ≤ ms → mc ≤ R.cells → ms ≤ R.slots →
  (∀ {H1 : Heap} {locs1 : List Loc} {cells1 slots1 pc1 n : Nat} {ls1 : Array Slot} {stk1 : List Value} {i : Instr}, decode (jm_code j) pc1 = .ok (i, n) → (n = jm_len i ∨ jm_len i = 0) → jm_ret j i stk1 = some r → va_P D vwCl (jm_w (jm_ad base bS bW) K M') H1 → va_S (fun q => base ≤ q) s.heap H1 locs1 → cells1 ≤ mc → slots1 ≤ ms → W p l e R s m args below meth c H1 locs1 cells1 slots1 Q (F0 m pc1 ls1 (stk1.map (jm_tr (jm_ad base bS bW))))) →
  W p l e R s m args below meth c H locs cells slots Q (F0 m pc ls (stk.map (jm_tr (jm_ad base bS bW))))
set_option maxHeartbeats 4000000 in
theorem jm_met {l : Launch} {base bS bW : Nat} {K : jm_K} {D : va_G} {L : Nat} {xs wd : Nat → Int32} {f : Nat} (hs : jm_SND l base bS bW K D L xs wd f) {d t : Nat} {as l0 : List Value} {M M1 : jm_M} {r1 : Option Value} (ht : t < 223) (he : jm_ent t as = some l0) (hM : jm_ok L xs wd M) (h : jm_run f d t 0 l0 [] M = some (r1, M1)) : Met l (jm_y t) (jm_ws t) (jm_room d (M1.1.length - M.1.length) (jm_tot M1 - jm_tot M)) (jm_Pc base bS bW K D L xs wd as M) (jm_Q base bS bW K D r1 M1) (M1.1.length - M.1.length) (jm_tot M1 - jm_tot M) (fun q => base ≤ q) := by
  obtain ⟨-, -, -, f4, -, f6, -, -⟩ := jm_mfacts ht
  refine Met.ofW (cc := jm_code t) (maxL := jm_ml t) (ret := jm_rt t) f4 rfl ?_
  intro p e s m args below meth c s₁ B hml hv
  obtain ⟨rfl, hG, hsz, hP⟩ := hv
  have hx := B.exec
  have hb := B.bytes
  have hr := B.returns
  have hts := atoms_spec (ws := jm_ws t) B.pre
  have hown : s.vm.findClass (jm_y t).cls = some m.cls := findClass_of_methodNamed B.named
  have hlocks := B.notSynchronized
  have hnm : meth.name = (jm_y t).name := (name_of_methodNamed B.named B.method).1
  have hl := jm_lr.entry (ad := jm_ad base bS bW) he
  rw [lg_entry_eq]
  refine hs h hx hb hml (by rw [f6]; exact hown) (fun q => hnm.trans q) (fun w hw => hts w (List.mem_cons_of_mem _ hw)) hG hM hP va_S.rf (by omega) ⟨Nat.le_refl _, Nat.le_refl _⟩ hl (mc := M1.1.length - M.1.length) (ms := jm_tot M1 - jm_tot M) (by omega) (by omega) (Nat.le_refl _) (Nat.le_refl _) ?_
  intro H1 locs1 cells1 slots1 pc1 n ls1 stk1 i hdec hn hret hP1 hS1 hc1 hc2
  refine W.widen hc1 hc2 ?_
  have hf : ∀ q ∈ locs1, base ≤ q.base := hS1.2.2
  have hq : ∀ tt : State, tt.heap = H1 → s.WarmedH tt.vm → jm_Q base bS bW K D r1 M1 (as.map (jm_tr (jm_ad base bS bW))).toArray s (.returned (r1.map (jm_tr (jm_ad base bS bW)))) tt := fun tt hh _ => ⟨rfl, by rw [hh]; exact hP1, va_S.F hS1 hh⟩
  cases i
  all_goals (first | (simp only [jm_ret] at hret; cases hret; done) | skip)
  all_goals (first | (obtain hn | hn := hn <;> first | (subst hn; skip) | (exfalso; simp [jm_len] at hn; done)) | skip)
  case ireturn =>
    simp only [jm_ret] at hret
    split at hret
    · rename_i x
      split at hret
      · rename_i hq2
        cases hret
        rcases hq2 with hq2 | ⟨hq2, hx2⟩
        · exact W.iret hx hb (hr.trans hq2) hq hf hdec
        · exact W.zret hx hb (hr.trans hq2) (by rcases hx2 with rfl | rfl <;> decide) hq hf hdec
      · cases hret
    · cases hret
  case lreturn =>
    simp only [jm_ret] at hret
    split at hret
    · split at hret
      · rename_i hq2
        cases hret
        exact W.lret hx hb (hr.trans hq2) hq hf hdec
      · cases hret
    · cases hret
  case areturn =>
    simp only [jm_ret] at hret
    split at hret
    · split at hret
      · rename_i hq2
        cases hret
        exact W.aret hx hb (hr.trans hq2) (Or.inl ⟨_, rfl⟩) (Or.inr ⟨_, rfl⟩) hq hf hdec
      · cases hret
    · cases hret
  case return_ =>
    simp only [jm_ret] at hret
    split at hret
    · split at hret
      · rename_i hq2
        cases hret
        exact W.vret hx hb (hr.trans hq2) hq hf hdec
      · cases hret
    · cases hret
set_option maxHeartbeats 4000000 in
theorem jm_sound (l : Launch) (base bS bW : Nat) (K : jm_K) (D : va_G) (L : Nat) (xs wd : Nat → Int32) : ∀ f : Nat, jm_SND l base bS bW K D L xs wd f := by
  intro f
  induction f with
  | zero =>
    intro d j pc loc stk M M' r h
    simp [jm_run] at h
  | succ f ih =>
    intro d j pc loc stk M M' r h p e R s m args below meth c H locs cells slots Q ls mc ms hx hb hml hown hnm hts hG hM hP hS hcn hR hl h1 h2 h3 h4 kret
    obtain ⟨i, n, hf, hcase⟩ := jm_run_inv h
    obtain ⟨hdec, hn⟩ := jm_fetch_ok hf
    have hls : c.maxLocals = ls.size := hml.trans hl.1.symm
    rcases hcase with ⟨q, hq, hrun⟩ | ⟨⟨pc', stk', M1⟩, hq, hrun⟩ | ⟨hret, rfl⟩ | ⟨t, as, rest, d', l0, r1, M1, hc, rfl, he, hr1, hrun⟩
    · exact jm_sound_pure hx hb hown hts hdec hn hl hq (fun ls' hl' => ih hrun hx hb hml hown hnm hts hG hM hP hS hcn hR hl' h1 h2 h3 h4 kret)
    · obtain ⟨k1, hW⟩ := jm_sound_heap (Q := Q) (R := R) (below := below) (args := args) (e := e) (l := l) (slots := slots) hx hb hls hown hnm hts hG hM hP hS hcn (⟨by omega, by omega⟩) hdec hn hq
      have k2 := jm_run_kp f k1.2.2.2.2.1 hrun
      obtain ⟨-, -, -, a1, -, a2⟩ := k1
      have hM1 := jm_kp.ok (jm_heap_kp hM.1 hq) hM
      obtain ⟨-, -, -, b1, -, b2⟩ := k2
      have b1 : M1.1.length ≤ M'.1.length := b1
      have b2 : jm_tot M1 ≤ jm_tot M' := b2
      exact hW (by omega) (by omega) (fun H1 locs1 q1 q2 => ih hrun hx hb hml hown hnm hts hG hM1 q1 q2 (by show s.heap.size + (cells + (M1.1.length - M.1.length)) = base + M1.1.length; omega) hR hl (by show cells + (M1.1.length - M.1.length) + (M'.1.length - M1.1.length) ≤ mc; omega) (by show slots + (jm_tot M1 - jm_tot M) + (jm_tot M' - jm_tot M1) ≤ ms; omega) h3 h4 kret)
    · exact kret hdec hn hret hP hS (by omega) (by omega)
    · have k1 := jm_run_kp f hM.1 hr1
      have hM1 := k1.ok hM
      have k2 := jm_run_kp f k1.2.2.2.2.1 hrun
      obtain ⟨-, -, -, a1, -, a2⟩ := k1
      obtain ⟨-, -, -, b1, -, b2⟩ := k2
      exact jm_do_call hx hb hls hown hts hG hM hP hS hcn hR hdec hn hc (by omega) (by omega) (fun ht => jm_met ih ht he hM hr1) (fun H1 locs1 q1 q2 => ih hrun hx hb hml hown hnm hts hG hM1 q1 q2 (by omega) hR hl (by omega) (by omega) h3 h4 kret)
