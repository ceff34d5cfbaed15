theorem jm_AOA_moved {u U : State} (hvm : u.vm.Alike U.vm) (h : (Cond.arrayOver (.array .int)).before #[] u = true) : (Cond.arrayOver (.array .int)).before #[] U = true := over_moved hvm h
theorem jm_nw_is : ∀ w ∈ jm_nw, ∃ a i x h, w = Cond.methodLinkNest a i x h := by
  intro w hw
  simp only [jm_nw, List.mem_cons, List.not_mem_nil, or_false] at hw
  rcases hw with rfl | rfl | rfl | rfl | rfl | rfl | rfl | rfl | rfl | rfl | rfl <;> exact ⟨_, _, _, _, rfl⟩
theorem jm_G.move {base bS bW : Nat} {K : jm_K} {D : va_G} {L : Nat} {xs wd : Nat → Int32} {s U : State} (h : jm_G base bS bW K D L xs wd s) (hW : s.WarmedH U.vm) (hq : ∀ q : Nat, q < base → U.heap[q]? = s.heap[q]?) (hz : base ≤ U.heap.size) : jm_G base bS bW K D L xs wd U := by
  obtain ⟨g1, g2, g3, g4, g5, g6, g7, g8, g9⟩ := h
  have hk : ∀ a : Nat, a < s.heap.size → ¬ base ≤ a → U.heap[a]? = s.heap[a]? := fun a _ h => hq a (by omega)
  refine ⟨va_K.moved hW.alike g1, (va_X.moved hW.alike g2).kept (hq bS g5), (va_Z.moved hW.alike g3).kept hk, (va_T.moved hW.alike g4).kept hk, g5, hz, va_AO.moved hW.alike g7, jm_AOA_moved hW.alike g8, fun w hw => ?_⟩
  obtain ⟨a, i, x, h, rfl⟩ := jm_nw_is w hw
  exact va_Nw.warmM hW (g9 _ hw)
def jm_Q (base bS bW : Nat) (K : jm_K) (D : va_G) (r : Option Value) (M' : jm_M) : Array Value → State → Outcome → State → Prop := fun _ st oc t => oc = .returned (r.map (jm_tr (jm_ad base bS bW))) ∧ va_P D vwCl (jm_w (jm_ad base bS bW) K M') t.heap ∧ va_F (fun q => base ≤ q) st t
def jm_I (base bS bW : Nat) (K : jm_K) (D : va_G) (L : Nat) (xs wd : Nat → Int32) (M : jm_M) (U : State) : Prop := jm_G base bS bW K D L xs wd U ∧ U.heap.size = base + M.1.length ∧ va_P D vwCl (jm_w (jm_ad base bS bW) K M) U.heap
def jm_Pc (base bS bW : Nat) (K : jm_K) (D : va_G) (L : Nat) (xs wd : Nat → Int32) (as : List Value) (M : jm_M) : Array Value → State → Prop := va_Pc (as.map (jm_tr (jm_ad base bS bW))) (jm_I base bS bW K D L xs wd M)
theorem jm_blind {base bS bW : Nat} {K : jm_K} {D : va_G} {L : Nat} {xs wd : Nat → Int32} {as : List Value} {M : jm_M} : FrameBlind (jm_Pc base bS bW K D L xs wd as M) := by
  intro a U g mk h
  obtain ⟨h1, h2, h3, h4⟩ := h
  refine ⟨h1, ?_, h3, h4⟩
  exact h2.move (U := U.calling g mk a) (State.WarmedH.refl U) (fun _ _ => rfl) (by show base ≤ U.heap.size; omega)
def jm_ws (t : Nat) : List Cond := .code (jm_y t) (jm_code t) (jm_ml t) (jm_rt t) :: jm_Tb
def jm_room (d mc ms : Nat) : Room := { frames := d + 1, cells := mc, slots := ms, locals := 60 * (d + 1) }
theorem jm_good {t : Nat} (ht : t < 223) : GoodIn jm_Tb (jm_ws t) := by
  intro w hw
  have hm : w ∈ jm_Tb := by
    rcases List.mem_cons.mp hw with rfl | h
    · exact jm_cwall t ht
    · exact h
  exact ⟨hm, good_of_word (List.mem_filter.mp hm).2⟩
section JMC
variable {p : Program} {l : Launch} {e : Env} {R : Room} {s : State} {m : MethodId} {args : Array Value} {below : List Frame} {meth : Method} {c : Code} {H : Heap} {locs : List Loc} {cells slots : Nat} {Q : State → Prop}
variable {base bS bW : Nat} {K : jm_K} {D : va_G} {L : Nat} {xs wd : Nat → Int32} {ls : Array Slot} {M : jm_M}
/-- behind a call -/
theorem jm_callk {mc ms pc : Nat} {rest st0 : List Value} {a : Array Value} {r1 : Option Value} {M1 : jm_M} (hr : va_Run p l e R s m args below meth c H locs cells slots mc ms (F0 m pc ls st0) rest (jm_Q base bS bW K D r1 M1 a) (fun q => base ≤ q)) (hS : va_S (fun q => base ≤ q) s.heap H locs)
    (kk : ∀ (H1 : Heap) (locs1 : List Loc), va_P D vwCl (jm_w (jm_ad base bS bW) K M1) H1 → va_S (fun q => base ≤ q) s.heap H1 locs1 → W p l e R s m args below meth c H1 locs1 (cells + mc) (slots + ms) Q (F0 m (pc + 3) ls ((r1.map (jm_tr (jm_ad base bS bW))).toList ++ rest))) : W p l e R s m args below meth c H locs cells slots Q (F0 m pc ls st0) := by
  intro T hT X
  obtain ⟨v, st₀, t, T', Lc, h0, X', hL, e1, e2, ⟨hv, hp, hz, hk⟩, st⟩ := hr T hT X
  cases hv
  rw [h0] at hz hk
  obtain ⟨t2, a1, b1⟩ := kk T'.heap (locs ++ Lc) (by rw [e1]; exact hp)
    ⟨Nat.le_trans hS.1 (by rw [e1]; exact hz), fun q h1 h2 => by rw [e1, hk q (Nat.lt_of_lt_of_le h1 hS.1) h2]; exact hS.2.1 q h1 h2, fun q hq => by
      rcases List.mem_append.mp hq with h | h
      · exact hS.2.2 q h
      · exact hL q h⟩ T' rfl X'
  exact ⟨t2, st t2 a1, b1⟩
theorem jm_pcs {as : List Value} (hG : jm_G base bS bW K D L xs wd s) (hP : va_P D vwCl (jm_w (jm_ad base bS bW) K M) H) (hS : va_S (fun q => base ≤ q) s.heap H locs) (hsz : H.size = base + M.1.length) : ∀ U : State, U.heap = H → s.WarmedH U.vm → jm_Pc base bS bW K D L xs wd as M (as.map (jm_tr (jm_ad base bS bW))).toArray U := by
  intro U hU hW
  refine ⟨rfl, hG.move hW (fun q hq => ?_) (by rw [hU]; omega), by rw [hU]; exact hsz, by rw [hU]; exact hP⟩
  rw [hU]
  exact hS.2.1 q (by have := hG.2.2.2.2.2.1; omega) (by omega)
theorem jm_recv {o cc : Nat} {rs : List (Option Nat)} (hG : jm_G base bS bW K D L xs wd s) (hP : va_P D vwCl (jm_w (jm_ad base bS bW) K M) H) (ho : jm_ob M o cc = some rs) : ∃ cell : Cell, H[jm_ad base bS bW o]? = some cell ∧ cell.vm.isStatics = false ∧ s.vm.findClass (jm_cnm cc) = some cell.cls := by
  obtain ⟨hc, n, hq⟩ := jm_ob_inv ho
  exact va_recv (q := (jm_cnm cc, jm_T cc, jm_N cc)) hG.1 hP (jm_clok cc hc) (q0 := o) (by rw [jm_w_at hq, jm_e_ob hc])
theorem jm_mfacts {t : Nat} (ht : t < 223) : Cond.initialized (jm_y t).cls ∈ jm_Tb ∧ (jm_sc t = true → Cond.static (jm_y t) ∈ jm_Tb) ∧ (jm_sc t = false → Cond.instanceMethod (jm_y t) ∈ jm_Tb ∧ ((jm_y t).name ≠ "<init>" → Cond.selects (jm_y t).cls (jm_y t) (jm_y t) ∈ jm_Tb)) ∧ plainName (jm_y t).cls = true ∧ ((jm_y t).cls ≠ "java/lang/invoke/MethodHandle" ∧ (jm_y t).cls ≠ "java/lang/invoke/VarHandle" ∧ (parseMethodDescriptor (jm_y t).desc).map (fun d => d.parameters.length) = some (jm_np t)) ∧ jm_cnm (jm_own t) = (jm_y t).cls ∧ jm_ml t ≤ 41 ∧ ((jm_y t).name = "<init>" → jm_rt t = none) := by
  have h := jm_mckall ht
  unfold jm_mck at h
  simp only [Bool.and_eq_true, decide_eq_true_eq, Bool.or_eq_true] at h
  obtain ⟨⟨⟨⟨⟨⟨⟨⟨h1, h2⟩, h3⟩, h4⟩, h5⟩, h6⟩, h7⟩, h8⟩, h9⟩ := h
  refine ⟨jm_at_mem h1, fun hs => ?_, fun hs => ?_, h3, ⟨h4, h5, h6⟩, h7, h8, fun q => ?_⟩
  · rw [hs] at h2
    exact jm_at_mem (by simpa using h2)
  · rw [hs] at h2
    simp only [Bool.false_eq_true, if_false, Bool.and_eq_true, Bool.or_eq_true, beq_iff_eq] at h2
    exact ⟨jm_at_mem h2.1, fun hn => jm_at_mem (h2.2.resolve_left hn)⟩
  · exact h9.resolve_left (fun z => z q)
theorem jm_m_ok {o x : Nat} {v : Nat × Bool × Nat} (h : jm_mT.lookup (o, x) = some v) : v.1 < 223 ∧ (v.2.1 = true → Cond.methodLinkNest (jm_cnm o) x (jm_y v.1) "JingleLaws" ∈ jm_nw) ∧ (v.2.1 = false → Cond.methodLink (jm_cnm o) x (jm_y v.1) ∈ jm_Tb) := by
  have h := List.all_eq_true.mp jm_mok _ (jm_lk h)
  simp only [Bool.and_eq_true, decide_eq_true_eq] at h
  refine ⟨h.1, fun q => ?_, fun q => ?_⟩
  · have h2 := h.2
    rw [q] at h2
    simpa using h2
  · have h2 := h.2
    rw [q] at h2
    exact jm_at_mem (by simpa using h2)
end JMC
