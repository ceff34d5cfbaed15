section JMI
variable {p : Program} {l : Launch} {e : Env} {R : Room} {s : State} {m : MethodId} {args : Array Value} {below : List Frame} {meth : Method} {c : Code} {H : Heap} {locs : List Loc} {cells slots : Nat} {Q : State → Prop}
variable {base bS bW : Nat} {K : jm_K} {D : va_G} {L : Nat} {xs wd : Nat → Int32} {ls : Array Slot} {stk : List Value} {M : jm_M}
theorem jm_s_getfield {j pc x : Nat} (hx : p.tables.exec = Jvm.exec) (hb : c.code = jm_code j) (hown : s.vm.findClass (jm_cnm (jm_own j)) = some m.cls) (hts : ∀ w ∈ jm_Tb, w.before args s = true) (hG : jm_G base bS bW K D L xs wd s) (hP : va_P D vwCl (jm_w (jm_ad base bS bW) K M) H) (hdec : decode (jm_code j) pc = .ok (.getfield x, 3))
    {o cc k : Nat} {pp : Nat} {st : List Value} {v : Value} (hf : jm_fT.lookup (jm_own j, x) = some (cc, k, pp)) (hv : jm_fld M o cc k = some v)
    (kk : W p l e R s m args below meth c H locs cells slots Q (F0 m (pc + 3) ls (jm_tr (jm_ad base bS bW) v :: st))) : W p l e R s m args below meth c H locs cells slots Q (F0 m pc ls (.ref (jm_ad base bS bW o) :: st)) := by
  obtain ⟨hc, hk, hw⟩ := jm_f_ok hf
  have hc : cc < 9 := hc
  have hk : k < jm_N cc := hk
  unfold jm_fld at hv
  cases hob : jm_ob M o cc with
  | none => rw [hob] at hv; cases hv
  | some rs =>
    rw [hob] at hv
    obtain ⟨-, n, ho⟩ := jm_ob_inv hob
    refine va_get (D := D) (cl := vwCl) (ref := (jm_T cc k).1) (C := jm_cnm cc) (T := jm_T cc) (N := jm_N cc) (ci := cc) (index := x) (v := jm_tr (jm_ad base bS bW) v) hx hb hts (jm_lays hc) hown hG.1 hP o (by rw [jm_w_at ho, jm_e_ob hc]) (jm_clok cc hc) k hk (hts _ hw) (fun _ q => q) ?_ hdec kk
    rw [jm_rm _ _ _ hk]
    unfold jm_fv
    by_cases hi : jm_isI cc k = true
    · simp only [hi, if_true] at hv ⊢
      cases hv
      rfl
    · dsimp only at hv
      rw [if_neg hi] at hv ⊢
      rw [List.getD_eq_getElem?_getD]
      cases hr : rs[k]? with
      | none => rw [hr] at hv; simp at hv
      | some t =>
        cases t with
        | none => rw [hr] at hv; simp at hv
        | some r =>
          rw [hr] at hv
          have hv : some (Value.ref r) = some v := hv
          cases hv
          rfl
theorem jm_s_putI {j pc x : Nat} (hx : p.tables.exec = Jvm.exec) (hb : c.code = jm_code j) (hown : s.vm.findClass (jm_cnm (jm_own j)) = some m.cls) (hts : ∀ w ∈ jm_Tb, w.before args s = true) (hG : jm_G base bS bW K D L xs wd s) (hM : M.1.length ≤ jx_S) (hP : va_P D vwCl (jm_w (jm_ad base bS bW) K M) H) (hS : va_S (fun q => base ≤ q) s.heap H locs) (hdec : decode (jm_code j) pc = .ok (.putfield x, 3))
    {o cc k : Nat} {pp : Nat} {st : List Value} {v : Int32} {rs : List (Option Nat)} (hf : jm_fT.lookup (jm_own j, x) = some (cc, k, pp)) (hob : jm_ob M o cc = some rs) (hi : jm_isI cc k = true)
    (kk : ∀ (H1 : Heap) (locs1 : List Loc), va_P D vwCl (jm_w (jm_ad base bS bW) K (M.1, jm_upd M.2.1 o k v, M.2.2)) H1 → va_S (fun q => base ≤ q) s.heap H1 locs1 → W p l e R s m args below meth c H1 locs1 cells slots Q (F0 m (pc + 3) ls st)) : W p l e R s m args below meth c H locs cells slots Q (F0 m pc ls (.int v :: .ref (jm_ad base bS bW o) :: st)) := by
  obtain ⟨hc, hk, hw⟩ := jm_f_ok hf
  have hc : cc < 9 := hc
  have hk : k < jm_N cc := hk
  obtain ⟨-, n, ho⟩ := jm_ob_inv hob
  have hty := jm_tyI hc hk hi
  refine va_put (D := D) (cl := vwCl) (A := fun q => base ≤ q) (ref := (jm_T cc k).1) (C := jm_cnm cc) (T := jm_T cc) (N := jm_N cc) (ci := cc) (index := x) (ty := .int) (v := .int v) hx hb hts (jm_lays hc) (jm_ty cc) (jm_tyok hc) (jm_nmok hc) hown hG.1 hP (jm_w_D hM) hS o (by rw [jm_w_at ho, jm_e_ob hc]) (jm_clok cc hc) k hk (hts _ hw) (fun _ q => q) hty.2 (by rw [jm_tyok hc k hk, hty.1]) rfl rfl (by rw [List.length_map, List.length_range]; exact hk) hdec (fun H1 locs1 hP1 _ hS1 => kk H1 locs1 ?_ hS1)
  have e : ((List.range (jm_N cc)).map (jm_fv (jm_ad base bS bW) (M.2.1 o) cc rs)).set k (.int v) = (List.range (jm_N cc)).map (jm_fv (jm_ad base bS bW) (upd (M.2.1 o) k v) cc rs) := by
    apply jm_rs
    · intro _
      unfold jm_fv
      rw [if_pos hi]
      simp [upd]
    · intro i hik
      unfold jm_fv
      by_cases q : jm_isI cc i = true
      · rw [if_pos q, if_pos q]
        simp [upd, hik]
      · rw [if_neg q, if_neg q]
  rw [e, ← jm_e_ob (K := K) (n := n) hc, jm_w_set (cc, n, rs) ho, jm_set_self ho] at hP1
  exact hP1
theorem jm_s_putR {j pc x : Nat} (hx : p.tables.exec = Jvm.exec) (hb : c.code = jm_code j) (hown : s.vm.findClass (jm_cnm (jm_own j)) = some m.cls) (hnm : (jm_y j).name = "<init>" → meth.name = "<init>") (hts : ∀ w ∈ jm_Tb, w.before args s = true) (hG : jm_G base bS bW K D L xs wd s) (hM : M.1.length ≤ jx_S) (hP : va_P D vwCl (jm_w (jm_ad base bS bW) K M) H) (hS : va_S (fun q => base ≤ q) s.heap H locs) (hdec : decode (jm_code j) pc = .ok (.putfield x, 3))
    {o cc k r n : Nat} {pp : Nat} {st : List Value} {rs : List (Option Nat)} (hf : jm_fT.lookup (jm_own j, x) = some (cc, k, pp)) (ho : M.1[o]? = some (cc, n, rs)) (hc : cc < 9) (hi : jm_isI cc k = false) (hk : k < jm_N cc) (hl : rs.length = jm_N cc) (hj : jm_own j = cc) (hini : (jm_y j).name = "<init>")
    (kk : ∀ (H1 : Heap) (locs1 : List Loc), va_P D vwCl (jm_w (jm_ad base bS bW) K (M.1.set o (cc, n, rs.set k (some r)), M.2)) H1 → va_S (fun q => base ≤ q) s.heap H1 locs1 → W p l e R s m args below meth c H1 locs1 cells slots Q (F0 m (pc + 3) ls st)) : W p l e R s m args below meth c H locs cells slots Q (F0 m pc ls (.ref (jm_ad base bS bW r) :: .ref (jm_ad base bS bW o) :: st)) := by
  obtain ⟨-, -, hw⟩ := jm_f_ok hf
  have hty := jm_tyR hc hk hi
  have hfit := jm_rk_fit hty.2.2 (jm_ad base bS bW r)
  refine va_putF (D := D) (cl := vwCl) (A := fun q => base ≤ q) (ref := (jm_T cc k).1) (C := jm_cnm cc) (T := jm_T cc) (N := jm_N cc) (ci := cc) (index := x) (ty := jm_ty cc k) (v := .ref (jm_ad base bS bW r)) hx hb hts (jm_lays hc) (jm_ty cc) (jm_tyok hc) (jm_nmok hc) hown hG.1 hP (jm_w_D hM) hS o (by rw [jm_w_at ho, jm_e_ob hc]) (jm_clok cc hc) k hk (hts _ hw) (fun _ q => q) hty.1 (hnm hini) (by rw [hj]; exact hty.2.1) (jm_tyok hc k hk) hfit.1 hfit.2.1 (by rw [List.length_map, List.length_range]; exact hk) hdec (fun H1 locs1 hP1 _ hS1 => kk H1 locs1 ?_ hS1)
  have e : ((List.range (jm_N cc)).map (jm_fv (jm_ad base bS bW) (M.2.1 o) cc rs)).set k (.ref (jm_ad base bS bW r)) = (List.range (jm_N cc)).map (jm_fv (jm_ad base bS bW) (M.2.1 o) cc (rs.set k (some r))) := by
    apply jm_rs
    · intro _
      unfold jm_fv
      rw [if_neg (by rw [hi]; decide), jm_getD_set _ _ _ _ (by omega), if_pos rfl]
      rfl
    · intro i hik
      unfold jm_fv
      by_cases q : jm_isI cc i = true
      · rw [if_pos q, if_pos q]
      · rw [if_neg q, if_neg q, jm_getD_set _ _ _ _ (by omega), if_neg hik]
  rw [e, ← jm_e_ob (K := K) (n := n) hc, jm_w_set (cc, n, rs.set k (some r)) ho, jm_row_self] at hP1
  exact hP1
theorem jm_e_9 {ad : Nat → Nat} {K : jm_K} {S : Nat → Int32} {n : Nat} {rs : List (Option Nat)} : jm_e ad K S (9, n, rs) = .inl (K.1, n, .inl S) := rfl
theorem jm_e_10 {ad : Nat → Nat} {K : jm_K} {S : Nat → Int32} {n : Nat} {rs : List (Option Nat)} : jm_e ad K S (10, n, rs) = .inl (K.2.1, n, .inl S) := rfl
theorem jm_e_11 {ad : Nat → Nat} {K : jm_K} {S : Nat → Int32} {n : Nat} {rs : List (Option Nat)} : jm_e ad K S (11, n, rs) = .inl (K.2.2.1, n, .inr (.inr (.inr (.inr (fun i => (rs.getD i none).map ad))))) := rfl
theorem jm_e_12 {ad : Nat → Nat} {K : jm_K} {S : Nat → Int32} {n : Nat} {rs : List (Option Nat)} : jm_e ad K S (12, n, rs) = .inl (K.2.2.2, n, .inr (.inr (.inr (.inr (fun i => (rs.getD i none).map ad))))) := rfl
theorem jm_s_iaload {j pc : Nat} (hx : p.tables.exec = Jvm.exec) (hb : c.code = jm_code j) (hG : jm_G base bS bW K D L xs wd s) (hM : jm_ok L xs wd M) (hP : va_P D vwCl (jm_w (jm_ad base bS bW) K M) H) (hS : va_S (fun q => base ≤ q) s.heap H locs) (hdec : decode (jm_code j) pc = .ok (.iaload, 1))
    {a n : Nat} {i : Int32} {st : List Value} (hl : jm_al M a = some n) (hi : jm_in i n = true)
    (kk : W p l e R s m args below meth c H locs cells slots Q (F0 m (pc + 1) ls (.int (M.2.1 a i.toNatClampNeg) :: st))) : W p l e R s m args below meth c H locs cells slots Q (F0 m pc ls (.int i :: .ref (jm_ad base bS bW a) :: st)) := by
  unfold jm_al at hl
  obtain ⟨g1, g2, g3, g4, g5, g6, -⟩ := hG
  by_cases e1 : a = jx_S
  · subst e1
    rw [if_pos rfl, hM.2.2.2, if_neg (Nat.succ_ne_zero L), Nat.add_sub_cancel] at hl
    cases hl
    have e : jm_ad base bS bW jx_S = bS := rfl
    rw [e]
    rw [hM.2.1] at kk
    exact va_sld hx hb g2 (by omega) (by show ¬ base ≤ bS; omega) hS (jm_in_vp hi) hdec kk
  · rw [if_neg e1] at hl
    by_cases e2 : a = jx_W
    · subst e2
      rw [if_pos rfl] at hl
      cases hl
      have e : jm_ad base bS bW jx_W = bW := rfl
      rw [e]
      rw [hM.2.2.1] at kk
      exact va_ti hx hb g4 hS (jm_in_vp hi) rfl hdec kk
    · rw [if_neg e2] at hl
      cases hq : M.1[a]? with
      | none => rw [hq] at hl; cases hl
      | some q =>
        obtain ⟨c', n', rs⟩ := q
        rw [hq] at hl
        by_cases e9 : c' = 9
        · subst e9
          simp only [if_true] at hl
          cases hl
          exact va_iald hx hb g1 hP a 0 (by rw [jm_w_at hq, jm_e_9]) rfl (jm_in_vp hi) hdec kk
        · simp only [e9, if_false] at hl
          cases hl
theorem jm_s_iastore {j pc : Nat} (hx : p.tables.exec = Jvm.exec) (hb : c.code = jm_code j) (hG : jm_G base bS bW K D L xs wd s) (hM : M.1.length ≤ jx_S) (hP : va_P D vwCl (jm_w (jm_ad base bS bW) K M) H) (hS : va_S (fun q => base ≤ q) s.heap H locs) (hdec : decode (jm_code j) pc = .ok (.iastore, 1))
    {a n : Nat} {i x : Int32} {st : List Value} (hl : jm_wl M a 9 = some n) (hi : jm_in i n = true)
    (kk : ∀ (H1 : Heap) (locs1 : List Loc), va_P D vwCl (jm_w (jm_ad base bS bW) K (M.1, jm_upd M.2.1 a i.toNatClampNeg x, M.2.2)) H1 → va_S (fun q => base ≤ q) s.heap H1 locs1 → W p l e R s m args below meth c H1 locs1 cells slots Q (F0 m (pc + 1) ls st)) : W p l e R s m args below meth c H locs cells slots Q (F0 m pc ls (.int x :: .int i :: .ref (jm_ad base bS bW a) :: st)) := by
  obtain ⟨rs, hq⟩ := jm_wl_inv hl
  refine va_iast hx hb hG.1 hP (jm_w_D hM) hS a 0 (by rw [jm_w_at hq, jm_e_9]) rfl (jm_in_vp hi) hdec (fun H1 locs1 hP1 _ hS1 => kk H1 locs1 ?_ hS1)
  rw [← jm_e_9 (ad := jm_ad base bS bW) (rs := rs), jm_w_set (9, n, rs) hq, jm_set_self hq] at hP1
  exact hP1
theorem jm_s_baload {j pc : Nat} (hx : p.tables.exec = Jvm.exec) (hb : c.code = jm_code j) (hG : jm_G base bS bW K D L xs wd s) (hP : va_P D vwCl (jm_w (jm_ad base bS bW) K M) H) (hdec : decode (jm_code j) pc = .ok (.baload, 1))
    {a n : Nat} {i : Int32} {st : List Value} (hl : jm_wl M a 10 = some n) (hi : jm_in i n = true)
    (kk : W p l e R s m args below meth c H locs cells slots Q (F0 m (pc + 1) ls (.int (M.2.1 a i.toNatClampNeg) :: st))) : W p l e R s m args below meth c H locs cells slots Q (F0 m pc ls (.int i :: .ref (jm_ad base bS bW a) :: st)) := by
  obtain ⟨rs, hq⟩ := jm_wl_inv hl
  exact va_zald hx hb hG.1 hP a 1 (by rw [jm_w_at hq, jm_e_10]) rfl (jm_in_vp hi) hdec kk
theorem jm_s_bastore {j pc : Nat} (hx : p.tables.exec = Jvm.exec) (hb : c.code = jm_code j) (hG : jm_G base bS bW K D L xs wd s) (hM : M.1.length ≤ jx_S) (hP : va_P D vwCl (jm_w (jm_ad base bS bW) K M) H) (hS : va_S (fun q => base ≤ q) s.heap H locs) (hdec : decode (jm_code j) pc = .ok (.bastore, 1))
    {a n : Nat} {i x : Int32} {st : List Value} (hl : jm_wl M a 10 = some n) (hi : jm_in i n = true)
    (kk : ∀ (H1 : Heap) (locs1 : List Loc), va_P D vwCl (jm_w (jm_ad base bS bW) K (M.1, jm_upd M.2.1 a i.toNatClampNeg (vp_nar .boolean x), M.2.2)) H1 → va_S (fun q => base ≤ q) s.heap H1 locs1 → W p l e R s m args below meth c H1 locs1 cells slots Q (F0 m (pc + 1) ls st)) : W p l e R s m args below meth c H locs cells slots Q (F0 m pc ls (.int x :: .int i :: .ref (jm_ad base bS bW a) :: st)) := by
  obtain ⟨rs, hq⟩ := jm_wl_inv hl
  refine va_zast hx hb hG.1 hP (jm_w_D hM) hS a 1 (by rw [jm_w_at hq, jm_e_10]) rfl (jm_in_vp hi) hdec (fun H1 locs1 hP1 _ hS1 => kk H1 locs1 ?_ hS1)
  rw [← jm_e_10 (ad := jm_ad base bS bW) (rs := rs), jm_w_set (10, n, rs) hq, jm_set_self hq] at hP1
  exact hP1
theorem jm_s_aaload {j pc : Nat} (hx : p.tables.exec = Jvm.exec) (hb : c.code = jm_code j) (hG : jm_G base bS bW K D L xs wd s) (hP : va_P D vwCl (jm_w (jm_ad base bS bW) K M) H) (hdec : decode (jm_code j) pc = .ok (.aaload, 1))
    {a n cc r : Nat} {rs : List (Option Nat)} {i : Int32} {st : List Value} (hq : M.1[a]? = some (cc, n, rs)) (hc : cc = 11 ∨ cc = 12) (hi : jm_in i n = true) (hr : rs[i.toNatClampNeg]? = some (some r))
    (kk : W p l e R s m args below meth c H locs cells slots Q (F0 m (pc + 1) ls (.ref (jm_ad base bS bW r) :: st))) : W p l e R s m args below meth c H locs cells slots Q (F0 m pc ls (.int i :: .ref (jm_ad base bS bW a) :: st)) := by
  have hv : va_rf ((rs.getD i.toNatClampNeg none).map (jm_ad base bS bW)) = .ref (jm_ad base bS bW r) := by
    rw [List.getD_eq_getElem?_getD, hr]; rfl
  rcases hc with rfl | rfl
  · refine va_aldq hx hb hG.1 hP a 2 (by rw [jm_w_at hq, jm_e_11]) rfl (jm_in_vp hi) hdec ?_
    show W p l e R s m args below meth c H locs cells slots Q (F0 m (pc + 1) ls (va_rf ((rs.getD i.toNatClampNeg none).map (jm_ad base bS bW)) :: st))
    rw [hv]
    exact kk
  · have hin := jm_in_vp hi
    have hlt : i.toNatClampNeg < n := Nat.not_le.mp fun q => hin (Or.inr q)
    have hw := hP a _ (by rw [jm_w_at hq, jm_e_12])
    exact W.aald (v := .ref (jm_ad base bS bW r)) (ty := .array .int) hx hb hw ((hG.1.2 3 _ rfl).1 n (fun j => va_rf ((rs.getD j none).map (jm_ad base bS bW)))) rfl (fun q => by cases q) (by show ¬ (i < 0 ∨ (arrV _ _ _).slots.size ≤ _); rw [arrV_size]; exact hin) (by show (arrV _ _ _).slots[_]? = _; rw [arrV_read _ _ hlt, hv]) rfl rfl hdec kk
theorem jm_s_aastore {j pc : Nat} (hx : p.tables.exec = Jvm.exec) (hb : c.code = jm_code j) (hG : jm_G base bS bW K D L xs wd s) (hM : M.1.length ≤ jx_S) (hP : va_P D vwCl (jm_w (jm_ad base bS bW) K M) H) (hS : va_S (fun q => base ≤ q) s.heap H locs) (hdec : decode (jm_code j) pc = .ok (.aastore, 1))
    {a n v : Nat} {rs rv : List (Option Nat)} {i : Int32} {st : List Value} (hq : M.1[a]? = some (11, n, rs)) (hi : jm_in i n = true) (hl : rs.length = n) (hv : jm_ob M v 2 = some rv)
    (kk : ∀ (H1 : Heap) (locs1 : List Loc), va_P D vwCl (jm_w (jm_ad base bS bW) K (M.1.set a (11, n, rs.set i.toNatClampNeg (some v)), M.2)) H1 → va_S (fun q => base ≤ q) s.heap H1 locs1 → W p l e R s m args below meth c H1 locs1 cells slots Q (F0 m (pc + 1) ls st)) : W p l e R s m args below meth c H locs cells slots Q (F0 m pc ls (.ref (jm_ad base bS bW v) :: .int i :: .ref (jm_ad base bS bW a) :: st)) := by
  have hin := jm_in_vp hi
  have hlt : i.toNatClampNeg < n := Nat.not_le.mp fun q => hin (Or.inr q)
  obtain ⟨-, n2, hq2⟩ := jm_ob_inv hv
  refine va_astq hx hb hG.1 hP (jm_w_D hM) hS a 2 v 2 (by rw [jm_w_at hq, jm_e_11]) rfl (by rw [jm_w_at hq2, jm_e_ob (by decide)]) (jm_clok 2 (by decide)) hin hdec (fun H1 locs1 hP1 _ hS1 => kk H1 locs1 ?_ hS1)
  have e : va_up (fun i => (rs.getD i none).map (jm_ad base bS bW)) i.toNatClampNeg (some (jm_ad base bS bW v)) = fun k => ((rs.set i.toNatClampNeg (some v)).getD k none).map (jm_ad base bS bW) := by
    funext k
    rw [jm_getD_set _ _ _ _ (by omega)]
    unfold va_up
    by_cases q : k = i.toNatClampNeg
    · rw [if_pos q, if_pos q]; rfl
    · rw [if_neg q, if_neg q]
  rw [e, ← jm_e_11 (ad := jm_ad base bS bW) (S := M.2.1 a), jm_w_set (11, n, rs.set i.toNatClampNeg (some v)) hq, jm_row_self] at hP1
  exact hP1
end JMI
