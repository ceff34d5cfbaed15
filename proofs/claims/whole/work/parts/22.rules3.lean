theorem jm_gd_y {t : Nat} (h : jm_gd t = true) : t < 223 ∧ (jm_y t).name ≠ "<init>" := by
  unfold jm_gd at h
  rw [Bool.and_eq_true, decide_eq_true_eq, decide_eq_true_eq] at h
  exact h
theorem jm_ownck : (List.range 223).all (fun t => jm_sc t || decide (jm_own t < 9)) = true := by decide +kernel
theorem jm_own_lt {t : Nat} (h : t < 223) (hs : jm_sc t = false) : jm_own t < 9 := by
  have h1 := List.all_eq_true.mp jm_ownck t (List.mem_range.mpr h)
  rw [hs] at h1
  simpa using h1
def jm_sw (x : Int32) : List (Int32 × Nat) → Nat → Nat
  | [], d => d
  | (k, t) :: r, d => if x = k then t else jm_sw x r d
def jm_mk (pc : Nat) : Int → List Int → List (Int32 × Nat)
  | _, [] => []
  | lo, o :: os => (Int32.ofInt lo, ((pc : Int) + o).toNat) :: jm_mk pc (lo + 1) os
theorem jm_ofI {x : Int32} {z : Int} (h1 : -2147483648 ≤ z) (h2 : z < 2147483648) : x = Int32.ofInt z ↔ x.toInt = z := by
  constructor
  · rintro rfl
    rw [Int32.toInt_ofInt]
    exact Int.bmod_eq_of_le (by show -(((4294967296 : Nat) : Int) / 2) ≤ z; omega) (by show z < (((4294967296 : Nat) : Int) + 1) / 2; omega)
  · intro h
    rw [← h, Int32.ofInt_toInt]
theorem jm_sw_out {x : Int32} {d pc : Nat} : ∀ (offs : List Int) (lo : Int), -2147483648 ≤ lo → lo + offs.length ≤ 2147483648 → (x.toInt < lo ∨ lo + offs.length ≤ x.toInt) → jm_sw x (jm_mk pc lo offs) d = d
  | [], _, _, _, _ => rfl
  | o :: os, lo, h1, h2, h => by
    rw [List.length_cons] at h2 h
    rw [jm_mk, jm_sw, if_neg (fun q => by rw [jm_ofI h1 (by omega)] at q; omega)]
    exact jm_sw_out os (lo + 1) (by omega) (by omega) (by omega)
theorem jm_sw_in {x : Int32} {d pc : Nat} : ∀ (offs : List Int) (lo o : Int), -2147483648 ≤ lo → lo + offs.length ≤ 2147483648 → ¬ x.toInt < lo → offs[(x.toInt - lo).toNat]? = some o → jm_sw x (jm_mk pc lo offs) d = ((pc : Int) + o).toNat
  | [], _, _, _, _, _, h => by simp at h
  | o :: os, lo, o', h1, h2, h3, h => by
    rw [List.length_cons] at h2
    by_cases e : x.toInt = lo
    · rw [jm_mk, jm_sw, if_pos ((jm_ofI h1 (by omega)).mpr e)]
      rw [e, Int.sub_self] at h
      simp at h
      rw [h]
    · rw [jm_mk, jm_sw, if_neg (fun q => by rw [jm_ofI h1 (by omega)] at q; omega)]
      refine jm_sw_in os (lo + 1) o' (by omega) (by omega) (by omega) ?_
      rw [show (x.toInt - lo).toNat = (x.toInt - (lo + 1)).toNat + 1 by omega] at h
      simpa using h
section JMT
variable {L d j pc n : Nat} {loc stk st : List Value} {S : jm_I2} {Z : Option Value → jm_I2 → Prop} {t : Nat}
def jm_tck (pc : Nat) (df lo hi : Int) (offs : Array Int) : Bool := decide (0 ≤ (pc : Int) + df) && offs.toList.all (fun o => decide (0 ≤ (pc : Int) + o)) && decide (-2147483648 ≤ lo) && decide (lo + offs.toList.length ≤ 2147483648) && decide (hi + 1 = lo + offs.toList.length)
theorem q_tsw {df lo hi : Int} {offs : Array Int} {x : Int32} (hf : jm_fetch j pc = some (.tableswitch df lo hi offs, n)) (hk : jm_tck pc df lo hi offs = true) : WQ L d j pc loc (.int x :: st) S Z ↔ WQ L d j (jm_sw x (jm_mk pc lo offs.toList) ((pc : Int) + df).toNat) loc st S Z := by
  unfold jm_tck at hk
  simp only [Bool.and_eq_true, decide_eq_true_eq] at hk
  obtain ⟨⟨⟨⟨k1, k2⟩, k3⟩, k4⟩, k5⟩ := hk
  refine q_p hf ?_
  simp only [jm_pure]
  by_cases h : x.toInt < lo ∨ hi < x.toInt
  · rw [if_pos h, jm_sw_out offs.toList lo k3 k4 (by omega)]
    unfold jm_jp
    rw [if_pos k1]
  · rw [if_neg h]
    have hlt : (x.toInt - lo).toNat < offs.toList.length := by omega
    have hq : offs.toList[(x.toInt - lo).toNat]? = some (offs.toList[(x.toInt - lo).toNat]'hlt) := List.getElem?_eq_getElem hlt
    have hq2 : offs[(x.toInt - lo).toNat]? = some (offs.toList[(x.toInt - lo).toNat]'hlt) := by rw [← Array.getElem?_toList]; exact hq
    rw [hq2, jm_sw_in offs.toList lo _ k3 k4 (by omega) hq]
    dsimp only
    unfold jm_jp
    have h0 := List.all_eq_true.mp k2 _ (List.getElem_mem hlt)
    rw [decide_eq_true_eq] at h0
    rw [if_pos h0]
theorem q_sw_nil {x : Int32} {dt : Nat} : WQ L d j (jm_sw x [] dt) loc st S Z ↔ WQ L d j dt loc st S Z := Iff.rfl
theorem q_sw_cons {x k : Int32} {dt : Nat} {r : List (Int32 × Nat)} : WQ L d j (jm_sw x ((k, t) :: r) dt) loc st S Z ↔ if x = k then WQ L d j t loc st S Z else WQ L d j (jm_sw x r dt) loc st S Z := by
  rw [jm_sw, q_ite]
theorem q_getI {x o c k pp : Nat} (hf : jm_fetch j pc = some (.getfield x, n)) (ht : jm_fT.lookup (jm_own j, x) = some (c, k, pp)) (hi : jm_isI c k = true) : WQ L d j pc loc (.ref o :: st) S Z ↔ (jm_kd o = c ∧ WQ L d j (pc + 3) loc (.int (S o k) :: st) S Z) := by
  have hc : c < 9 := (jm_f_ok ht).1
  have hh : jm_heap j pc (.getfield x) (.ref o :: st) (jm_sh, S, L) = if jm_kd o = c then some (pc + 3, .int (S o k) :: st, (jm_sh, S, L)) else none := by
    simp only [jm_heap, ht, jm_fld, jm_ob, jm_kd, hi, if_true]
    rcases Option.eq_none_or_eq_some (jm_sh[o]?) with hq | ⟨⟨c', n', rs⟩, hq⟩
    · simp [hq, show ¬ 99 = c by omega]
    · simp only [hq]
      by_cases e : c' = c
      · simp [e, hc]
      · simp [e]
  by_cases h : jm_kd o = c
  · rw [if_pos h] at hh
    rw [q_h hf rfl hh]; simp [h]
  · rw [if_neg h] at hh
    rw [q_x hf rfl hh rfl rfl]; simp [h]
theorem q_getR {x o c k pp : Nat} (hf : jm_fetch j pc = some (.getfield x, n)) (ht : jm_fT.lookup (jm_own j, x) = some (c, k, pp)) (hi : jm_isI c k = false) : WQ L d j pc loc (.ref o :: st) S Z ↔ (jm_kd o = c ∧ WQ L d j (pc + 3) loc (.ref (jm_rf o k) :: st) S Z) := by
  have hc : c < 9 := (jm_f_ok ht).1
  have hk : k < jm_N c := (jm_f_ok ht).2.1
  have hh : jm_heap j pc (.getfield x) (.ref o :: st) (jm_sh, S, L) = if jm_kd o = c then some (pc + 3, .ref (jm_rf o k) :: st, (jm_sh, S, L)) else none := by
    simp only [jm_heap, ht, jm_fld, jm_ob, jm_kd, hi, Bool.false_eq_true, if_false]
    rcases Option.eq_none_or_eq_some (jm_sh[o]?) with hq | ⟨⟨c', n', rs⟩, hq⟩
    · simp [hq, show ¬ 99 = c by omega]
    · simp only [hq]
      by_cases e : c' = c
      · subst e
        have := jm_rf_ok hq hc hk hi
        simp [hc, this]
      · simp [e]
  by_cases h : jm_kd o = c
  · rw [if_pos h] at hh
    rw [q_h hf rfl hh]; simp [h]
  · rw [if_neg h] at hh
    rw [q_x hf rfl hh rfl rfl]; simp [h]
theorem q_putI {x o c k pp : Nat} {v : Int32} (hf : jm_fetch j pc = some (.putfield x, n)) (ht : jm_fT.lookup (jm_own j, x) = some (c, k, pp)) (hi : jm_isI c k = true) : WQ L d j pc loc (.int v :: .ref o :: st) S Z ↔ (jm_kd o = c ∧ WQ L d j (pc + 3) loc st (jm_upd S o k v) Z) := by
  have hc : c < 9 := (jm_f_ok ht).1
  have hh : jm_heap j pc (.putfield x) (.int v :: .ref o :: st) (jm_sh, S, L) = if jm_kd o = c then some (pc + 3, st, (jm_sh, jm_upd S o k v, L)) else none := by
    simp only [jm_heap, ht, jm_ob, jm_kd, hi, and_true]
    rcases Option.eq_none_or_eq_some (jm_sh[o]?) with hq | ⟨⟨c', n', rs⟩, hq⟩
    · simp [hq, show ¬ 99 = c by omega]
    · simp only [hq]
      by_cases e : c' = c
      · simp [e, hc]
      · simp [e]
  by_cases h : jm_kd o = c
  · rw [if_pos h] at hh
    rw [q_h hf rfl hh]; simp [h]
  · rw [if_neg h] at hh
    rw [q_x hf rfl hh rfl rfl]; simp [h]
theorem q_gets {x pp : Nat} (hf : jm_fetch j pc = some (.getstatic x, n)) (ht : jm_gT.lookup (jm_own j, x) = some pp) : WQ L d j pc loc stk S Z ↔ WQ L d j (pc + 3) loc (.ref jx_W :: stk) S Z := q_h hf rfl (by simp [jm_heap, ht])
theorem jm_al_S (S : jm_I2) (L a : Nat) : jm_al (jm_sh, S, L) a = jm_al (jm_sh, fun _ _ => 0, L) a := rfl
theorem q_iaload {i : Int32} {a : Nat} (hf : jm_fetch j pc = some (.iaload, n)) : WQ L d j pc loc (.int i :: .ref a :: st) S Z ↔ (jm_in i (jm_ll L a) = true ∧ WQ L d j (pc + 1) loc (.int (S a i.toNatClampNeg) :: st) S Z) := by
  have hh : jm_heap j pc .iaload (.int i :: .ref a :: st) (jm_sh, S, L) = if jm_in i (jm_ll L a) = true then some (pc + 1, .int (S a i.toNatClampNeg) :: st, (jm_sh, S, L)) else none := by
    simp only [jm_heap, jm_ll, jm_al_S S]
    rcases Option.eq_none_or_eq_some (jm_al (jm_sh, fun _ _ => 0, L) a) with hq | ⟨m, hq⟩
    · simp [hq, jm_in]
    · simp [hq]
  by_cases h : jm_in i (jm_ll L a) = true
  · rw [if_pos h] at hh
    rw [q_h hf rfl hh]; simp [h]
  · rw [if_neg h] at hh
    rw [q_x hf rfl hh rfl rfl]; simp [h]
theorem jm_wl_S (S : jm_I2) (L a k : Nat) : jm_wl (jm_sh, S, L) a k = jm_wl (jm_sh, fun _ _ => 0, 0) a k := rfl
theorem q_iast {i x : Int32} {a : Nat} (hf : jm_fetch j pc = some (.iastore, n)) : WQ L d j pc loc (.int x :: .int i :: .ref a :: st) S Z ↔ (jm_in i (jm_lw 9 a) = true ∧ WQ L d j (pc + 1) loc st (jm_upd S a i.toNatClampNeg x) Z) := by
  have hh : jm_heap j pc .iastore (.int x :: .int i :: .ref a :: st) (jm_sh, S, L) = if jm_in i (jm_lw 9 a) = true then some (pc + 1, st, (jm_sh, jm_upd S a i.toNatClampNeg x, L)) else none := by
    simp only [jm_heap, jm_lw, jm_wl_S S L]
    rcases Option.eq_none_or_eq_some (jm_wl (jm_sh, fun _ _ => 0, 0) a 9) with hq | ⟨m, hq⟩
    · simp [hq, jm_in]
    · simp [hq]
  by_cases h : jm_in i (jm_lw 9 a) = true
  · rw [if_pos h] at hh
    rw [q_h hf rfl hh]; simp [h]
  · rw [if_neg h] at hh
    rw [q_x hf rfl hh rfl rfl]; simp [h]
theorem q_baload {i : Int32} {a : Nat} (hf : jm_fetch j pc = some (.baload, n)) : WQ L d j pc loc (.int i :: .ref a :: st) S Z ↔ (jm_in i (jm_lw 10 a) = true ∧ WQ L d j (pc + 1) loc (.int (S a i.toNatClampNeg) :: st) S Z) := by
  have hh : jm_heap j pc .baload (.int i :: .ref a :: st) (jm_sh, S, L) = if jm_in i (jm_lw 10 a) = true then some (pc + 1, .int (S a i.toNatClampNeg) :: st, (jm_sh, S, L)) else none := by
    simp only [jm_heap, jm_lw, jm_wl_S S L]
    rcases Option.eq_none_or_eq_some (jm_wl (jm_sh, fun _ _ => 0, 0) a 10) with hq | ⟨m, hq⟩
    · simp [hq, jm_in]
    · simp [hq]
  by_cases h : jm_in i (jm_lw 10 a) = true
  · rw [if_pos h] at hh
    rw [q_h hf rfl hh]; simp [h]
  · rw [if_neg h] at hh
    rw [q_x hf rfl hh rfl rfl]; simp [h]
theorem q_bast {i x : Int32} {a : Nat} (hf : jm_fetch j pc = some (.bastore, n)) : WQ L d j pc loc (.int x :: .int i :: .ref a :: st) S Z ↔ (jm_in i (jm_lw 10 a) = true ∧ WQ L d j (pc + 1) loc st (jm_upd S a i.toNatClampNeg (vp_nar .boolean x)) Z) := by
  have hh : jm_heap j pc .bastore (.int x :: .int i :: .ref a :: st) (jm_sh, S, L) = if jm_in i (jm_lw 10 a) = true then some (pc + 1, st, (jm_sh, jm_upd S a i.toNatClampNeg (vp_nar .boolean x), L)) else none := by
    simp only [jm_heap, jm_lw, jm_wl_S S L]
    rcases Option.eq_none_or_eq_some (jm_wl (jm_sh, fun _ _ => 0, 0) a 10) with hq | ⟨m, hq⟩
    · simp [hq, jm_in]
    · simp [hq]
  by_cases h : jm_in i (jm_lw 10 a) = true
  · rw [if_pos h] at hh
    rw [q_h hf rfl hh]; simp [h]
  · rw [if_neg h] at hh
    rw [q_x hf rfl hh rfl rfl]; simp [h]
theorem q_aald {i : Int32} {a : Nat} (hf : jm_fetch j pc = some (.aaload, n)) : WQ L d j pc loc (.int i :: .ref a :: st) S Z ↔ (jm_in i (jm_lq a) = true ∧ WQ L d j (pc + 1) loc (.ref (jm_rf a i.toNatClampNeg) :: st) S Z) := by
  have hh : jm_heap j pc .aaload (.int i :: .ref a :: st) (jm_sh, S, L) = if jm_in i (jm_lq a) = true then some (pc + 1, .ref (jm_rf a i.toNatClampNeg) :: st, (jm_sh, S, L)) else none := by
    simp only [jm_heap, jm_lq]
    rcases Option.eq_none_or_eq_some (jm_sh[a]?) with hq | ⟨⟨c, m, rs⟩, hq⟩
    · simp [hq, jm_in]
    · simp only [hq]
      by_cases hc : c = 11 ∨ c = 12
      · rw [if_pos hc]
        by_cases hi : jm_in i m = true
        · rw [if_pos ⟨hc, hi⟩, if_pos hi]
          have hlt : i.toNatClampNeg < m := by
            have := jm_in_vp hi
            exact Nat.not_le.mp fun q => this (Or.inr q)
          rw [jm_rr_ok hq hc hlt]
        · rw [if_neg (fun z => hi z.2), if_neg hi]
      · rw [if_neg hc, if_neg (fun z => hc z.1)]
        simp [jm_in]
  by_cases h : jm_in i (jm_lq a) = true
  · rw [if_pos h] at hh
    rw [q_h hf rfl hh]; simp [h]
  · rw [if_neg h] at hh
    rw [q_x hf rfl hh rfl rfl]; simp [h]
theorem q_alen {a : Nat} (hf : jm_fetch j pc = some (.arraylength, n)) : WQ L d j pc loc (.ref a :: st) S Z ↔ (jm_ha L a = true ∧ WQ L d j (pc + 1) loc (.int (nI (jm_la L a)) :: st) S Z) := by
  have e1 : jm_ha L a = (jm_ln (jm_sh, S, L) a).isSome := rfl
  have e2 : jm_la L a = (jm_ln (jm_sh, S, L) a).getD 0 := rfl
  rcases Option.eq_none_or_eq_some (jm_ln (jm_sh, S, L) a) with hq | ⟨m, hq⟩
  · rw [hq] at e1
    rw [q_x hf rfl (by simp [jm_heap, hq]) rfl rfl, e1]; simp
  · rw [hq] at e1 e2
    rw [q_h (pc' := pc + 1) (stk' := .int (Int32.ofNat m) :: st) (S' := S) hf rfl (by simp [jm_heap, hq]), e1, e2]
    simp [nI]
theorem q_max {x : Nat} {pp : Nat} {u v : Int32} (hf : jm_fetch j pc = some (.invokestatic x, n)) (h1 : jm_cpT.lookup (jm_own j, x) = none) (h2 : jm_mxT.lookup (jm_own j, x) = some pp) (hs : jm_cs st ≤ 8) : WQ L d j pc loc (.int v :: .int u :: st) S Z ↔ WQ L d j (pc + 3) loc (.int (if u < v then v else u) :: st) S Z := q_h hf rfl (by simp [jm_heap, h1, h2, hs])
theorem q_min {x : Nat} {pp : Nat} {u v : Int32} (hf : jm_fetch j pc = some (.invokestatic x, n)) (h1 : jm_cpT.lookup (jm_own j, x) = none) (h2 : jm_mxT.lookup (jm_own j, x) = none) (h3 : jm_mnT.lookup (jm_own j, x) = some pp) (hs : jm_cs st ≤ 8) : WQ L d j pc loc (.int v :: .int u :: st) S Z ↔ WQ L d j (pc + 3) loc (.int (if v < u then v else u) :: st) S Z := q_h hf rfl (by simp [jm_heap, h1, h2, h3, hs])
theorem q_copy {x : Nat} {pp a b : Nat} {m dp sp : Int32} (hf : jm_fetch j pc = some (.invokestatic x, n)) (h1 : jm_cpT.lookup (jm_own j, x) = some pp) (hs : jm_cs st ≤ 8) (hb : jm_kd b = 9) (ha : jm_kd a = 9) (c1 : ¬ sp < 0) (c2 : ¬ dp < 0) (c3 : ¬ m < 0) (c4 : sp.toNatClampNeg + m.toNatClampNeg ≤ jm_lw 9 b) (c5 : dp.toNatClampNeg + m.toNatClampNeg ≤ jm_lw 9 a) : WQ L d j pc loc (.int m :: .int dp :: .ref a :: .int sp :: .ref b :: st) S Z ↔ WQ L d j (pc + 3) loc st (jm_row S a (va_cpy (S b) (S a) sp.toNatClampNeg dp.toNatClampNeg m.toNatClampNeg)) Z := by
  have key : ∀ o, jm_kd o = 9 → jm_wl (jm_sh, fun _ _ => 0, 0) o 9 = some (jm_lw 9 o) := by
    intro o ho
    unfold jm_lw
    unfold jm_kd at ho
    unfold jm_wl
    cases hq : jm_sh[o]? with
    | none => rw [hq] at ho; cases ho
    | some q =>
      rw [hq] at ho
      obtain ⟨c', n', rs⟩ := q
      have ho : c' = 9 := ho
      subst ho
      rfl
  refine q_h hf rfl ?_
  simp only [jm_heap, h1, Option.isSome_some, if_true, jm_wl_S S L, key b hb, key a ha]
  rw [if_pos ⟨c1, c2, c3, c4, c5, hs⟩]
theorem q_iret {x : Int32} (hf : jm_fetch j pc = some (.ireturn, n)) (hr : jm_rt j = some .int) : WQ L d j pc loc [.int x] S Z ↔ Z (some (.int x)) S := q_ret hf rfl rfl (by simp [jm_ret, hr])
theorem q_zret {x : Int32} (hf : jm_fetch j pc = some (.ireturn, n)) (hr : jm_rt j = some .boolean) : WQ L d j pc loc [.int x] S Z ↔ ((x = 0 ∨ x = 1) ∧ Z (some (.int x)) S) := by
  by_cases h : x = 0 ∨ x = 1
  · rw [q_ret (r := some (.int x)) hf rfl rfl (by simp [jm_ret, hr, h])]; simp [h]
  · rw [q_x hf rfl rfl (by simp [jm_ret, hr, h]) rfl]; simp [h]
theorem q_lret {x : Int64} (hf : jm_fetch j pc = some (.lreturn, n)) (hr : jm_rt j = some .long) : WQ L d j pc loc [.long x] S Z ↔ Z (some (.long x)) S := q_ret hf rfl rfl (by simp [jm_ret, hr])
theorem q_aret {x : Nat} (hf : jm_fetch j pc = some (.areturn, n)) (hr : jm_rt j = some (.object "JingleLaws$Camp")) : WQ L d j pc loc [.ref x] S Z ↔ Z (some (.ref x)) S := q_ret hf rfl rfl (by simp [jm_ret, hr])
theorem q_vret (hf : jm_fetch j pc = some (.return_, n)) (hr : jm_rt j = none) : WQ L d j pc loc [] S Z ↔ Z none S := q_ret hf rfl rfl (by simp [jm_ret, hr])
/-- a call, from a method's place on -/
def CL (L d t : Nat) (as : List Value) (S : jm_I2) (Z : Option Value → jm_I2 → Prop) : Prop := ∃ l0, jm_ent t as = some l0 ∧ WQ L d t 0 l0 [] S Z
theorem CL.mono {L d t : Nat} {as : List Value} {S : jm_I2} {Z Z' : Option Value → jm_I2 → Prop} (h : CL L d t as S Z) (hz : ∀ r S', Z r S' → Z' r S') : CL L d t as S Z' := by
  obtain ⟨l0, h1, h2⟩ := h
  exact ⟨l0, h1, h2.mono hz⟩
theorem CL_of {as l0 : List Value} (h : jm_ent t as = some l0) : CL L d t as S Z ↔ WQ L d t 0 l0 [] S Z := by
  constructor
  · rintro ⟨l1, h1, h2⟩
    rw [h] at h1
    cases h1
    exact h2
  · exact fun h2 => ⟨l0, h, h2⟩
theorem q_noent {i : Instr} {as rest : List Value} (hf : jm_fetch j pc = some (i, n)) (hp : jm_pure j pc i loc stk = none) (hh : jm_heap j pc i stk (jm_sh, S, L) = none) (hr : jm_ret j i stk = none) (hc : jm_call j i stk (jm_sh, S, L) = some (t, as, rest)) (he : jm_ent t as = none) : WQ L (d + 1) j pc loc stk S Z ↔ False := q_none (fun f => by rw [jm_run, hf]; dsimp only; rw [hp]; dsimp only; rw [hh]; dsimp only; rw [hr]; dsimp only; rw [hc]; dsimp only; rw [he])
theorem q_cl {i : Instr} {as rest : List Value} (hf : jm_fetch j pc = some (i, n)) (hp : jm_pure j pc i loc stk = none) (hh : jm_heap j pc i stk (jm_sh, S, L) = none) (hr : jm_ret j i stk = none) (hc : jm_call j i stk (jm_sh, S, L) = some (t, as, rest)) (hg : jm_gd t = true) : WQ L (d + 1) j pc loc stk S Z ↔ CL L d t as S (fun r S1 => WQ L (d + 1) j (pc + 3) loc (r.toList ++ rest) S1 Z) := by
  cases he : jm_ent t as with
  | none =>
    rw [q_noent hf hp hh hr hc he]
    constructor
    · exact False.elim
    · rintro ⟨l1, h1, h2⟩
      rw [he] at h1
      cases h1
  | some l0 => rw [q_call hf hp hh hr hc he hg, CL_of he]
def jm_csk (j x t np : Nat) : Bool := decide ((jm_cpT.lookup (jm_own j, x)) = none) && decide ((jm_mxT.lookup (jm_own j, x)) = none) && decide ((jm_mnT.lookup (jm_own j, x)) = none) && decide ((jm_mT.lookup (jm_own j, x)).map (fun q => q.1) = some t) && jm_gd t && jm_sc t && decide (jm_np t = np)
theorem q_cs {x : Nat} (as : List Value) {rest : List Value} (hf : jm_fetch j pc = some (.invokestatic x, n)) (hk : jm_csk j x t as.length = true) (hs : jm_cs rest ≤ 8) (hst : stk = as.reverse ++ rest) : WQ L (d + 1) j pc loc stk S Z ↔ CL L d t as S (fun r S1 => WQ L (d + 1) j (pc + 3) loc (r.toList ++ rest) S1 Z) := by
  unfold jm_csk at hk
  simp only [Bool.and_eq_true, decide_eq_true_eq] at hk
  obtain ⟨⟨⟨⟨⟨⟨k1, k2⟩, k3⟩, k4⟩, k5⟩, k6⟩, k7⟩ := hk
  obtain ⟨⟨t', nest, pp⟩, k8, k9⟩ := Option.map_eq_some_iff.mp k4
  have k9 : t' = t := k9
  subst k9
  subst hst
  refine q_cl hf rfl (by simp [jm_heap, k1, k2, k3]) rfl ?_ k5
  simp only [jm_call, k8, k6, k7, true_and]
  have e1 : (as.reverse ++ rest).drop as.length = rest := by rw [List.drop_append_of_le_length (by simp)]; simp
  have e2 : (as.reverse ++ rest).take as.length = as.reverse := by rw [List.take_append_of_le_length (by simp), List.take_of_length_le (by simp)]
  rw [e1, e2, if_pos ⟨by simp, hs⟩, List.reverse_reverse]
def jm_cvk (j x t np : Nat) : Bool := decide ((jm_mT.lookup (jm_own j, x)).map (fun q => q.1) = some t) && jm_gd t && !(jm_sc t) && decide (jm_np t = np)
theorem q_cv {x o c : Nat} (as : List Value) {rest : List Value} (hf : jm_fetch j pc = some (.invokevirtual x, n)) (hk : jm_cvk j x t as.length = true) (hc : jm_own t = c) (hs : jm_cs rest ≤ 8) (hst : stk = as.reverse ++ .ref o :: rest) : WQ L (d + 1) j pc loc stk S Z ↔ (jm_kd o = c ∧ CL L d t (.ref o :: as) S (fun r S1 => WQ L (d + 1) j (pc + 3) loc (r.toList ++ rest) S1 Z)) := by
  subst hc
  unfold jm_cvk at hk
  simp only [Bool.and_eq_true, decide_eq_true_eq, Bool.not_eq_true'] at hk
  obtain ⟨⟨⟨k4, k5⟩, k6⟩, k7⟩ := hk
  obtain ⟨⟨t', nest, pp⟩, k8, k9⟩ := Option.map_eq_some_iff.mp k4
  have k9 : t' = t := k9
  subst k9
  subst hst
  have e1 : (as.reverse ++ .ref o :: rest).drop as.length = .ref o :: rest := by rw [List.drop_append_of_le_length (by simp)]; simp
  have e2 : (as.reverse ++ .ref o :: rest).take as.length = as.reverse := by rw [List.take_append_of_le_length (by simp), List.take_of_length_le (by simp)]
  have hown9 : (jm_ob (jm_sh, S, L) o (jm_own t')).isSome = true ↔ (jm_kd o = jm_own t' ∧ jm_own t' < 9) := by
    unfold jm_ob jm_kd
    cases hq : jm_sh[o]? with
    | none =>
      simp
      intro h
      omega
    | some q =>
      obtain ⟨c', n', rs⟩ := q
      by_cases e : c' = jm_own t' ∧ jm_own t' < 9
      · simp [e]
      · simp [e]
  have ho9 : jm_kd o = jm_own t' → jm_own t' < 9 := by
    intro h
    have h1 := (jm_mfacts (jm_gd_y k5).1).2.2.1 k6
    by_cases h2 : jm_own t' < 9
    · exact h2
    · exfalso
      have : (jm_ob (jm_sh, S, L) o (jm_own t')).isSome = true ∨ True := Or.inr trivial
      have hk2 := jm_own_lt (jm_gd_y k5).1 k6
      omega
  by_cases h : jm_kd o = jm_own t'
  · rw [q_cl (as := .ref o :: as) (rest := rest) hf rfl rfl rfl ?_ k5]
    · simp [h]
    · simp only [jm_call, k8, k6, k7, true_and]
      rw [if_pos (by simp), e1, e2]
      dsimp only
      rw [if_pos ⟨hown9.mpr ⟨h, ho9 h⟩, hs, (jm_gd_y k5).2⟩, List.reverse_reverse]
  · rw [q_x hf rfl rfl rfl ?_]
    · simp [h]
    · simp only [jm_call, k8, k6, k7, true_and]
      rw [if_pos (by simp), e1, e2]
      dsimp only
      rw [if_neg (fun z => h (hown9.mp z.1).1)]
end JMT
def jm_lck (pc : Nat) (df : Int) (ps : Array (Int × Int)) : Bool := (ps.toList.zip (ps.toList.drop 1)).all (fun (a, next) => a.1 < next.1) && decide (0 ≤ (pc : Int) + df) && ps.toList.all (fun q => decide (0 ≤ (pc : Int) + q.2) && decide (-2147483648 ≤ q.1) && decide (q.1 < 2147483648))
def jm_lm (pc : Nat) (ps : List (Int × Int)) : List (Int32 × Nat) := ps.map (fun q => (Int32.ofInt q.1, ((pc : Int) + q.2).toNat))
theorem jm_lsw {x : Int32} {pc : Nat} {df : Int} (h0 : 0 ≤ (pc : Int) + df) : ∀ (ps : List (Int × Int)), ps.all (fun q => decide (0 ≤ (pc : Int) + q.2) && decide (-2147483648 ≤ q.1) && decide (q.1 < 2147483648)) = true → 0 ≤ (pc : Int) + Op.lookupswitch.offset ps df x.toInt ∧ ((pc : Int) + Op.lookupswitch.offset ps df x.toInt).toNat = jm_sw x (jm_lm pc ps) ((pc : Int) + df).toNat
  | [], _ => ⟨h0, rfl⟩
  | (k, o) :: r, h => by
    rw [List.all_cons, Bool.and_eq_true] at h
    have ih := jm_lsw (x := x) h0 r h.2
    have h1 := h.1
    simp only [Bool.and_eq_true, decide_eq_true_eq] at h1
    obtain ⟨⟨g1, g2⟩, g3⟩ := h1
    have e := jm_ofI (x := x) g2 g3
    by_cases q : x.toInt = k
    · have q2 : x = Int32.ofInt k := e.mpr q
      have eo : Op.lookupswitch.offset ((k, o) :: r) df x.toInt = o := by
        simp [Op.lookupswitch.offset, q]
      rw [eo]
      refine ⟨g1, ?_⟩
      show _ = jm_sw x ((Int32.ofInt k, ((pc : Int) + o).toNat) :: jm_lm pc r) _
      rw [jm_sw, if_pos q2]
    · have q2 : ¬ x = Int32.ofInt k := fun z => q (e.mp z)
      have eo : Op.lookupswitch.offset ((k, o) :: r) df x.toInt = Op.lookupswitch.offset r df x.toInt := by
        simp [Op.lookupswitch.offset, Ne.symm q]
      rw [eo]
      refine ⟨ih.1, ?_⟩
      show _ = jm_sw x ((Int32.ofInt k, ((pc : Int) + o).toNat) :: jm_lm pc r) _
      rw [jm_sw, if_neg q2]
      exact ih.2
theorem q_lsw {L d j pc n : Nat} {loc st : List Value} {S : jm_I2} {Z : Option Value → jm_I2 → Prop} {df : Int} {ps : Array (Int × Int)} {x : Int32} (hf : jm_fetch j pc = some (.lookupswitch df ps, n)) (hk : jm_lck pc df ps = true) : WQ L d j pc loc (.int x :: st) S Z ↔ WQ L d j (jm_sw x (jm_lm pc ps.toList) ((pc : Int) + df).toNat) loc st S Z := by
  unfold jm_lck at hk
  simp only [Bool.and_eq_true, decide_eq_true_eq] at hk
  obtain ⟨⟨k1, k2⟩, k3⟩ := hk
  obtain ⟨g1, g2⟩ := jm_lsw (x := x) k2 ps.toList k3
  refine q_p hf ?_
  simp only [jm_pure]
  rw [if_pos k1]
  unfold jm_jp
  rw [if_pos g1, g2]
