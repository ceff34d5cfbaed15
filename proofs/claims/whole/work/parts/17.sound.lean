section JMD
variable {p : Program} {l : Launch} {e : Env} {R : Room} {s : State} {m : MethodId} {args : Array Value} {below : List Frame} {meth : Method} {c : Code} {H : Heap} {locs : List Loc} {cells slots : Nat} {Q : State → Prop}
variable {base bS bW : Nat} {K : jm_K} {D : va_G} {L : Nat} {xs wd : Nat → Int32} {ls : Array Slot} {M : jm_M}
theorem jm_cs_tr (ad : Nat → Nat) (st : List Value) : ((st.map (jm_tr ad)).map fun v => v.category).sum = jm_cs st := by
  unfold jm_cs
  rw [List.map_map, show (fun v : Value => v.category) ∘ jm_tr ad = fun v => v.category from funext (fun v => jm_tr_cat _ v)]
theorem jm_stk (ad : Nat → Nat) (stk : List Value) (n : Nat) : stk.map (jm_tr ad) = (((stk.take n).reverse).map (jm_tr ad)).reverse ++ (stk.drop n).map (jm_tr ad) := by
  rw [List.map_reverse, List.reverse_reverse, ← List.map_append, List.take_append_drop]
set_option maxHeartbeats 4000000 in
theorem jm_do_call {j pc n d t : Nat} {i : Instr} {stk as rest : List Value} {r1 : Option Value} {M1 : jm_M} (hx : p.tables.exec = Jvm.exec) (hb : c.code = jm_code j) (hml : c.maxLocals = ls.size) (hown : s.vm.findClass (jm_cnm (jm_own j)) = some m.cls) (hts : ∀ w ∈ jm_Tb, w.before args s = true) (hG : jm_G base bS bW K D L xs wd s) (hM : jm_ok L xs wd M) (hP : va_P D vwCl (jm_w (jm_ad base bS bW) K M) H) (hS : va_S (fun q => base ≤ q) s.heap H locs) (hcn : s.heap.size + cells = base + M.1.length) (hR : (d + 1) + 1 ≤ R.frames ∧ 60 * ((d + 1) + 1) ≤ R.locals)
    (hdec : decode (jm_code j) pc = .ok (i, n)) (hn : n = jm_len i ∨ jm_len i = 0) (hc : jm_call j i stk M = some (t, as, rest)) (h1 : cells + (M1.1.length - M.1.length) ≤ R.cells) (h2 : slots + (jm_tot M1 - jm_tot M) ≤ R.slots)
    (hMet : t < 223 → Met l (jm_y t) (jm_ws t) (jm_room d (M1.1.length - M.1.length) (jm_tot M1 - jm_tot M)) (jm_Pc base bS bW K D L xs wd as M) (jm_Q base bS bW K D r1 M1) (M1.1.length - M.1.length) (jm_tot M1 - jm_tot M) (fun q => base ≤ q))
    (kk : ∀ (H1 : Heap) (locs1 : List Loc), va_P D vwCl (jm_w (jm_ad base bS bW) K M1) H1 → va_S (fun q => base ≤ q) s.heap H1 locs1 → W p l e R s m args below meth c H1 locs1 (cells + (M1.1.length - M.1.length)) (slots + (jm_tot M1 - jm_tot M)) Q (F0 m (pc + 3) ls ((r1.toList ++ rest).map (jm_tr (jm_ad base bS bW))))) : W p l e R s m args below meth c H locs cells slots Q (F0 m pc ls (stk.map (jm_tr (jm_ad base bS bW)))) := by
  have kk : ∀ (H1 : Heap) (locs1 : List Loc), va_P D vwCl (jm_w (jm_ad base bS bW) K M1) H1 → va_S (fun q => base ≤ q) s.heap H1 locs1 → W p l e R s m args below meth c H1 locs1 (cells + (M1.1.length - M.1.length)) (slots + (jm_tot M1 - jm_tot M)) Q (F0 m (pc + 3) ls ((r1.map (jm_tr (jm_ad base bS bW))).toList ++ rest.map (jm_tr (jm_ad base bS bW)))) := fun H1 locs1 q1 q2 => by
    have := kk H1 locs1 q1 q2
    rw [List.map_append] at this
    cases r1 <;> exact this
  have step : H.size = base + M.1.length → W p l e R s m args below meth c H locs cells slots Q (F0 m pc ls (stk.map (jm_tr (jm_ad base bS bW)))) := by
    intro hsz
    cases i
    all_goals (first | (simp only [jm_call] at hc; cases hc; done) | skip)
    all_goals (first | (obtain hn | hn := hn <;> first | (subst hn; skip) | (exfalso; simp [jm_len] at hn; done)) | skip)
    case invokestatic x =>
      simp only [jm_call] at hc
      split at hc
      · rename_i t' nest pp hlk
        split at hc
        · rename_i hq
          cases hc
          obtain ⟨ht, hN, hO⟩ := jm_m_ok hlk
          have ht : t < 223 := ht
          obtain ⟨f1, f2, -, -, f5, f6, f7, -⟩ := jm_mfacts ht
          have hlen : ((((stk.take (jm_np t)).reverse).map (jm_tr (jm_ad base bS bW)))).length = jm_np t := by
            rw [List.length_map, List.length_reverse, List.length_take]; omega
          have hroom : (jm_room d (M1.1.length - M.1.length) (jm_tot M1 - jm_tot M)).frames + 1 ≤ R.frames ∧ 8 + (jm_ml t + 11) + (jm_room d (M1.1.length - M.1.length) (jm_tot M1 - jm_tot M)).locals ≤ R.locals := ⟨hR.1, by show 8 + (jm_ml t + 11) + 60 * (d + 1) ≤ R.locals; omega⟩
          have hpre : PreS s H (jm_Pc base bS bW K D L xs wd ((stk.take (jm_np t)).reverse) M) (((stk.take (jm_np t)).reverse).map (jm_tr (jm_ad base bS bW))) := ⟨jm_blind, jm_pcs hG hP hS hsz⟩
          cases nest with
          | false =>
            have hl := hts _ (hO rfl)
            exact jm_callk (a := (((stk.take (jm_np t)).reverse).map (jm_tr (jm_ad base bS bW))).toArray) (va_runS (Ts := jm_Tb) (rest := (stk.drop (jm_np t)).map (jm_tr (jm_ad base bS bW))) ⟨hx, hb, hml, hown, hts⟩ (hMet ht) ⟨callB_of (jm_np t) hts (jm_good ht) rfl rfl rfl (hts _ f1) hl f5 hroom, hts _ (f2 hq.1)⟩ hpre rfl hlen rfl (jm_stk _ _ _) (lv_room (by rw [jm_cs_tr]; exact hq.2.2)) hdec ⟨h1, h2⟩) hS kk
          | true =>
            have hl := hG.2.2.2.2.2.2.2.2 _ (hN rfl)
            exact jm_callk (a := (((stk.take (jm_np t)).reverse).map (jm_tr (jm_ad base bS bW))).toArray) (va_runSN (Ts := jm_Tb) (rest := (stk.drop (jm_np t)).map (jm_tr (jm_ad base bS bW))) ⟨hx, hb, hml, hown, hts⟩ (hMet ht) ⟨va_cnB (jm_np t) hts (jm_good ht) rfl rfl rfl hl (hts _ f1) f5 hroom, hts _ (f2 hq.1), trivial⟩ hpre rfl hlen rfl (jm_stk _ _ _) (lv_room (by rw [jm_cs_tr]; exact hq.2.2)) hdec ⟨h1, h2⟩) hS kk
        · cases hc
      · cases hc
    case invokevirtual x =>
      simp only [jm_call] at hc
      split at hc
      · rename_i t' nest pp hlk
        split at hc
        · rename_i hq
          split at hc
          · rename_i o st hst
            split at hc
            · rename_i hq2
              cases hc
              obtain ⟨ht, hN, hO⟩ := jm_m_ok hlk
              have ht : t < 223 := ht
              obtain ⟨f1, -, f3, -, f5, f6, f7, -⟩ := jm_mfacts ht
              obtain ⟨f3, f4⟩ := f3 hq.1
              have f4 := f4 hq2.2.2
              obtain ⟨rs, hrs⟩ := Option.isSome_iff_exists.mp hq2.1
              have hrec := jm_recv hG hP hrs
              rw [f6] at hrec
              have hlen : ((((stk.take (jm_np t)).reverse).map (jm_tr (jm_ad base bS bW)))).length = jm_np t := by
                rw [List.length_map, List.length_reverse, List.length_take]; omega
              have hroom : (jm_room d (M1.1.length - M.1.length) (jm_tot M1 - jm_tot M)).frames + 1 ≤ R.frames ∧ 8 + (jm_ml t + 11) + (jm_room d (M1.1.length - M.1.length) (jm_tot M1 - jm_tot M)).locals ≤ R.locals := ⟨hR.1, by show 8 + (jm_ml t + 11) + 60 * (d + 1) ≤ R.locals; omega⟩
              have hpre : PreV s H (jm_y t).cls (jm_ad base bS bW o) (jm_Pc base bS bW K D L xs wd (.ref o :: (stk.take (jm_np t)).reverse) M) (((stk.take (jm_np t)).reverse).map (jm_tr (jm_ad base bS bW))) := ⟨jm_blind, hrec, jm_pcs (as := .ref o :: (stk.take (jm_np t)).reverse) hG hP hS hsz⟩
              have hstk : stk.map (jm_tr (jm_ad base bS bW)) = (((stk.take (jm_np t)).reverse).map (jm_tr (jm_ad base bS bW))).reverse ++ .ref (jm_ad base bS bW o) :: rest.map (jm_tr (jm_ad base bS bW)) := by
                rw [jm_stk _ stk (jm_np t), hst]; rfl
              cases nest with
              | false =>
                have hl := hts _ (hO rfl)
                exact jm_callk (a := (Value.ref (jm_ad base bS bW o) :: ((stk.take (jm_np t)).reverse).map (jm_tr (jm_ad base bS bW))).toArray) (va_runV (Ts := jm_Tb) (rest := rest.map (jm_tr (jm_ad base bS bW))) ⟨hx, hb, hml, hown, hts⟩ (hMet ht) ⟨callB_of (jm_np t) hts (jm_good ht) rfl rfl rfl (hts _ f1) hl f5 hroom, hts _ f3, hts _ f4⟩ hpre rfl hlen rfl hstk (lv_room (by rw [jm_cs_tr]; exact hq2.2.1)) hdec ⟨h1, h2⟩) hS kk
              | true =>
                have hl := hG.2.2.2.2.2.2.2.2 _ (hN rfl)
                exact jm_callk (a := (Value.ref (jm_ad base bS bW o) :: ((stk.take (jm_np t)).reverse).map (jm_tr (jm_ad base bS bW))).toArray) (va_runVN (Ts := jm_Tb) (rest := rest.map (jm_tr (jm_ad base bS bW))) ⟨hx, hb, hml, hown, hts⟩ (hMet ht) ⟨va_cnB (jm_np t) hts (jm_good ht) rfl rfl rfl hl (hts _ f1) f5 hroom, hts _ f3, hts _ f4⟩ hpre rfl hlen rfl hstk (lv_room (by rw [jm_cs_tr]; exact hq2.2.1)) hdec ⟨h1, h2⟩) hS kk
            · cases hc
          · cases hc
        · cases hc
      · cases hc
    case invokespecial x =>
      simp only [jm_call] at hc
      split at hc
      · rename_i t' nest pp hlk
        split at hc
        · rename_i hq
          split at hc
          · rename_i o st hst
            split at hc
            · rename_i hq2
              cases hc
              obtain ⟨ht, hN, hO⟩ := jm_m_ok hlk
              have ht : t < 223 := ht
              obtain ⟨f1, -, f3, -, f5, f6, f7, f8⟩ := jm_mfacts ht
              obtain ⟨f3, -⟩ := f3 hq.1
              have hrt := f8 hq2.2
              have hlen : ((((stk.take (jm_np t)).reverse).map (jm_tr (jm_ad base bS bW)))).length = jm_np t := by
                rw [List.length_map, List.length_reverse, List.length_take]; omega
              have hroom : (jm_room d (M1.1.length - M.1.length) (jm_tot M1 - jm_tot M)).frames + 1 ≤ R.frames ∧ 8 + (jm_ml t + 11) + (jm_room d (M1.1.length - M.1.length) (jm_tot M1 - jm_tot M)).locals ≤ R.locals := ⟨hR.1, by show 8 + (jm_ml t + 11) + 60 * (d + 1) ≤ R.locals; omega⟩
              have hpre : PreS s H (jm_Pc base bS bW K D L xs wd (.ref o :: (stk.take (jm_np t)).reverse) M) (.ref (jm_ad base bS bW o) :: ((stk.take (jm_np t)).reverse).map (jm_tr (jm_ad base bS bW))) := ⟨jm_blind, jm_pcs (as := .ref o :: (stk.take (jm_np t)).reverse) hG hP hS hsz⟩
              have hstk : stk.map (jm_tr (jm_ad base bS bW)) = (((stk.take (jm_np t)).reverse).map (jm_tr (jm_ad base bS bW))).reverse ++ .ref (jm_ad base bS bW o) :: rest.map (jm_tr (jm_ad base bS bW)) := by
                rw [jm_stk _ stk (jm_np t), hst]; rfl
              have hws : jm_ws t = Cond.code (jm_y t) (jm_code t) (jm_ml t) none :: jm_Tb := by unfold jm_ws; rw [hrt]
              cases nest with
              | false =>
                have hl := hts _ (hO rfl)
                exact jm_callk (a := (Value.ref (jm_ad base bS bW o) :: ((stk.take (jm_np t)).reverse).map (jm_tr (jm_ad base bS bW))).toArray) (va_runI (Ts := jm_Tb) (rest := rest.map (jm_tr (jm_ad base bS bW))) ⟨hx, hb, hml, hown, hts⟩ (hMet ht) ⟨callB_of (jm_np t) hts (jm_good ht) hws rfl rfl (hts _ f1) hl f5 hroom, hq2.2, hts _ f3⟩ hpre rfl hlen rfl hstk (lv_room (by rw [jm_cs_tr]; exact hq2.1)) hdec ⟨h1, h2⟩) hS kk
              | true =>
                have hl := hG.2.2.2.2.2.2.2.2 _ (hN rfl)
                exact jm_callk (a := (Value.ref (jm_ad base bS bW o) :: ((stk.take (jm_np t)).reverse).map (jm_tr (jm_ad base bS bW))).toArray) (va_runIN (Ts := jm_Tb) (rest := rest.map (jm_tr (jm_ad base bS bW))) ⟨hx, hb, hml, hown, hts⟩ (hMet ht) ⟨va_cnB (jm_np t) hts (jm_good ht) hws rfl rfl hl (hts _ f1) f5 hroom, hq2.2, hts _ f3⟩ hpre rfl hlen rfl hstk (lv_room (by rw [jm_cs_tr]; exact hq2.1)) hdec ⟨h1, h2⟩) hS kk
            · cases hc
          · cases hc
        · cases hc
      · cases hc
  intro T hT X
  exact step (jm_hsz X hT hM.1 hP hS hG.2.2.2.2.2.1 hcn) T hT X
end JMD
