section JMR
variable {L d j pc n : Nat} {loc stk st : List Value} {S : jm_I2} {Z : Option Value → jm_I2 → Prop} {t : Nat}
theorem q_iconst {z : Int} (v : Int32) (hf : jm_fetch j pc = some (.iconst z, n)) (hv : Int32.ofInt z = v) : WQ L d j pc loc stk S Z ↔ WQ L d j (pc + 1) loc (.int v :: stk) S Z := q_p hf (by subst hv; rfl)
theorem q_bipush {z : Int} (v : Int32) (hf : jm_fetch j pc = some (.bipush z, n)) (hv : (Int8.ofInt z).toInt32 = v) : WQ L d j pc loc stk S Z ↔ WQ L d j (pc + 2) loc (.int v :: stk) S Z := q_p hf (by subst hv; rfl)
theorem q_sipush {z : Int} (v : Int32) (hf : jm_fetch j pc = some (.sipush z, n)) (hv : (Int16.ofInt z).toInt32 = v) : WQ L d j pc loc stk S Z ↔ WQ L d j (pc + 3) loc (.int v :: stk) S Z := q_p hf (by subst hv; rfl)
theorem q_lconst {z : Fin 2} (v : Int64) (hf : jm_fetch j pc = some (.lconst z, n)) (hv : Int64.ofNat (z : Nat) = v) : WQ L d j pc loc stk S Z ↔ WQ L d j (pc + 1) loc (.long v :: stk) S Z := q_p hf (by subst hv; rfl)
theorem q_ldc {x pp : Nat} {v : Int32} (hf : jm_fetch j pc = some (.ldc x, n)) (hk : jm_kT.lookup (jm_own j, x) = some (v, pp)) : WQ L d j pc loc stk S Z ↔ WQ L d j (pc + 2) loc (.int v :: stk) S Z := q_p hf (by simp only [jm_pure, hk, Option.map_some])
theorem q_ldcw {x pp : Nat} {v : Int32} (hf : jm_fetch j pc = some (.ldc_w x, n)) (hk : jm_kT.lookup (jm_own j, x) = some (v, pp)) : WQ L d j pc loc stk S Z ↔ WQ L d j (pc + 3) loc (.int v :: stk) S Z := q_p hf (by simp only [jm_pure, hk, Option.map_some])
theorem q_ldc2 {x pp : Nat} {v : Int64} (hf : jm_fetch j pc = some (.ldc2_w x, n)) (hk : jm_lT.lookup (jm_own j, x) = some (v, pp)) : WQ L d j pc loc stk S Z ↔ WQ L d j (pc + 3) loc (.long v :: stk) S Z := q_p hf (by simp only [jm_pure, hk, Option.map_some])
theorem q_iload_n {x : Fin 4} {v : Int32} (hf : jm_fetch j pc = some (.iload_n x, n)) (hl : loc[(x : Nat)]? = some (.int v)) : WQ L d j pc loc stk S Z ↔ WQ L d j (pc + 1) loc (.int v :: stk) S Z := q_p hf (by simp only [jm_pure, jm_ldi, hl])
theorem q_iload {x : Nat} {v : Int32} (hf : jm_fetch j pc = some (.iload x, n)) (hl : loc[x]? = some (.int v)) : WQ L d j pc loc stk S Z ↔ WQ L d j (pc + 2) loc (.int v :: stk) S Z := q_p hf (by simp only [jm_pure, jm_ldi, hl])
theorem q_lload_n {x : Fin 4} {v : Int64} (hf : jm_fetch j pc = some (.lload_n x, n)) (hl : loc[(x : Nat)]? = some (.long v)) : WQ L d j pc loc stk S Z ↔ WQ L d j (pc + 1) loc (.long v :: stk) S Z := q_p hf (by simp only [jm_pure, jm_ldl, hl])
theorem q_lload {x : Nat} {v : Int64} (hf : jm_fetch j pc = some (.lload x, n)) (hl : loc[x]? = some (.long v)) : WQ L d j pc loc stk S Z ↔ WQ L d j (pc + 2) loc (.long v :: stk) S Z := q_p hf (by simp only [jm_pure, jm_ldl, hl])
theorem q_aload_n {x : Fin 4} {v : Nat} (hf : jm_fetch j pc = some (.aload_n x, n)) (hl : loc[(x : Nat)]? = some (.ref v)) : WQ L d j pc loc stk S Z ↔ WQ L d j (pc + 1) loc (.ref v :: stk) S Z := q_p hf (by simp only [jm_pure, jm_lda, hl])
theorem q_aload {x : Nat} {v : Nat} (hf : jm_fetch j pc = some (.aload x, n)) (hl : loc[x]? = some (.ref v)) : WQ L d j pc loc stk S Z ↔ WQ L d j (pc + 2) loc (.ref v :: stk) S Z := q_p hf (by simp only [jm_pure, jm_lda, hl])
theorem q_istore_n {x : Fin 4} {v : Int32} {loc' : List Value} (hf : jm_fetch j pc = some (.istore_n x, n)) (hl : jm_st1 loc (x : Nat) (.int v) = some loc') : WQ L d j pc loc (.int v :: st) S Z ↔ WQ L d j (pc + 1) loc' st S Z := q_p hf (by simp only [jm_pure, jm_sti, hl, Option.map_some])
theorem q_istore {x : Nat} {v : Int32} {loc' : List Value} (hf : jm_fetch j pc = some (.istore x, n)) (hl : jm_st1 loc x (.int v) = some loc') : WQ L d j pc loc (.int v :: st) S Z ↔ WQ L d j (pc + 2) loc' st S Z := q_p hf (by simp only [jm_pure, jm_sti, hl, Option.map_some])
theorem q_astore_n {x : Fin 4} {v : Nat} {loc' : List Value} (hf : jm_fetch j pc = some (.astore_n x, n)) (hl : jm_st1 loc (x : Nat) (.ref v) = some loc') : WQ L d j pc loc (.ref v :: st) S Z ↔ WQ L d j (pc + 1) loc' st S Z := q_p hf (by simp only [jm_pure, jm_sta, hl, Option.map_some])
theorem q_astore {x : Nat} {v : Nat} {loc' : List Value} (hf : jm_fetch j pc = some (.astore x, n)) (hl : jm_st1 loc x (.ref v) = some loc') : WQ L d j pc loc (.ref v :: st) S Z ↔ WQ L d j (pc + 2) loc' st S Z := q_p hf (by simp only [jm_pure, jm_sta, hl, Option.map_some])
theorem q_lstore_n {x : Fin 4} {v : Int64} {loc' : List Value} (hf : jm_fetch j pc = some (.lstore_n x, n)) (hl : jm_st2 loc (x : Nat) (.long v) = some loc') : WQ L d j pc loc (.long v :: st) S Z ↔ WQ L d j (pc + 1) loc' st S Z := q_p hf (by simp only [jm_pure, jm_stl, hl, Option.map_some])
theorem q_lstore {x : Nat} {v : Int64} {loc' : List Value} (hf : jm_fetch j pc = some (.lstore x, n)) (hl : jm_st2 loc x (.long v) = some loc') : WQ L d j pc loc (.long v :: st) S Z ↔ WQ L d j (pc + 2) loc' st S Z := q_p hf (by simp only [jm_pure, jm_stl, hl, Option.map_some])
theorem q_iinc {x : Nat} {z : Int} {v : Int32} {loc' : List Value} (w : Int32) (hf : jm_fetch j pc = some (.iinc x z, n)) (hw : Int32.ofInt z = w) (hl : loc[x]? = some (.int v)) (hs : jm_st1 loc x (.int (v + w)) = some loc') : WQ L d j pc loc stk S Z ↔ WQ L d j (pc + 3) loc' stk S Z := q_p hf (by subst hw; simp only [jm_pure, hl, hs, Option.map_some])
theorem q_iadd {x y : Int32} (hf : jm_fetch j pc = some (.iadd, n)) : WQ L d j pc loc (.int y :: .int x :: st) S Z ↔ WQ L d j (pc + 1) loc (.int (x + y) :: st) S Z := q_p hf rfl
theorem q_isub {x y : Int32} (hf : jm_fetch j pc = some (.isub, n)) : WQ L d j pc loc (.int y :: .int x :: st) S Z ↔ WQ L d j (pc + 1) loc (.int (x - y) :: st) S Z := q_p hf rfl
theorem q_imul {x y : Int32} (hf : jm_fetch j pc = some (.imul, n)) : WQ L d j pc loc (.int y :: .int x :: st) S Z ↔ WQ L d j (pc + 1) loc (.int (x * y) :: st) S Z := q_p hf rfl
theorem q_iand {x y : Int32} (hf : jm_fetch j pc = some (.iand, n)) : WQ L d j pc loc (.int y :: .int x :: st) S Z ↔ WQ L d j (pc + 1) loc (.int (x &&& y) :: st) S Z := q_p hf rfl
theorem q_ior {x y : Int32} (hf : jm_fetch j pc = some (.ior, n)) : WQ L d j pc loc (.int y :: .int x :: st) S Z ↔ WQ L d j (pc + 1) loc (.int (x ||| y) :: st) S Z := q_p hf rfl
theorem q_ixor {x y : Int32} (hf : jm_fetch j pc = some (.ixor, n)) : WQ L d j pc loc (.int y :: .int x :: st) S Z ↔ WQ L d j (pc + 1) loc (.int (x ^^^ y) :: st) S Z := q_p hf rfl
theorem q_ishl {x y : Int32} (hf : jm_fetch j pc = some (.ishl, n)) : WQ L d j pc loc (.int y :: .int x :: st) S Z ↔ WQ L d j (pc + 1) loc (.int (x <<< (y &&& 31)) :: st) S Z := q_p hf rfl
theorem q_ishr {x y : Int32} (hf : jm_fetch j pc = some (.ishr, n)) : WQ L d j pc loc (.int y :: .int x :: st) S Z ↔ WQ L d j (pc + 1) loc (.int (x >>> (y &&& 31)) :: st) S Z := q_p hf rfl
theorem q_iushr {x y : Int32} (hf : jm_fetch j pc = some (.iushr, n)) : WQ L d j pc loc (.int y :: .int x :: st) S Z ↔ WQ L d j (pc + 1) loc (.int ((x.toUInt32 >>> (y.toUInt32 &&& Int32.toUInt32 31)).toInt32) :: st) S Z := q_p hf rfl
theorem q_ladd {x y : Int64} (hf : jm_fetch j pc = some (.ladd, n)) : WQ L d j pc loc (.long y :: .long x :: st) S Z ↔ WQ L d j (pc + 1) loc (.long (x + y) :: st) S Z := q_p hf rfl
theorem q_lsub {x y : Int64} (hf : jm_fetch j pc = some (.lsub, n)) : WQ L d j pc loc (.long y :: .long x :: st) S Z ↔ WQ L d j (pc + 1) loc (.long (x - y) :: st) S Z := q_p hf rfl
theorem q_lmul {x y : Int64} (hf : jm_fetch j pc = some (.lmul, n)) : WQ L d j pc loc (.long y :: .long x :: st) S Z ↔ WQ L d j (pc + 1) loc (.long (x * y) :: st) S Z := q_p hf rfl
theorem q_ineg {x : Int32} (hf : jm_fetch j pc = some (.ineg, n)) : WQ L d j pc loc (.int x :: st) S Z ↔ WQ L d j (pc + 1) loc (.int (-x) :: st) S Z := q_p hf rfl
theorem q_i2l {x : Int32} (hf : jm_fetch j pc = some (.i2l, n)) : WQ L d j pc loc (.int x :: st) S Z ↔ WQ L d j (pc + 1) loc (.long x.toInt64 :: st) S Z := q_p hf rfl
theorem q_l2i {x : Int64} (hf : jm_fetch j pc = some (.l2i, n)) : WQ L d j pc loc (.long x :: st) S Z ↔ WQ L d j (pc + 1) loc (.int x.toInt32 :: st) S Z := q_p hf rfl
theorem q_i2b {x : Int32} (hf : jm_fetch j pc = some (.i2b, n)) : WQ L d j pc loc (.int x :: st) S Z ↔ WQ L d j (pc + 1) loc (.int x.toInt8.toInt32 :: st) S Z := q_p hf rfl
theorem q_i2s {x : Int32} (hf : jm_fetch j pc = some (.i2s, n)) : WQ L d j pc loc (.int x :: st) S Z ↔ WQ L d j (pc + 1) loc (.int x.toInt16.toInt32 :: st) S Z := q_p hf rfl
theorem q_lcmp {x y : Int64} (hf : jm_fetch j pc = some (.lcmp, n)) : WQ L d j pc loc (.long y :: .long x :: st) S Z ↔ WQ L d j (pc + 1) loc (.int (lg_cmp x y) :: st) S Z := q_p hf rfl
theorem q_dupi {x : Int32} (hf : jm_fetch j pc = some (.dup, n)) : WQ L d j pc loc (.int x :: st) S Z ↔ WQ L d j (pc + 1) loc (.int x :: .int x :: st) S Z := q_p hf rfl
theorem q_dupr {x : Nat} (hf : jm_fetch j pc = some (.dup, n)) : WQ L d j pc loc (.ref x :: st) S Z ↔ WQ L d j (pc + 1) loc (.ref x :: .ref x :: st) S Z := q_p hf rfl
theorem q_dup2 {x : Int32} {y : Nat} (hf : jm_fetch j pc = some (.dup2, n)) : WQ L d j pc loc (.int x :: .ref y :: st) S Z ↔ WQ L d j (pc + 1) loc (.int x :: .ref y :: .int x :: .ref y :: st) S Z := q_p hf rfl
theorem q_goto {off : Int} (hf : jm_fetch j pc = some (.goto off, n)) (ht : (pc : Int) + off = (t : Int)) : WQ L d j pc loc stk S Z ↔ WQ L d j t loc stk S Z := q_p hf (by simp only [jm_pure, jm_jp, ht, Int.toNat_natCast, Int.natCast_nonneg, if_true])
theorem q_cond {c : ClassFile.Cond} {off : Int} {x y : Int32} (hf : jm_fetch j pc = some (.if_icmp c off, n)) (ht : (pc : Int) + off = (t : Int)) : WQ L d j pc loc (.int y :: .int x :: st) S Z ↔ WQ L d j (if jm_cnd c x y = true then t else pc + 3) loc st S Z := q_p hf (by simp only [jm_pure, jm_br, ht, Int.toNat_natCast, Int.natCast_nonneg, if_true])
theorem q_cond0 {c : ClassFile.Cond} {off : Int} {x : Int32} (hf : jm_fetch j pc = some (.ifCond c off, n)) (ht : (pc : Int) + off = (t : Int)) : WQ L d j pc loc (.int x :: st) S Z ↔ WQ L d j (if jm_cnd c x 0 = true then t else pc + 3) loc st S Z := q_p hf (by simp only [jm_pure, jm_br, ht, Int.toNat_natCast, Int.natCast_nonneg, if_true])
theorem q_ite (P : Prop) [Decidable P] (a b : Nat) : WQ L d j (if P then a else b) loc st S Z ↔ if P then WQ L d j a loc st S Z else WQ L d j b loc st S Z := by
  by_cases h : P
  · rw [if_pos h, if_pos h]
  · rw [if_neg h, if_neg h]
theorem q_icmp_eq {off : Int} {x y : Int32} (hf : jm_fetch j pc = some (.if_icmp .eq off, n)) (ht : (pc : Int) + off = (t : Int)) : WQ L d j pc loc (.int y :: .int x :: st) S Z ↔ if x = y then WQ L d j t loc st S Z else WQ L d j (pc + 3) loc st S Z := by rw [q_cond hf ht, q_ite]; simp only [jm_cnd, decide_eq_true_eq]
theorem q_icmp_ne {off : Int} {x y : Int32} (hf : jm_fetch j pc = some (.if_icmp .ne off, n)) (ht : (pc : Int) + off = (t : Int)) : WQ L d j pc loc (.int y :: .int x :: st) S Z ↔ if x = y then WQ L d j (pc + 3) loc st S Z else WQ L d j t loc st S Z := by
  rw [q_cond hf ht, q_ite]; simp only [jm_cnd, decide_eq_true_eq]
  by_cases h : x = y <;> simp [h]
theorem q_icmp_lt {off : Int} {x y : Int32} (hf : jm_fetch j pc = some (.if_icmp .lt off, n)) (ht : (pc : Int) + off = (t : Int)) : WQ L d j pc loc (.int y :: .int x :: st) S Z ↔ if x < y then WQ L d j t loc st S Z else WQ L d j (pc + 3) loc st S Z := by rw [q_cond hf ht, q_ite]; simp only [jm_cnd, decide_eq_true_eq]
theorem q_icmp_ge {off : Int} {x y : Int32} (hf : jm_fetch j pc = some (.if_icmp .ge off, n)) (ht : (pc : Int) + off = (t : Int)) : WQ L d j pc loc (.int y :: .int x :: st) S Z ↔ if y ≤ x then WQ L d j t loc st S Z else WQ L d j (pc + 3) loc st S Z := by rw [q_cond hf ht, q_ite]; simp only [jm_cnd, decide_eq_true_eq]
theorem q_icmp_gt {off : Int} {x y : Int32} (hf : jm_fetch j pc = some (.if_icmp .gt off, n)) (ht : (pc : Int) + off = (t : Int)) : WQ L d j pc loc (.int y :: .int x :: st) S Z ↔ if y < x then WQ L d j t loc st S Z else WQ L d j (pc + 3) loc st S Z := by rw [q_cond hf ht, q_ite]; simp only [jm_cnd, decide_eq_true_eq]
theorem q_icmp_le {off : Int} {x y : Int32} (hf : jm_fetch j pc = some (.if_icmp .le off, n)) (ht : (pc : Int) + off = (t : Int)) : WQ L d j pc loc (.int y :: .int x :: st) S Z ↔ if x ≤ y then WQ L d j t loc st S Z else WQ L d j (pc + 3) loc st S Z := by rw [q_cond hf ht, q_ite]; simp only [jm_cnd, decide_eq_true_eq]
theorem q_if_eq {off : Int} {x : Int32} (hf : jm_fetch j pc = some (.ifCond .eq off, n)) (ht : (pc : Int) + off = (t : Int)) : WQ L d j pc loc (.int x :: st) S Z ↔ if x = 0 then WQ L d j t loc st S Z else WQ L d j (pc + 3) loc st S Z := by rw [q_cond0 hf ht, q_ite]; simp only [jm_cnd, decide_eq_true_eq]
theorem q_if_ne {off : Int} {x : Int32} (hf : jm_fetch j pc = some (.ifCond .ne off, n)) (ht : (pc : Int) + off = (t : Int)) : WQ L d j pc loc (.int x :: st) S Z ↔ if x = 0 then WQ L d j (pc + 3) loc st S Z else WQ L d j t loc st S Z := by
  rw [q_cond0 hf ht, q_ite]; simp only [jm_cnd, decide_eq_true_eq]
  by_cases h : x = 0 <;> simp [h]
theorem q_if_lt {off : Int} {x : Int32} (hf : jm_fetch j pc = some (.ifCond .lt off, n)) (ht : (pc : Int) + off = (t : Int)) : WQ L d j pc loc (.int x :: st) S Z ↔ if x < 0 then WQ L d j t loc st S Z else WQ L d j (pc + 3) loc st S Z := by rw [q_cond0 hf ht, q_ite]; simp only [jm_cnd, decide_eq_true_eq]
theorem q_if_ge {off : Int} {x : Int32} (hf : jm_fetch j pc = some (.ifCond .ge off, n)) (ht : (pc : Int) + off = (t : Int)) : WQ L d j pc loc (.int x :: st) S Z ↔ if 0 ≤ x then WQ L d j t loc st S Z else WQ L d j (pc + 3) loc st S Z := by rw [q_cond0 hf ht, q_ite]; simp only [jm_cnd, decide_eq_true_eq]
theorem q_if_gt {off : Int} {x : Int32} (hf : jm_fetch j pc = some (.ifCond .gt off, n)) (ht : (pc : Int) + off = (t : Int)) : WQ L d j pc loc (.int x :: st) S Z ↔ if 0 < x then WQ L d j t loc st S Z else WQ L d j (pc + 3) loc st S Z := by rw [q_cond0 hf ht, q_ite]; simp only [jm_cnd, decide_eq_true_eq]
theorem q_if_le {off : Int} {x : Int32} (hf : jm_fetch j pc = some (.ifCond .le off, n)) (ht : (pc : Int) + off = (t : Int)) : WQ L d j pc loc (.int x :: st) S Z ↔ if x ≤ 0 then WQ L d j t loc st S Z else WQ L d j (pc + 3) loc st S Z := by rw [q_cond0 hf ht, q_ite]; simp only [jm_cnd, decide_eq_true_eq]
theorem q_idiv {x y : Int32} (hf : jm_fetch j pc = some (.idiv, n)) : WQ L d j pc loc (.int y :: .int x :: st) S Z ↔ (y ≠ 0 ∧ WQ L d j (pc + 1) loc (.int (x / y) :: st) S Z) := by
  by_cases h : y = 0
  · rw [q_x hf (by simp only [jm_pure, jm_di, h, if_true]) rfl rfl rfl]; simp [h]
  · rw [q_p (pc' := pc + 1) (loc' := loc) (stk' := .int (x / y) :: st) hf (by simp only [jm_pure, jm_di, h, if_false])]; simp [h]
theorem q_irem {x y : Int32} (hf : jm_fetch j pc = some (.irem, n)) : WQ L d j pc loc (.int y :: .int x :: st) S Z ↔ (y ≠ 0 ∧ WQ L d j (pc + 1) loc (.int (x - x / y * y) :: st) S Z) := by
  by_cases h : y = 0
  · rw [q_x hf (by simp only [jm_pure, jm_di, h, if_true]) rfl rfl rfl]; simp [h]
  · rw [q_p (pc' := pc + 1) (loc' := loc) (stk' := .int (x - x / y * y) :: st) hf (by simp only [jm_pure, jm_di, h, if_false])]; simp [h]
theorem q_ldiv {x y : Int64} (hf : jm_fetch j pc = some (.ldiv, n)) : WQ L d j pc loc (.long y :: .long x :: st) S Z ↔ (y ≠ 0 ∧ WQ L d j (pc + 1) loc (.long (x / y) :: st) S Z) := by
  by_cases h : y = 0
  · rw [q_x hf (by simp only [jm_pure, jm_dl, h, if_true]) rfl rfl rfl]; simp [h]
  · rw [q_p (pc' := pc + 1) (loc' := loc) (stk' := .long (x / y) :: st) hf (by simp only [jm_pure, jm_dl, h, if_false])]; simp [h]
theorem q_lrem {x y : Int64} (hf : jm_fetch j pc = some (.lrem, n)) : WQ L d j pc loc (.long y :: .long x :: st) S Z ↔ (y ≠ 0 ∧ WQ L d j (pc + 1) loc (.long (x - x / y * y) :: st) S Z) := by
  by_cases h : y = 0
  · rw [q_x hf (by simp only [jm_pure, jm_dl, h, if_true]) rfl rfl rfl]; simp [h]
  · rw [q_p (pc' := pc + 1) (loc' := loc) (stk' := .long (x - x / y * y) :: st) hf (by simp only [jm_pure, jm_dl, h, if_false])]; simp [h]
end JMR
