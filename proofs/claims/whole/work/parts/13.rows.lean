/-! ROWS of the abstract machine over the system's state: one for each instruction. -/
theorem am_vp {i : Int32} {n : Nat} (h1 : 0 ≤ i) (h2 : i < Int32.ofNat n) (hn : n < 2147483648) : vp_in i n := by
  rw [vp_in_iff]
  rw [Int32.le_iff_toInt_le] at h1
  rw [Int32.lt_iff_toInt_lt] at h2
  have e0 : (0 : Int32).toInt = 0 := by decide
  have e1 : (Int32.ofNat n).toInt = (n : Int) := nI_toInt (n := n) hn
  omega
theorem am_ck_O {S : am_S} {o ci : Nat} (h : ci < 12) : am_ck S o (ci, 0) = .inr (.inr (.inr (ci, (List.range (am_fkl ci).length).map (am_fv S ci o)))) := by
  match ci, h with
  | 0, _ => rfl
  | 1, _ => rfl
  | 2, _ => rfl
  | 3, _ => rfl
  | 4, _ => rfl
  | 5, _ => rfl
  | 6, _ => rfl
  | 7, _ => rfl
  | 8, _ => rfl
  | 9, _ => rfl
  | 10, _ => rfl
  | 11, _ => rfl
theorem am_cnt {st : List Value} {n : Nat} (h : Nat.ble ((st.map fun v => v.category).sum) n = true) : (st.map fun v => v.category).sum ≤ n := Nat.le_of_ble_eq_true h
section AMR
variable {C : am_C} {M : am_M} {scr : Option (Nat × (Nat → Int32))} {Q : Option Value → am_G → Prop} {X : am_P} {pc npc a b t u pos pp : Nat} {cv : Int32} {cl : Int64} {L : am_L} {st : List Value} {G : am_G} {S : am_S} {nc ns : Nat}

theorem r_iconst {n : Int} (hk : am_lk (am_mt M) pc = some (pp, .iconst n, npc, a, b, t, u, pos, cv, cl)) (k : am_Ex C M scr Q X npc L (.int cv :: st) G nc ns) : am_Ex C M scr Q X pc L st G nc ns := am_Ex_in (by
  unfold am_step
  rw [hk]
  exact k)
theorem r_bipush {n : Int} (hk : am_lk (am_mt M) pc = some (pp, .bipush n, npc, a, b, t, u, pos, cv, cl)) (k : am_Ex C M scr Q X npc L (.int cv :: st) G nc ns) : am_Ex C M scr Q X pc L st G nc ns := am_Ex_in (by
  unfold am_step
  rw [hk]
  exact k)
theorem r_sipush {n : Int} (hk : am_lk (am_mt M) pc = some (pp, .sipush n, npc, a, b, t, u, pos, cv, cl)) (k : am_Ex C M scr Q X npc L (.int cv :: st) G nc ns) : am_Ex C M scr Q X pc L st G nc ns := am_Ex_in (by
  unfold am_step
  rw [hk]
  exact k)
theorem r_lconst {n : Fin 2} (hk : am_lk (am_mt M) pc = some (pp, .lconst n, npc, a, b, t, u, pos, cv, cl)) (k : am_Ex C M scr Q X npc L (.long cl :: st) G nc ns) : am_Ex C M scr Q X pc L st G nc ns := am_Ex_in (by
  unfold am_step
  rw [hk]
  exact k)
theorem r_ldc2_w {n : Nat} (hk : am_lk (am_mt M) pc = some (pp, .ldc2_w n, npc, a, b, t, u, pos, cv, cl)) (k : am_Ex C M scr Q X npc L (.long cl :: st) G nc ns) : am_Ex C M scr Q X pc L st G nc ns := am_Ex_in (by
  unfold am_step
  rw [hk]
  exact k)
theorem r_ldc {n : Nat} (hk : am_lk (am_mt M) pc = some (pp, .ldc n, npc, a, b, 0, u, pos, cv, cl)) (k : am_Ex C M scr Q X npc L (.int cv :: st) G nc ns) : am_Ex C M scr Q X pc L st G nc ns := am_Ex_in (by
  unfold am_step
  rw [hk]
  exact k)
theorem r_ldcS {n : Nat} (hk : am_lk (am_mt M) pc = some (pp, .ldc n, npc, a, b, 1, u, pos, cv, cl)) (k : am_Ex C M scr Q X npc L (.ref b :: st) G nc ns) : am_Ex C M scr Q X pc L st G nc ns := am_Ex_in (by
  unfold am_step
  rw [hk]
  exact k)
theorem r_ldc_w {n : Nat} (hk : am_lk (am_mt M) pc = some (pp, .ldc_w n, npc, a, b, 0, u, pos, cv, cl)) (k : am_Ex C M scr Q X npc L (.int cv :: st) G nc ns) : am_Ex C M scr Q X pc L st G nc ns := am_Ex_in (by
  unfold am_step
  rw [hk]
  exact k)
theorem r_ldc_wS {n : Nat} (hk : am_lk (am_mt M) pc = some (pp, .ldc_w n, npc, a, b, 1, u, pos, cv, cl)) (k : am_Ex C M scr Q X npc L (.ref b :: st) G nc ns) : am_Ex C M scr Q X pc L st G nc ns := am_Ex_in (by
  unfold am_step
  rw [hk]
  exact k)
theorem r_iload_n {n : Fin 4} {x : Int32} (hk : am_lk (am_mt M) pc = some (pp, .iload_n n, npc, a, b, t, u, pos, cv, cl)) (hl : L[a]? = some (some (.int x))) (k : am_Ex C M scr Q X npc L (.int x :: st) G nc ns) : am_Ex C M scr Q X pc L st G nc ns := am_Ex_in (by
  unfold am_step
  rw [hk]
  simp only [am_ins]
  rw [hl]
  exact k)
theorem r_iload {n : Nat} {x : Int32} (hk : am_lk (am_mt M) pc = some (pp, .iload n, npc, a, b, t, u, pos, cv, cl)) (hl : L[a]? = some (some (.int x))) (k : am_Ex C M scr Q X npc L (.int x :: st) G nc ns) : am_Ex C M scr Q X pc L st G nc ns := am_Ex_in (by
  unfold am_step
  rw [hk]
  simp only [am_ins]
  rw [hl]
  exact k)
theorem r_lload_n {n : Fin 4} {x : Int64} (hk : am_lk (am_mt M) pc = some (pp, .lload_n n, npc, a, b, t, u, pos, cv, cl)) (hl : L[a]? = some (some (.long x))) (k : am_Ex C M scr Q X npc L (.long x :: st) G nc ns) : am_Ex C M scr Q X pc L st G nc ns := am_Ex_in (by
  unfold am_step
  rw [hk]
  simp only [am_ins]
  rw [hl]
  exact k)
theorem r_lload {n : Nat} {x : Int64} (hk : am_lk (am_mt M) pc = some (pp, .lload n, npc, a, b, t, u, pos, cv, cl)) (hl : L[a]? = some (some (.long x))) (k : am_Ex C M scr Q X npc L (.long x :: st) G nc ns) : am_Ex C M scr Q X pc L st G nc ns := am_Ex_in (by
  unfold am_step
  rw [hk]
  simp only [am_ins]
  rw [hl]
  exact k)
theorem r_aload_n {n : Fin 4} {x : Nat} (hk : am_lk (am_mt M) pc = some (pp, .aload_n n, npc, a, b, t, u, pos, cv, cl)) (hl : L[a]? = some (some (.ref x))) (k : am_Ex C M scr Q X npc L (.ref x :: st) G nc ns) : am_Ex C M scr Q X pc L st G nc ns := am_Ex_in (by
  unfold am_step
  rw [hk]
  simp only [am_ins]
  rw [hl]
  exact k)
theorem r_aload {n : Nat} {x : Nat} (hk : am_lk (am_mt M) pc = some (pp, .aload n, npc, a, b, t, u, pos, cv, cl)) (hl : L[a]? = some (some (.ref x))) (k : am_Ex C M scr Q X npc L (.ref x :: st) G nc ns) : am_Ex C M scr Q X pc L st G nc ns := am_Ex_in (by
  unfold am_step
  rw [hk]
  simp only [am_ins]
  rw [hl]
  exact k)
theorem r_istore_n {n : Fin 4} {x : Int32} {L2 : am_L} (hk : am_lk (am_mt M) pc = some (pp, .istore_n n, npc, a, b, t, u, pos, cv, cl)) (hL : am_st1 L a (.int x) = L2) (k : am_Ex C M scr Q X npc L2 st G nc ns) : am_Ex C M scr Q X pc L (.int x :: st) G nc ns := am_Ex_in (by
  unfold am_step
  rw [hk]
  subst hL
  exact k)
theorem r_istore {n : Nat} {x : Int32} {L2 : am_L} (hk : am_lk (am_mt M) pc = some (pp, .istore n, npc, a, b, t, u, pos, cv, cl)) (hL : am_st1 L a (.int x) = L2) (k : am_Ex C M scr Q X npc L2 st G nc ns) : am_Ex C M scr Q X pc L (.int x :: st) G nc ns := am_Ex_in (by
  unfold am_step
  rw [hk]
  subst hL
  exact k)
theorem r_astore_n {n : Fin 4} {x : Nat} {L2 : am_L} (hk : am_lk (am_mt M) pc = some (pp, .astore_n n, npc, a, b, t, u, pos, cv, cl)) (hL : am_st1 L a (.ref x) = L2) (k : am_Ex C M scr Q X npc L2 st G nc ns) : am_Ex C M scr Q X pc L (.ref x :: st) G nc ns := am_Ex_in (by
  unfold am_step
  rw [hk]
  subst hL
  exact k)
theorem r_astore {n : Nat} {x : Nat} {L2 : am_L} (hk : am_lk (am_mt M) pc = some (pp, .astore n, npc, a, b, t, u, pos, cv, cl)) (hL : am_st1 L a (.ref x) = L2) (k : am_Ex C M scr Q X npc L2 st G nc ns) : am_Ex C M scr Q X pc L (.ref x :: st) G nc ns := am_Ex_in (by
  unfold am_step
  rw [hk]
  subst hL
  exact k)
theorem r_lstore_n {n : Fin 4} {x : Int64} {L2 : am_L} (hk : am_lk (am_mt M) pc = some (pp, .lstore_n n, npc, a, b, t, u, pos, cv, cl)) (hL : am_st2 L a (.long x) = L2) (k : am_Ex C M scr Q X npc L2 st G nc ns) : am_Ex C M scr Q X pc L (.long x :: st) G nc ns := am_Ex_in (by
  unfold am_step
  rw [hk]
  subst hL
  exact k)
theorem r_lstore {n : Nat} {x : Int64} {L2 : am_L} (hk : am_lk (am_mt M) pc = some (pp, .lstore n, npc, a, b, t, u, pos, cv, cl)) (hL : am_st2 L a (.long x) = L2) (k : am_Ex C M scr Q X npc L2 st G nc ns) : am_Ex C M scr Q X pc L (.long x :: st) G nc ns := am_Ex_in (by
  unfold am_step
  rw [hk]
  subst hL
  exact k)
theorem r_iinc {n : Nat} {n2 : Int} {x : Int32} {L2 : am_L} (hk : am_lk (am_mt M) pc = some (pp, .iinc n n2, npc, a, b, t, u, pos, cv, cl)) (hl : L[a]? = some (some (.int x))) (hL : am_st1 L a (.int (x + cv)) = L2) (k : am_Ex C M scr Q X npc L2 st G nc ns) : am_Ex C M scr Q X pc L st G nc ns := am_Ex_in (by
  unfold am_step
  rw [hk]
  subst hL
  simp only [am_ins]
  rw [hl]
  exact k)
theorem r_iadd {x y : Int32} (hk : am_lk (am_mt M) pc = some (pp, .iadd, npc, a, b, t, u, pos, cv, cl)) (k : am_Ex C M scr Q X npc L (.int (x + y) :: st) G nc ns) : am_Ex C M scr Q X pc L (.int y :: .int x :: st) G nc ns := am_Ex_in (by
  unfold am_step
  rw [hk]
  exact k)
theorem r_isub {x y : Int32} (hk : am_lk (am_mt M) pc = some (pp, .isub, npc, a, b, t, u, pos, cv, cl)) (k : am_Ex C M scr Q X npc L (.int (x - y) :: st) G nc ns) : am_Ex C M scr Q X pc L (.int y :: .int x :: st) G nc ns := am_Ex_in (by
  unfold am_step
  rw [hk]
  exact k)
theorem r_imul {x y : Int32} (hk : am_lk (am_mt M) pc = some (pp, .imul, npc, a, b, t, u, pos, cv, cl)) (k : am_Ex C M scr Q X npc L (.int (x * y) :: st) G nc ns) : am_Ex C M scr Q X pc L (.int y :: .int x :: st) G nc ns := am_Ex_in (by
  unfold am_step
  rw [hk]
  exact k)
theorem r_iand {x y : Int32} (hk : am_lk (am_mt M) pc = some (pp, .iand, npc, a, b, t, u, pos, cv, cl)) (k : am_Ex C M scr Q X npc L (.int (x &&& y) :: st) G nc ns) : am_Ex C M scr Q X pc L (.int y :: .int x :: st) G nc ns := am_Ex_in (by
  unfold am_step
  rw [hk]
  exact k)
theorem r_ior {x y : Int32} (hk : am_lk (am_mt M) pc = some (pp, .ior, npc, a, b, t, u, pos, cv, cl)) (k : am_Ex C M scr Q X npc L (.int (x ||| y) :: st) G nc ns) : am_Ex C M scr Q X pc L (.int y :: .int x :: st) G nc ns := am_Ex_in (by
  unfold am_step
  rw [hk]
  exact k)
theorem r_ixor {x y : Int32} (hk : am_lk (am_mt M) pc = some (pp, .ixor, npc, a, b, t, u, pos, cv, cl)) (k : am_Ex C M scr Q X npc L (.int (x ^^^ y) :: st) G nc ns) : am_Ex C M scr Q X pc L (.int y :: .int x :: st) G nc ns := am_Ex_in (by
  unfold am_step
  rw [hk]
  exact k)
theorem r_ishl {x y : Int32} (hk : am_lk (am_mt M) pc = some (pp, .ishl, npc, a, b, t, u, pos, cv, cl)) (k : am_Ex C M scr Q X npc L (.int (x <<< (y &&& 31)) :: st) G nc ns) : am_Ex C M scr Q X pc L (.int y :: .int x :: st) G nc ns := am_Ex_in (by
  unfold am_step
  rw [hk]
  exact k)
theorem r_ishr {x y : Int32} (hk : am_lk (am_mt M) pc = some (pp, .ishr, npc, a, b, t, u, pos, cv, cl)) (k : am_Ex C M scr Q X npc L (.int (x >>> (y &&& 31)) :: st) G nc ns) : am_Ex C M scr Q X pc L (.int y :: .int x :: st) G nc ns := am_Ex_in (by
  unfold am_step
  rw [hk]
  exact k)
theorem r_iushr {x y : Int32} (hk : am_lk (am_mt M) pc = some (pp, .iushr, npc, a, b, t, u, pos, cv, cl)) (k : am_Ex C M scr Q X npc L (.int ((x.toUInt32 >>> (y.toUInt32 &&& Int32.toUInt32 31)).toInt32) :: st) G nc ns) : am_Ex C M scr Q X pc L (.int y :: .int x :: st) G nc ns := am_Ex_in (by
  unfold am_step
  rw [hk]
  exact k)
theorem r_idiv {x y : Int32} (hk : am_lk (am_mt M) pc = some (pp, .idiv, npc, a, b, t, u, pos, cv, cl)) (hy : ¬ y = 0) (k : am_Ex C M scr Q X npc L (.int (x / y) :: st) G nc ns) : am_Ex C M scr Q X pc L (.int y :: .int x :: st) G nc ns := am_Ex_in (by
  unfold am_step
  rw [hk]
  exact ⟨hy, k⟩)
theorem r_irem {x y : Int32} (hk : am_lk (am_mt M) pc = some (pp, .irem, npc, a, b, t, u, pos, cv, cl)) (hy : ¬ y = 0) (k : am_Ex C M scr Q X npc L (.int (x - x / y * y) :: st) G nc ns) : am_Ex C M scr Q X pc L (.int y :: .int x :: st) G nc ns := am_Ex_in (by
  unfold am_step
  rw [hk]
  exact ⟨hy, k⟩)
theorem r_ladd {x y : Int64} (hk : am_lk (am_mt M) pc = some (pp, .ladd, npc, a, b, t, u, pos, cv, cl)) (k : am_Ex C M scr Q X npc L (.long (x + y) :: st) G nc ns) : am_Ex C M scr Q X pc L (.long y :: .long x :: st) G nc ns := am_Ex_in (by
  unfold am_step
  rw [hk]
  exact k)
theorem r_lsub {x y : Int64} (hk : am_lk (am_mt M) pc = some (pp, .lsub, npc, a, b, t, u, pos, cv, cl)) (k : am_Ex C M scr Q X npc L (.long (x - y) :: st) G nc ns) : am_Ex C M scr Q X pc L (.long y :: .long x :: st) G nc ns := am_Ex_in (by
  unfold am_step
  rw [hk]
  exact k)
theorem r_lmul {x y : Int64} (hk : am_lk (am_mt M) pc = some (pp, .lmul, npc, a, b, t, u, pos, cv, cl)) (k : am_Ex C M scr Q X npc L (.long (x * y) :: st) G nc ns) : am_Ex C M scr Q X pc L (.long y :: .long x :: st) G nc ns := am_Ex_in (by
  unfold am_step
  rw [hk]
  exact k)
theorem r_ldiv {x y : Int64} (hk : am_lk (am_mt M) pc = some (pp, .ldiv, npc, a, b, t, u, pos, cv, cl)) (hy : ¬ y = 0) (k : am_Ex C M scr Q X npc L (.long (x / y) :: st) G nc ns) : am_Ex C M scr Q X pc L (.long y :: .long x :: st) G nc ns := am_Ex_in (by
  unfold am_step
  rw [hk]
  exact ⟨hy, k⟩)
theorem r_lrem {x y : Int64} (hk : am_lk (am_mt M) pc = some (pp, .lrem, npc, a, b, t, u, pos, cv, cl)) (hy : ¬ y = 0) (k : am_Ex C M scr Q X npc L (.long (x - x / y * y) :: st) G nc ns) : am_Ex C M scr Q X pc L (.long y :: .long x :: st) G nc ns := am_Ex_in (by
  unfold am_step
  rw [hk]
  exact ⟨hy, k⟩)
theorem r_lcmp {x y : Int64} (hk : am_lk (am_mt M) pc = some (pp, .lcmp, npc, a, b, t, u, pos, cv, cl)) (k : am_Ex C M scr Q X npc L (.int (lg_cmp x y) :: st) G nc ns) : am_Ex C M scr Q X pc L (.long y :: .long x :: st) G nc ns := am_Ex_in (by
  unfold am_step
  rw [hk]
  exact k)
theorem r_ineg {x : Int32} (hk : am_lk (am_mt M) pc = some (pp, .ineg, npc, a, b, t, u, pos, cv, cl)) (k : am_Ex C M scr Q X npc L (.int (-x) :: st) G nc ns) : am_Ex C M scr Q X pc L (.int x :: st) G nc ns := am_Ex_in (by
  unfold am_step
  rw [hk]
  exact k)
theorem r_i2l {x : Int32} (hk : am_lk (am_mt M) pc = some (pp, .i2l, npc, a, b, t, u, pos, cv, cl)) (k : am_Ex C M scr Q X npc L (.long x.toInt64 :: st) G nc ns) : am_Ex C M scr Q X pc L (.int x :: st) G nc ns := am_Ex_in (by
  unfold am_step
  rw [hk]
  exact k)
theorem r_i2b {x : Int32} (hk : am_lk (am_mt M) pc = some (pp, .i2b, npc, a, b, t, u, pos, cv, cl)) (k : am_Ex C M scr Q X npc L (.int x.toInt8.toInt32 :: st) G nc ns) : am_Ex C M scr Q X pc L (.int x :: st) G nc ns := am_Ex_in (by
  unfold am_step
  rw [hk]
  exact k)
theorem r_i2s {x : Int32} (hk : am_lk (am_mt M) pc = some (pp, .i2s, npc, a, b, t, u, pos, cv, cl)) (k : am_Ex C M scr Q X npc L (.int x.toInt16.toInt32 :: st) G nc ns) : am_Ex C M scr Q X pc L (.int x :: st) G nc ns := am_Ex_in (by
  unfold am_step
  rw [hk]
  exact k)
theorem r_i2c {x : Int32} (hk : am_lk (am_mt M) pc = some (pp, .i2c, npc, a, b, t, u, pos, cv, cl)) (k : am_Ex C M scr Q X npc L (.int (x.toUInt32 % 65536).toInt32 :: st) G nc ns) : am_Ex C M scr Q X pc L (.int x :: st) G nc ns := am_Ex_in (by
  unfold am_step
  rw [hk]
  exact k)
theorem r_lneg {x : Int64} (hk : am_lk (am_mt M) pc = some (pp, .lneg, npc, a, b, t, u, pos, cv, cl)) (k : am_Ex C M scr Q X npc L (.long (-x) :: st) G nc ns) : am_Ex C M scr Q X pc L (.long x :: st) G nc ns := am_Ex_in (by
  unfold am_step
  rw [hk]
  exact k)
theorem r_dup {v : Value} (hk : am_lk (am_mt M) pc = some (pp, .dup, npc, a, b, t, u, pos, cv, cl)) (hv : v.category = 1) (k : am_Ex C M scr Q X npc L (v :: v :: st) G nc ns) : am_Ex C M scr Q X pc L (v :: st) G nc ns := am_Ex_in (by
  unfold am_step
  rw [hk]
  simp only [am_ins]
  rw [hv]
  exact k)
theorem r_dup2 {v w : Value} (hk : am_lk (am_mt M) pc = some (pp, .dup2, npc, a, b, t, u, pos, cv, cl)) (hv : v.category = 1) (hw : w.category = 1) (k : am_Ex C M scr Q X npc L (v :: w :: v :: w :: st) G nc ns) : am_Ex C M scr Q X pc L (v :: w :: st) G nc ns := am_Ex_in (by
  unfold am_step
  rw [hk]
  simp only [am_ins]
  rw [hv, hw]
  exact k)
theorem r_pop {v : Value} (hk : am_lk (am_mt M) pc = some (pp, .pop, npc, a, b, t, u, pos, cv, cl)) (hv : v.category = 1) (k : am_Ex C M scr Q X npc L st G nc ns) : am_Ex C M scr Q X pc L (v :: st) G nc ns := am_Ex_in (by
  unfold am_step
  rw [hk]
  simp only [am_ins]
  rw [hv]
  exact k)
theorem r_goto {n : Int} (hk : am_lk (am_mt M) pc = some (pp, .goto n, npc, a, b, t, u, pos, cv, cl)) (k : am_Ex C M scr Q X a L st G nc ns) : am_Ex C M scr Q X pc L st G nc ns := am_Ex_in (by
  unfold am_step
  rw [hk]
  exact k)
theorem r_if_eq {n : Int} {x : Int32} (hk : am_lk (am_mt M) pc = some (pp, .ifCond .eq n, npc, a, b, t, u, pos, cv, cl)) (k1 : x = 0 → am_Ex C M scr Q X a L st G nc ns) (k2 : ¬ x = 0 → am_Ex C M scr Q X npc L st G nc ns) : am_Ex C M scr Q X pc L (.int x :: st) G nc ns := am_Ex_in (by
  unfold am_step
  rw [hk]
  exact ⟨k1, k2⟩)
theorem r_if_ne {n : Int} {x : Int32} (hk : am_lk (am_mt M) pc = some (pp, .ifCond .ne n, npc, a, b, t, u, pos, cv, cl)) (k1 : ¬ x = 0 → am_Ex C M scr Q X a L st G nc ns) (k2 : x = 0 → am_Ex C M scr Q X npc L st G nc ns) : am_Ex C M scr Q X pc L (.int x :: st) G nc ns := am_Ex_in (by
  unfold am_step
  rw [hk]
  exact ⟨k1, k2⟩)
theorem r_if_lt {n : Int} {x : Int32} (hk : am_lk (am_mt M) pc = some (pp, .ifCond .lt n, npc, a, b, t, u, pos, cv, cl)) (k1 : x < 0 → am_Ex C M scr Q X a L st G nc ns) (k2 : ¬ x < 0 → am_Ex C M scr Q X npc L st G nc ns) : am_Ex C M scr Q X pc L (.int x :: st) G nc ns := am_Ex_in (by
  unfold am_step
  rw [hk]
  exact ⟨k1, k2⟩)
theorem r_if_ge {n : Int} {x : Int32} (hk : am_lk (am_mt M) pc = some (pp, .ifCond .ge n, npc, a, b, t, u, pos, cv, cl)) (k1 : 0 ≤ x → am_Ex C M scr Q X a L st G nc ns) (k2 : ¬ 0 ≤ x → am_Ex C M scr Q X npc L st G nc ns) : am_Ex C M scr Q X pc L (.int x :: st) G nc ns := am_Ex_in (by
  unfold am_step
  rw [hk]
  exact ⟨k1, k2⟩)
theorem r_if_gt {n : Int} {x : Int32} (hk : am_lk (am_mt M) pc = some (pp, .ifCond .gt n, npc, a, b, t, u, pos, cv, cl)) (k1 : 0 < x → am_Ex C M scr Q X a L st G nc ns) (k2 : ¬ 0 < x → am_Ex C M scr Q X npc L st G nc ns) : am_Ex C M scr Q X pc L (.int x :: st) G nc ns := am_Ex_in (by
  unfold am_step
  rw [hk]
  exact ⟨k1, k2⟩)
theorem r_if_le {n : Int} {x : Int32} (hk : am_lk (am_mt M) pc = some (pp, .ifCond .le n, npc, a, b, t, u, pos, cv, cl)) (k1 : x ≤ 0 → am_Ex C M scr Q X a L st G nc ns) (k2 : ¬ x ≤ 0 → am_Ex C M scr Q X npc L st G nc ns) : am_Ex C M scr Q X pc L (.int x :: st) G nc ns := am_Ex_in (by
  unfold am_step
  rw [hk]
  exact ⟨k1, k2⟩)
theorem r_icmp_eq {n : Int} {x y : Int32} (hk : am_lk (am_mt M) pc = some (pp, .if_icmp .eq n, npc, a, b, t, u, pos, cv, cl)) (k1 : x = y → am_Ex C M scr Q X a L st G nc ns) (k2 : ¬ x = y → am_Ex C M scr Q X npc L st G nc ns) : am_Ex C M scr Q X pc L (.int y :: .int x :: st) G nc ns := am_Ex_in (by
  unfold am_step
  rw [hk]
  exact ⟨k1, k2⟩)
theorem r_icmp_ne {n : Int} {x y : Int32} (hk : am_lk (am_mt M) pc = some (pp, .if_icmp .ne n, npc, a, b, t, u, pos, cv, cl)) (k1 : ¬ x = y → am_Ex C M scr Q X a L st G nc ns) (k2 : x = y → am_Ex C M scr Q X npc L st G nc ns) : am_Ex C M scr Q X pc L (.int y :: .int x :: st) G nc ns := am_Ex_in (by
  unfold am_step
  rw [hk]
  exact ⟨k1, k2⟩)
theorem r_icmp_lt {n : Int} {x y : Int32} (hk : am_lk (am_mt M) pc = some (pp, .if_icmp .lt n, npc, a, b, t, u, pos, cv, cl)) (k1 : x < y → am_Ex C M scr Q X a L st G nc ns) (k2 : ¬ x < y → am_Ex C M scr Q X npc L st G nc ns) : am_Ex C M scr Q X pc L (.int y :: .int x :: st) G nc ns := am_Ex_in (by
  unfold am_step
  rw [hk]
  exact ⟨k1, k2⟩)
theorem r_icmp_ge {n : Int} {x y : Int32} (hk : am_lk (am_mt M) pc = some (pp, .if_icmp .ge n, npc, a, b, t, u, pos, cv, cl)) (k1 : y ≤ x → am_Ex C M scr Q X a L st G nc ns) (k2 : ¬ y ≤ x → am_Ex C M scr Q X npc L st G nc ns) : am_Ex C M scr Q X pc L (.int y :: .int x :: st) G nc ns := am_Ex_in (by
  unfold am_step
  rw [hk]
  exact ⟨k1, k2⟩)
theorem r_icmp_gt {n : Int} {x y : Int32} (hk : am_lk (am_mt M) pc = some (pp, .if_icmp .gt n, npc, a, b, t, u, pos, cv, cl)) (k1 : y < x → am_Ex C M scr Q X a L st G nc ns) (k2 : ¬ y < x → am_Ex C M scr Q X npc L st G nc ns) : am_Ex C M scr Q X pc L (.int y :: .int x :: st) G nc ns := am_Ex_in (by
  unfold am_step
  rw [hk]
  exact ⟨k1, k2⟩)
theorem r_icmp_le {n : Int} {x y : Int32} (hk : am_lk (am_mt M) pc = some (pp, .if_icmp .le n, npc, a, b, t, u, pos, cv, cl)) (k1 : x ≤ y → am_Ex C M scr Q X a L st G nc ns) (k2 : ¬ x ≤ y → am_Ex C M scr Q X npc L st G nc ns) : am_Ex C M scr Q X pc L (.int y :: .int x :: st) G nc ns := am_Ex_in (by
  unfold am_step
  rw [hk]
  exact ⟨k1, k2⟩)
theorem r_ifnullR {n : Int} {x : Nat} (hk : am_lk (am_mt M) pc = some (pp, .ifnull n, npc, a, b, t, u, pos, cv, cl)) (k : am_Ex C M scr Q X npc L st G nc ns) : am_Ex C M scr Q X pc L (.ref x :: st) G nc ns := am_Ex_in (by
  unfold am_step
  rw [hk]
  exact k)
theorem r_ifnullN {n : Int} (hk : am_lk (am_mt M) pc = some (pp, .ifnull n, npc, a, b, t, u, pos, cv, cl)) (k : am_Ex C M scr Q X a L st G nc ns) : am_Ex C M scr Q X pc L (.null :: st) G nc ns := am_Ex_in (by
  unfold am_step
  rw [hk]
  exact k)
theorem r_ifnonnullR {n : Int} {x : Nat} (hk : am_lk (am_mt M) pc = some (pp, .ifnonnull n, npc, a, b, t, u, pos, cv, cl)) (k : am_Ex C M scr Q X a L st G nc ns) : am_Ex C M scr Q X pc L (.ref x :: st) G nc ns := am_Ex_in (by
  unfold am_step
  rw [hk]
  exact k)
theorem r_ifnonnullN {n : Int} (hk : am_lk (am_mt M) pc = some (pp, .ifnonnull n, npc, a, b, t, u, pos, cv, cl)) (k : am_Ex C M scr Q X npc L st G nc ns) : am_Ex C M scr Q X pc L (.null :: st) G nc ns := am_Ex_in (by
  unfold am_step
  rw [hk]
  exact k)
theorem r_table {d lo hi : Int} {offs : Array Int} {x : Int32} (hk : am_lk (am_mt M) pc = some (pp, .tableswitch d lo hi offs, npc, a, b, t, u, pos, cv, cl)) (k1 : x.toInt < lo ∨ hi < x.toInt → am_Ex C M scr Q X (am_tg pc d) L st G nc ns) (k2 : ∀ off : Int, ¬ x.toInt < lo → ¬ hi < x.toInt → offs[(x.toInt - lo).toNat]? = some off → am_Ex C M scr Q X (am_tg pc off) L st G nc ns) : am_Ex C M scr Q X pc L (.int x :: st) G nc ns := am_Ex_in (by
  unfold am_step
  rw [hk]
  exact ⟨k1, k2⟩)
theorem r_lookup {d : Int} {ps : Array (Int × Int)} {x : Int32} (hk : am_lk (am_mt M) pc = some (pp, .lookupswitch d ps, npc, a, b, t, u, pos, cv, cl)) (k : am_Ex C M scr Q X (am_tg pc (Op.lookupswitch.offset ps.toList d x.toInt)) L st G nc ns) : am_Ex C M scr Q X pc L (.int x :: st) G nc ns := am_Ex_in (by
  unfold am_step
  rw [hk]
  exact k)
theorem r_lookupT {d : Int} {ps : Array (Int × Int)} {x : Int32} {tgt : Nat} (hk : am_lk (am_mt M) pc = some (pp, .lookupswitch d ps, npc, a, b, t, u, pos, cv, cl)) (ht : am_tg pc (Op.lookupswitch.offset ps.toList d x.toInt) = tgt) (k : am_Ex C M scr Q X tgt L st G nc ns) : am_Ex C M scr Q X pc L (.int x :: st) G nc ns := r_lookup hk (by rw [ht]; exact k)
theorem r_tableIn {d lo hi : Int} {offs : Array Int} {x : Int32} {off : Int} {tgt : Nat} (hk : am_lk (am_mt M) pc = some (pp, .tableswitch d lo hi offs, npc, a, b, t, u, pos, cv, cl)) (h1 : ¬ x.toInt < lo) (h2 : ¬ hi < x.toInt) (ho : offs[(x.toInt - lo).toNat]? = some off) (ht : am_tg pc off = tgt) (k : am_Ex C M scr Q X tgt L st G nc ns) : am_Ex C M scr Q X pc L (.int x :: st) G nc ns := r_table hk (fun z => by omega) (fun off2 _ _ h3 => by cases ho.symm.trans h3; rw [ht]; exact k)
theorem r_tableOut {d lo hi : Int} {offs : Array Int} {x : Int32} {tgt : Nat} (hk : am_lk (am_mt M) pc = some (pp, .tableswitch d lo hi offs, npc, a, b, t, u, pos, cv, cl)) (h1 : x.toInt < lo ∨ hi < x.toInt) (ht : am_tg pc d = tgt) (k : am_Ex C M scr Q X tgt L st G nc ns) : am_Ex C M scr Q X pc L (.int x :: st) G nc ns := r_table hk (fun _ => by rw [ht]; exact k) (fun _ h2 h3 _ => by omega)
theorem r_getI {n o : Nat} (hk : am_lk (am_mt M) pc = some (pp, .getfield n, npc, a, b, t, u, pos, cv, cl)) (hq : am_kn (gR S 0) o = (a, 0)) (ha : a < 12) (hb : b < (am_fkl a).length) (hf : am_fk a b = (0, 0)) (k : am_Ex C M scr Q X npc L (.int (gI S o b) :: st) (am_H S) nc ns) : am_Ex C M scr Q X pc L (.ref o :: st) (am_H S) nc ns := am_Ex_in (by
  unfold am_step
  rw [hk]
  simp only [am_ins]
  rw [am_H_get hq (by intro z; simp only at z; omega), am_ck_O ha]
  refine ⟨rfl, ?_⟩
  rw [List.getElem?_map, List.getElem?_range hb]
  have e : am_fv S a o b = .int (gI S o b) := by
    unfold am_fv
    rw [hf]
    rfl
  show am_Ex C M scr Q X npc L (am_fv S a o b :: st) (am_H S) nc ns
  rw [e]
  exact k)
theorem r_getC {n o : Nat} {c : Nat} (hk : am_lk (am_mt M) pc = some (pp, .getfield n, npc, a, b, t, u, pos, cv, cl)) (hq : am_kn (gR S 0) o = (a, 0)) (ha : a < 12) (hb : b < (am_fkl a).length) (hf : am_fk a b = (1, c)) (k : am_Ex C M scr Q X npc L (.ref c :: st) (am_H S) nc ns) : am_Ex C M scr Q X pc L (.ref o :: st) (am_H S) nc ns := am_Ex_in (by
  unfold am_step
  rw [hk]
  simp only [am_ins]
  rw [am_H_get hq (by intro z; simp only at z; omega), am_ck_O ha]
  refine ⟨rfl, ?_⟩
  rw [List.getElem?_map, List.getElem?_range hb]
  have e : am_fv S a o b = .ref c := by
    unfold am_fv
    rw [hf]
    rfl
  show am_Ex C M scr Q X npc L (am_fv S a o b :: st) (am_H S) nc ns
  rw [e]
  exact k)
theorem r_getO {n o : Nat} {c : Nat} (hk : am_lk (am_mt M) pc = some (pp, .getfield n, npc, a, b, t, u, pos, cv, cl)) (hq : am_kn (gR S 0) o = (a, 0)) (ha : a < 12) (hb : b < (am_fkl a).length) (hf : am_fk a b = (2, c)) (k : am_Ex C M scr Q X npc L (.ref (o + c) :: st) (am_H S) nc ns) : am_Ex C M scr Q X pc L (.ref o :: st) (am_H S) nc ns := am_Ex_in (by
  unfold am_step
  rw [hk]
  simp only [am_ins]
  rw [am_H_get hq (by intro z; simp only at z; omega), am_ck_O ha]
  refine ⟨rfl, ?_⟩
  rw [List.getElem?_map, List.getElem?_range hb]
  have e : am_fv S a o b = .ref (o + c) := by
    unfold am_fv
    rw [hf]
    rfl
  show am_Ex C M scr Q X npc L (am_fv S a o b :: st) (am_H S) nc ns
  rw [e]
  exact k)
theorem r_getD {n o : Nat} {c : Nat} (hk : am_lk (am_mt M) pc = some (pp, .getfield n, npc, a, b, t, u, pos, cv, cl)) (hq : am_kn (gR S 0) o = (a, 0)) (ha : a < 12) (hb : b < (am_fkl a).length) (hf : am_fk a b = (3, c)) (k : am_Ex C M scr Q X npc L (.ref (gR S c) :: st) (am_H S) nc ns) : am_Ex C M scr Q X pc L (.ref o :: st) (am_H S) nc ns := am_Ex_in (by
  unfold am_step
  rw [hk]
  simp only [am_ins]
  rw [am_H_get hq (by intro z; simp only at z; omega), am_ck_O ha]
  refine ⟨rfl, ?_⟩
  rw [List.getElem?_map, List.getElem?_range hb]
  have e : am_fv S a o b = .ref (gR S c) := by
    unfold am_fv
    rw [hf]
    rfl
  show am_Ex C M scr Q X npc L (am_fv S a o b :: st) (am_H S) nc ns
  rw [e]
  exact k)
theorem r_getE {n o : Nat} {c r : Nat} (hk : am_lk (am_mt M) pc = some (pp, .getfield n, npc, a, b, t, u, pos, cv, cl)) (hq : am_kn (gR S 0) o = (a, 0)) (ha : a < 12) (hb : b < (am_fkl a).length) (hf : am_fk a b = (4, c)) (hr : gR S c = r + 1) (k : am_Ex C M scr Q X npc L (.ref (r + 1) :: st) (am_H S) nc ns) : am_Ex C M scr Q X pc L (.ref o :: st) (am_H S) nc ns := am_Ex_in (by
  unfold am_step
  rw [hk]
  simp only [am_ins]
  rw [am_H_get hq (by intro z; simp only at z; omega), am_ck_O ha]
  refine ⟨rfl, ?_⟩
  rw [List.getElem?_map, List.getElem?_range hb]
  have e : am_fv S a o b = .ref (r + 1) := by
    unfold am_fv
    rw [hf]
    simp only [hr]
  show am_Ex C M scr Q X npc L (am_fv S a o b :: st) (am_H S) nc ns
  rw [e]
  exact k)
theorem r_putI {n o : Nat} {x : Int32} (hk : am_lk (am_mt M) pc = some (pp, .putfield n, npc, a, b, 0, u, pos, cv, cl)) (hq : am_kn (gR S 0) o = (a, 0)) (ha : a < 12) (hb : b < (am_fkl a).length) (hf : am_fk a b = (0, 0)) (k : am_Ex C M scr Q X npc L st (am_H (uI S o b x)) nc ns) : am_Ex C M scr Q X pc L (.int x :: .ref o :: st) (am_H S) nc ns := am_Ex_in (by
  unfold am_step
  rw [hk]
  simp only [am_ins]
  rw [am_H_get hq (by intro z; simp only at z; omega), am_ck_O ha]
  refine ⟨rfl, by rw [List.length_map, List.length_range]; exact hb, ?_⟩
  show am_Ex C M scr Q X npc L st ((am_H S).set o _) nc ns
  rw [am_H_putI hq ha hf]
  exact k)
theorem r_putZ {n o : Nat} {x : Int32} (hk : am_lk (am_mt M) pc = some (pp, .putfield n, npc, a, b, 1, u, pos, cv, cl)) (hq : am_kn (gR S 0) o = (a, 0)) (ha : a < 12) (hb : b < (am_fkl a).length) (hf : am_fk a b = (0, 0)) (hx : x = 0 ∨ x = 1) (k : am_Ex C M scr Q X npc L st (am_H (uI S o b x)) nc ns) : am_Ex C M scr Q X pc L (.int x :: .ref o :: st) (am_H S) nc ns := am_Ex_in (by
  unfold am_step
  rw [hk]
  simp only [am_ins]
  rw [am_H_get hq (by intro z; simp only at z; omega), am_ck_O ha]
  refine ⟨rfl, by rw [List.length_map, List.length_range]; exact hb, ?_⟩
  refine ⟨hx, ?_⟩
  show am_Ex C M scr Q X npc L st ((am_H S).set o _) nc ns
  rw [am_H_putI hq ha hf]
  exact k)
theorem r_iald {o N : Nat} {i : Int32} (hk : am_lk (am_mt M) pc = some (pp, .iaload, npc, a, b, t, u, pos, cv, cl)) (hq : am_kn (gR S 0) o = (20, N)) (hN : N < 2147483648) (h1 : 0 ≤ i) (h2 : i < Int32.ofNat N) (k : am_Ex C M none Q X npc L (.int (gI S o i.toNatClampNeg) :: st) (am_H S) nc ns) : am_Ex C M none Q X pc L (.int i :: .ref o :: st) (am_H S) nc ns := am_Ex_in (by
  unfold am_step
  rw [hk]
  have hv := am_vp h1 h2 hN
  simp only [am_ins]
  rw [am_H_get hq (by intro z; cases z)]
  exact ⟨rfl, hv, k⟩)
theorem r_bald {o N : Nat} {i : Int32} (hk : am_lk (am_mt M) pc = some (pp, .baload, npc, a, b, t, u, pos, cv, cl)) (hq : am_kn (gR S 0) o = (22, N)) (hN : N < 2147483648) (h1 : 0 ≤ i) (h2 : i < Int32.ofNat N) (k : am_Ex C M scr Q X npc L (.int (gI S o i.toNatClampNeg) :: st) (am_H S) nc ns) : am_Ex C M scr Q X pc L (.int i :: .ref o :: st) (am_H S) nc ns := am_Ex_in (by
  unfold am_step
  rw [hk]
  have hv := am_vp h1 h2 hN
  simp only [am_ins]
  rw [am_H_get hq (by intro z; cases z)]
  exact ⟨rfl, hv, k⟩)
theorem r_lald {o N : Nat} {i : Int32} (hk : am_lk (am_mt M) pc = some (pp, .laload, npc, a, b, t, u, pos, cv, cl)) (hq : am_kn (gR S 0) o = (21, N)) (hN : N < 2147483648) (h1 : 0 ≤ i) (h2 : i < Int32.ofNat N) (k : am_Ex C M scr Q X npc L (.long (gJ S o i.toNatClampNeg) :: st) (am_H S) nc ns) : am_Ex C M scr Q X pc L (.int i :: .ref o :: st) (am_H S) nc ns := am_Ex_in (by
  unfold am_step
  rw [hk]
  have hv := am_vp h1 h2 hN
  simp only [am_ins]
  rw [am_H_get hq (by intro z; cases z)]
  exact ⟨hv, k⟩)
theorem r_iast {o N : Nat} {i : Int32} {x : Int32} (hk : am_lk (am_mt M) pc = some (pp, .iastore, npc, a, b, t, u, pos, cv, cl)) (hq : am_kn (gR S 0) o = (20, N)) (hN : N < 2147483648) (h1 : 0 ≤ i) (h2 : i < Int32.ofNat N) (k : am_Ex C M scr Q X npc L st (am_H (uI S o i.toNatClampNeg x)) nc ns) : am_Ex C M scr Q X pc L (.int x :: .int i :: .ref o :: st) (am_H S) nc ns := am_Ex_in (by
  unfold am_step
  rw [hk]
  have hv := am_vp h1 h2 hN
  simp only [am_ins]
  rw [am_H_get hq (by intro z; cases z)]
  refine ⟨rfl, hv, ?_⟩
  show am_Ex C M scr Q X npc L st ((am_H S).set o (.inl (0, N, upd (gI S o) i.toNatClampNeg x))) nc ns
  rw [am_H_putA (t := 0) hq (Or.inl rfl)]
  exact k)
theorem r_bast {o N : Nat} {i : Int32} {x : Int32} (hk : am_lk (am_mt M) pc = some (pp, .bastore, npc, a, b, t, u, pos, cv, cl)) (hq : am_kn (gR S 0) o = (22, N)) (hN : N < 2147483648) (hx : x = 0 ∨ x = 1) (h1 : 0 ≤ i) (h2 : i < Int32.ofNat N) (k : am_Ex C M scr Q X npc L st (am_H (uI S o i.toNatClampNeg x)) nc ns) : am_Ex C M scr Q X pc L (.int x :: .int i :: .ref o :: st) (am_H S) nc ns := am_Ex_in (by
  unfold am_step
  rw [hk]
  have hv := am_vp h1 h2 hN
  simp only [am_ins]
  rw [am_H_get hq (by intro z; cases z)]
  refine ⟨rfl, hx, hv, ?_⟩
  show am_Ex C M scr Q X npc L st ((am_H S).set o (.inl (2, N, upd (gI S o) i.toNatClampNeg x))) nc ns
  rw [am_H_putA (t := 2) hq (Or.inr rfl)]
  exact k)
theorem r_last {o N : Nat} {i : Int32} {x : Int64} (hk : am_lk (am_mt M) pc = some (pp, .lastore, npc, a, b, t, u, pos, cv, cl)) (hq : am_kn (gR S 0) o = (21, N)) (hN : N < 2147483648) (h1 : 0 ≤ i) (h2 : i < Int32.ofNat N) (k : am_Ex C M scr Q X npc L st (am_H (uJ S o i.toNatClampNeg x)) nc ns) : am_Ex C M scr Q X pc L (.long x :: .int i :: .ref o :: st) (am_H S) nc ns := am_Ex_in (by
  unfold am_step
  rw [hk]
  have hv := am_vp h1 h2 hN
  simp only [am_ins]
  rw [am_H_get hq (by intro z; cases z)]
  refine ⟨hv, ?_⟩
  show am_Ex C M scr Q X npc L st ((am_H S).set o (.inr (.inl (N, vp_updL (gJ S o) i.toNatClampNeg x)))) nc ns
  rw [am_H_putJ hq]
  exact k)
theorem r_alen {o N q : Nat} (hk : am_lk (am_mt M) pc = some (pp, .arraylength, npc, a, b, t, u, pos, cv, cl)) (hq : am_kn (gR S 0) o = (q, N)) (hq2 : q = 20 ∨ q = 21 ∨ q = 22) (k : am_Ex C M none Q X npc L (.int (Int32.ofNat N) :: st) (am_H S) nc ns) : am_Ex C M none Q X pc L (.ref o :: st) (am_H S) nc ns := am_Ex_in (by
  unfold am_step
  rw [hk]
  simp only [am_ins]
  rw [am_H_get hq (by rcases hq2 with rfl | rfl | rfl <;> intro z <;> cases z)]
  rcases hq2 with rfl | rfl | rfl
  · exact ⟨by decide, k⟩
  · exact k
  · exact ⟨by decide, k⟩)
theorem r_aaldP {o N : Nat} {i : Int32} (hk : am_lk (am_mt M) pc = some (pp, .aaload, npc, a, b, t, u, pos, cv, cl)) (hq : am_kn (gR S 0) o = (23, N)) (h1 : 0 ≤ i) (h2 : i < 6) (k : am_Ex C M scr Q X npc L (.ref (6 + 2 * i.toNatClampNeg) :: st) (am_H S) nc ns) : am_Ex C M scr Q X pc L (.int i :: .ref o :: st) (am_H S) nc ns := am_Ex_in (by
  unfold am_step
  rw [hk]
  have hv : vp_in i 6 := am_vp h1 h2 (by decide)
  simp only [am_ins]
  rw [am_H_get hq (by intro z; cases z)]
  refine ⟨by decide, by decide, hv, ?_⟩
  obtain ⟨j, hj, rfl⟩ := vp_in_of hv (by decide)
  rw [nI_clamp (by omega)] at k ⊢
  match j, hj with
  | 0, _ => exact k
  | 1, _ => exact k
  | 2, _ => exact k
  | 3, _ => exact k
  | 4, _ => exact k
  | 5, _ => exact k)
theorem r_aaldF {o N : Nat} {i : Int32} (hk : am_lk (am_mt M) pc = some (pp, .aaload, npc, a, b, t, u, pos, cv, cl)) (hq : am_kn (gR S 0) o = (24, N)) (h1 : 0 ≤ i) (h2 : i < 12) (k : am_Ex C M scr Q X npc L (.ref (18 + 3 * i.toNatClampNeg) :: st) (am_H S) nc ns) : am_Ex C M scr Q X pc L (.int i :: .ref o :: st) (am_H S) nc ns := am_Ex_in (by
  unfold am_step
  rw [hk]
  have hv : vp_in i 12 := am_vp h1 h2 (by decide)
  simp only [am_ins]
  rw [am_H_get hq (by intro z; cases z)]
  refine ⟨by decide, by decide, hv, ?_⟩
  obtain ⟨j, hj, rfl⟩ := vp_in_of hv (by decide)
  rw [nI_clamp (by omega)] at k ⊢
  match j, hj with
  | 0, _ => exact k
  | 1, _ => exact k
  | 2, _ => exact k
  | 3, _ => exact k
  | 4, _ => exact k
  | 5, _ => exact k
  | 6, _ => exact k
  | 7, _ => exact k
  | 8, _ => exact k
  | 9, _ => exact k
  | 10, _ => exact k
  | 11, _ => exact k)
theorem r_iret {x : Int32} (hk : am_lk (am_mt M) pc = some (pp, .ireturn, npc, a, b, t, u, pos, cv, cl)) (hr : am_mr M = some .int) (k : Q (some (.int x)) G) : am_Ex C M scr Q X pc L [.int x] G nc ns := am_Ex_in (by
  unfold am_step
  rw [hk]
  simp only [am_ins]
  rw [hr]
  exact k)
theorem r_zret {x : Int32} (hk : am_lk (am_mt M) pc = some (pp, .ireturn, npc, a, b, t, u, pos, cv, cl)) (hr : am_mr M = some .boolean) (hx : x = 0 ∨ x = 1) (k : Q (some (.int x)) G) : am_Ex C M scr Q X pc L [.int x] G nc ns := am_Ex_in (by
  unfold am_step
  rw [hk]
  simp only [am_ins]
  rw [hr]
  exact ⟨hx, k⟩)
theorem r_lret {x : Int64} (hk : am_lk (am_mt M) pc = some (pp, .lreturn, npc, a, b, t, u, pos, cv, cl)) (k : Q (some (.long x)) G) : am_Ex C M scr Q X pc L [.long x] G nc ns := am_Ex_in (by
  unfold am_step
  rw [hk]
  exact k)
theorem r_vret (hk : am_lk (am_mt M) pc = some (pp, .return_, npc, a, b, t, u, pos, cv, cl)) (k : Q none G) : am_Ex C M scr Q X pc L [] G nc ns := am_Ex_in (by
  unfold am_step
  rw [hk]
  exact k)
theorem r_max {n : Nat} {x y : Int32} (hk : am_lk (am_mt M) pc = some (pp, .invokestatic n, npc, a, b, 6, u, pos, cv, cl)) (hc : (st.map fun v => v.category).sum ≤ 8) (k : am_Ex C M scr Q X npc L (.int (if x < y then y else x) :: st) G nc ns) : am_Ex C M scr Q X pc L (.int y :: .int x :: st) G nc ns := am_Ex_in (by
  unfold am_step
  rw [hk]
  exact ⟨hc, k⟩)
theorem r_min {n : Nat} {x y : Int32} (hk : am_lk (am_mt M) pc = some (pp, .invokestatic n, npc, a, b, 7, u, pos, cv, cl)) (hc : (st.map fun v => v.category).sum ≤ 8) (k : am_Ex C M scr Q X npc L (.int (if y < x then y else x) :: st) G nc ns) : am_Ex C M scr Q X pc L (.int y :: .int x :: st) G nc ns := am_Ex_in (by
  unfold am_step
  rw [hk]
  exact ⟨hc, k⟩)
theorem r_abs {n : Nat} {x : Int32} (hk : am_lk (am_mt M) pc = some (pp, .invokestatic n, npc, a, b, 8, u, pos, cv, cl)) (hc : (st.map fun v => v.category).sum ≤ 8) (k : am_Ex C M scr Q X npc L (.int (if 0 ≤ x then x else 0 - x) :: st) G nc ns) : am_Ex C M scr Q X pc L (.int x :: st) G nc ns := am_Ex_in (by
  unfold am_step
  rw [hk]
  exact ⟨hc, k⟩)
theorem r_maxl {n : Nat} {x y : Int64} (hk : am_lk (am_mt M) pc = some (pp, .invokestatic n, npc, a, b, 9, u, pos, cv, cl)) (hc : (st.map fun v => v.category).sum ≤ 8) (k : am_Ex C M scr Q X npc L (.long (if y < x then x else y) :: st) G nc ns) : am_Ex C M scr Q X pc L (.long y :: .long x :: st) G nc ns := am_Ex_in (by
  unfold am_step
  rw [hk]
  exact ⟨hc, k⟩)
theorem r_absl {n : Nat} {x : Int64} (hk : am_lk (am_mt M) pc = some (pp, .invokestatic n, npc, a, b, 10, u, pos, cv, cl)) (hc : (st.map fun v => v.category).sum ≤ 8) (k : am_Ex C M scr Q X npc L (.long (if 0 < x then x else -x) :: st) G nc ns) : am_Ex C M scr Q X pc L (.long x :: st) G nc ns := am_Ex_in (by
  unfold am_step
  rw [hk]
  exact ⟨hc, k⟩)
theorem r_copyI {n o0 o1 n0 n1 : Nat} {sp dp w : Int32} (hk : am_lk (am_mt M) pc = some (pp, .invokestatic n, npc, a, b, 11, u, pos, cv, cl)) (hc : (st.map fun v => v.category).sum ≤ 8) (h0 : am_kn (gR S 0) o0 = (20, n0)) (h1 : am_kn (gR S 0) o1 = (20, n1)) (p1 : ¬ sp < 0) (p2 : ¬ dp < 0) (p3 : ¬ w < 0) (p4 : sp.toNatClampNeg + w.toNatClampNeg ≤ n0) (p5 : dp.toNatClampNeg + w.toNatClampNeg ≤ n1) (k : am_Ex C M scr Q X npc L st (am_H (rI S o1 (va_cpy (gI S o0) (gI S o1) sp.toNatClampNeg dp.toNatClampNeg w.toNatClampNeg))) nc ns) : am_Ex C M scr Q X pc L (.int w :: .int dp :: .ref o1 :: .int sp :: .ref o0 :: st) (am_H S) nc ns := am_Ex_in (by
  unfold am_step
  rw [hk]
  simp only [am_ins, am_cpy]
  rw [am_H_get h0 (by intro z; cases z), am_H_get h1 (by intro z; cases z)]
  refine ⟨p1, p2, p3, hc, rfl, rfl, p4, p5, ?_⟩
  show am_Ex C M scr Q X npc L st ((am_H S).set o1 _) nc ns
  rw [am_H_rowI h1]
  exact k)
theorem r_copyJ {n o0 o1 n0 n1 : Nat} {sp dp w : Int32} (hk : am_lk (am_mt M) pc = some (pp, .invokestatic n, npc, a, b, 11, u, pos, cv, cl)) (hc : (st.map fun v => v.category).sum ≤ 8) (h0 : am_kn (gR S 0) o0 = (21, n0)) (h1 : am_kn (gR S 0) o1 = (21, n1)) (p1 : ¬ sp < 0) (p2 : ¬ dp < 0) (p3 : ¬ w < 0) (p4 : sp.toNatClampNeg + w.toNatClampNeg ≤ n0) (p5 : dp.toNatClampNeg + w.toNatClampNeg ≤ n1) (k : am_Ex C M scr Q X npc L st (am_H (rJ S o1 (va_cpy (gJ S o0) (gJ S o1) sp.toNatClampNeg dp.toNatClampNeg w.toNatClampNeg))) nc ns) : am_Ex C M scr Q X pc L (.int w :: .int dp :: .ref o1 :: .int sp :: .ref o0 :: st) (am_H S) nc ns := am_Ex_in (by
  unfold am_step
  rw [hk]
  simp only [am_ins, am_cpy]
  rw [am_H_get h0 (by intro z; cases z), am_H_get h1 (by intro z; cases z)]
  refine ⟨p1, p2, p3, hc, p4, p5, ?_⟩
  show am_Ex C M scr Q X npc L st ((am_H S).set o1 _) nc ns
  rw [am_H_rowJ h1]
  exact k)
/-- a contract: at depth d the callee mi answers r and leaves S2 -/
def am_CT (d mi : Nat) (As : List Value) (S : am_S) (r : Option Value) (S2 : am_S) : Prop := am_Call am_MT d mi As (am_H S) (fun r1 G1 => r1 = r ∧ G1 = am_H S2)
theorem r_callV {n mi d n1 o : Nat} {As : List Value} {r : Option Value} {S2 : am_S} (hk : am_lk (am_mt M) pc = some (pp, .invokevirtual n, npc, mi, n1, 0, u, pos, cv, cl)) (hc : am_CT d mi As S r S2) (hst : (st.take n1).reverse = As) (ho : st[n1 - 1]? = some (.ref o)) (hq : am_kn (gR S 0) o = (u, 0)) (hu : u < 12) (hn : Nat.ble n1 st.length = true) (hcat : ((st.drop n1).map fun v => v.category).sum ≤ 8) (k : am_Ex (am_Call am_MT d) M scr Q X npc L (am_psh r (st.drop n1)) (am_H S2) nc ns) : am_Ex (am_Call am_MT d) M scr Q X pc L st (am_H S) nc ns := am_Ex_in (by
  unfold am_step
  rw [hk]
  simp only [am_ins, am_inv, am_rcv]
  rw [ho]
  simp only
  rw [am_H_get hq (by intro z; simp only at z; omega), am_ck_O hu, hst]
  exact ⟨rfl, Nat.le_of_ble_eq_true hn, hcat, _, hc, fun r1 G1 hr => by rw [hr.1, hr.2]; exact k⟩)
theorem r_callS {n mi d n1 : Nat} {As : List Value} {r : Option Value} {S2 : am_S} (hk : am_lk (am_mt M) pc = some (pp, .invokestatic n, npc, mi, n1, t, u, pos, cv, cl)) (ht : t = 1 ∨ t = 2) (hc : am_CT d mi As S r S2) (hst : (st.take n1).reverse = As) (hn : Nat.ble n1 st.length = true) (hcat : ((st.drop n1).map fun v => v.category).sum ≤ 8) (k : am_Ex (am_Call am_MT d) M scr Q X npc L (am_psh r (st.drop n1)) (am_H S2) nc ns) : am_Ex (am_Call am_MT d) M scr Q X pc L st (am_H S) nc ns := am_Ex_in (by
  unfold am_step
  rw [hk]
  rcases ht with rfl | rfl
  all_goals
    simp only [am_ins, am_inv]
    rw [hst]
    exact ⟨Nat.le_of_ble_eq_true hn, hcat, _, hc, fun r1 G1 hr => by rw [hr.1, hr.2]; exact k⟩)
end AMR
theorem am_CT_in {d mi : Nat} {As : List Value} {S S2 : am_S} {r : Option Value} (M : am_M) (hM : am_MT mi = some M) (hl : Nat.ble (am_ent As).length (am_mL M) = true) (hv : As.all (fun v => match v with
  | .double _ => false
  | _ => true) = true) (h : am_Ex (am_Call am_MT d) M none (fun r1 G1 => r1 = r ∧ G1 = am_H S2) (fun _ _ _ _ _ _ => False) 0 (am_entL (am_mL M) As) [] (am_H S) 0 0) : am_CT (d + 1) mi As S r S2 := by
  refine ⟨M, hM, Nat.le_of_ble_eq_true hl, fun v hv1 hc => ?_, h⟩
  have h2 := List.all_eq_true.mp hv v hv1
  cases v with
  | long x => exact ⟨x, rfl⟩
  | double x => cases h2
  | int _ => cases hc
  | ref _ => cases hc
  | null => cases hc
  | _ => cases hc
/-- the methods by their numbers -/
abbrev iX0_init : Nat := 0
abbrev iX0_restart : Nat := 1
abbrev iX0_copy : Nat := 2
abbrev iX0_placeAt : Nat := 3
abbrev iX0_noted : Nat := 4
abbrev iX0_spoke : Nat := 5
abbrev iX0_note : Nat := 6
abbrev iX0_move : Nat := 7
abbrev iX0_drawOfTen : Nat := 8
abbrev iX0_off : Nat := 9
abbrev iX0_costTo : Nat := 10
abbrev iX0_settledFrom : Nat := 11
abbrev iX0_widest : Nat := 12
abbrev iX0_turnsRound : Nat := 13
abbrev iX1_init : Nat := 14
abbrev iX1_add : Nat := 15
abbrev iX1_copy : Nat := 16
abbrev iX1_value : Nat := 17
abbrev iX1_thing : Nat := 18
abbrev iX1_reckon : Nat := 19
abbrev iX1_join : Nat := 20
abbrev iX2_init : Nat := 21
abbrev iX2_leastCost : Nat := 22
abbrev iX2_spread : Nat := 23
abbrev iX2_reckonCosts : Nat := 24
abbrev iX2_leastAt : Nat := 25
abbrev iX2_hopedFor : Nat := 26
abbrev iX2_inReach : Nat := 27
abbrev iX3_init : Nat := 28
abbrev iX3_tabulate : Nat := 29
abbrev iX3_worth : Nat := 30
abbrev iX3_sum : Nat := 31
abbrev iX3_brings : Nat := 32
abbrev iX3_bestThing : Nat := 33
abbrev iX3_playBest : Nat := 34
abbrev iX3_playByTurns : Nat := 35
abbrev iX3_changes : Nat := 36
abbrev iX3_mostSeeingBoth : Nat := 37
abbrev iX3_spell : Nat := 38
abbrev iX3_ruleNumber : Nat := 39
abbrev iX4_init : Nat := 40
abbrev iX4_hearsAfter : Nat := 41
abbrev iX5_init : Nat := 42
abbrev iX5_addFour : Nat := 43
abbrev iX5_read : Nat := 44
abbrev iX5_startAnew : Nat := 45
abbrev iX5_take : Nat := 46
abbrev iX5_takeDigit : Nat := 47
abbrev iX5_takeAhead : Nat := 48
abbrev iX5_takeBehind : Nat := 49
abbrev iX5_open : Nat := 50
abbrev iX5_close : Nat := 51
abbrev iX5_finishNumber : Nat := 52
abbrev iX5_putOff : Nat := 53
abbrev iX5_finishDownTo : Nat := 54
abbrev iX5_rankOf : Nat := 55
abbrev iX6_init : Nat := 56
abbrev iX6_swing : Nat := 57
abbrev iX6_widest : Nat := 58
abbrev iX6_turns : Nat := 59
abbrev iX6_calmFrom : Nat := 60
abbrev iX7_init : Nat := 61
abbrev iX7_clear : Nat := 62
abbrev iX7_add : Nat := 63
abbrev iX7_tellOne : Nat := 64
abbrev iX7_tellTwo : Nat := 65
abbrev iX7_tellThree : Nat := 66
abbrev iX7_tellFraction : Nat := 67
abbrev iX8_init : Nat := 68
abbrev iX8_minutes : Nat := 69
abbrev iX8_measure : Nat := 70
abbrev iX8_minutesBy : Nat := 71
abbrev iX8_findWay : Nat := 72
abbrev iX9_init : Nat := 73
abbrev iX9_has : Nat := 74
abbrev iX9_hasTwo : Nat := 75
abbrev iX9_isNear : Nat := 76
abbrev iX9_isSeen : Nat := 77
abbrev iX9_isDeed : Nat := 78
abbrev iX9_toldRules : Nat := 79
abbrev iX9_look : Nat := 80
abbrev iX9_hears : Nat := 81
abbrev iX9_deed : Nat := 82
abbrev iX9_speech : Nat := 83
abbrev iX9_pass : Nat := 84
abbrev iX9_wind : Nat := 85
abbrev iX10_init : Nat := 86
abbrev iX10_person : Nat := 87
abbrev iX10_set : Nat := 88
abbrev iX10_link : Nat := 89
abbrev iX10_beam : Nat := 90
abbrev iX10_sheet : Nat := 91
abbrev iX10_sign : Nat := 92
abbrev iX10_end : Nat := 93
abbrev iX10_rule : Nat := 94
abbrev iX10_does : Nat := 95
abbrev iX10_go : Nat := 96
abbrev iX10_begin : Nat := 97
abbrev iX10_place : Nat := 98
abbrev iX10_was : Nat := 99
abbrev iX10_cost : Nat := 100
abbrev iX10_crossed : Nat := 101
abbrev iX10_by : Nat := 102
abbrev iX10_would : Nat := 103
abbrev iX10_rules : Nat := 104
abbrev iX10_pair : Nat := 105
abbrev iX10_echo : Nat := 106
abbrev iX10_waits : Nat := 107
abbrev iX10_swings : Nat := 108
abbrev iX10_steer : Nat := 109
abbrev iX10_blind : Nat := 110
abbrev iX10_pull : Nat := 111
abbrev iX10_edge : Nat := 112
abbrev iX10_gentle : Nat := 113
abbrev iX10_weight : Nat := 114
abbrev iX10_pays : Nat := 115
abbrev iX10_two : Nat := 116
abbrev iX10_stand : Nat := 117
abbrev iX10_gap : Nat := 118
abbrev iX10_says : Nat := 119
abbrev iX10_soon : Nat := 120
abbrev iX10_know : Nat := 121
abbrev iX10_crier : Nat := 122
abbrev iX10_deaf : Nat := 123
abbrev iX10_warn : Nat := 124
abbrev iX10_fog : Nat := 125
abbrev iX10_chance : Nat := 126
abbrev iX10_sure : Nat := 127
abbrev iX10_seed : Nat := 128
abbrev iX10_keep : Nat := 129
abbrev iX10_again : Nat := 130
abbrev iX10_count : Nat := 131
abbrev iX10_row : Nat := 132
abbrev iX10_isWithin : Nat := 133
abbrev iX10_putTo : Nat := 134
abbrev iX10_withBit : Nat := 135
abbrev iX10_hasBit : Nat := 136
abbrev iX10_powerOfTen : Nat := 137
abbrev iX10_sheetEntry : Nat := 138
abbrev iX10_canSteer : Nat := 139
abbrev iX10_isRuleNumber : Nat := 140
abbrev iX10_tryOut : Nat := 141
abbrev iX10_doneByAll : Nat := 142
abbrev iX10_sameMinute : Nat := 143
abbrev iX10_saidTooSoon : Nat := 144
abbrev iX10_heardByAll : Nat := 145
abbrev iX10_answeredOfHundred : Nat := 146
abbrev iX11_thrown : Nat := 147
abbrev iX11_refuse : Nat := 148
abbrev iX11_in : Nat := 149
abbrev iX11_has : Nat := 150
abbrev iX11_flag : Nat := 151
abbrev iX11_put : Nat := 152
abbrev iX11_enters : Nat := 153
abbrev iX11_common : Nat := 154
abbrev iX11_entersFraction : Nat := 155
abbrev iX11_isPerson : Nat := 156
abbrev iX11_arePair : Nat := 157
abbrev iX11_mostOf : Nat := 158
abbrev iX11_person : Nat := 159
abbrev iX11_set : Nat := 160
abbrev iX11_with : Nat := 161
abbrev iX11_link : Nat := 162
abbrev iX11_beam : Nat := 163
abbrev iX11_sheet : Nat := 164
abbrev iX11_sign : Nat := 165
abbrev iX11_end : Nat := 166
abbrev iX11_isDigit : Nat := 167
abbrev iX11_among : Nat := 168
abbrev iX11_marks : Nat := 169
abbrev iX11_thing : Nat := 170
abbrev iX11_ahead : Nat := 171
abbrev iX11_ranked : Nat := 172
abbrev iX11_reads : Nat := 173
abbrev iX11_rule : Nat := 174
abbrev iX11_pays : Nat := 175
abbrev iX11_acted : Nat := 176
abbrev iX11_worked : Nat := 177
abbrev iX11_indexOf : Nat := 178
abbrev iX11_wasOf : Nat := 179
abbrev iX11_placeAt : Nat := 180
abbrev iX11_lateOf : Nat := 181
abbrev iX11_heardBy : Nat := 182
abbrev iX11_looks : Nat := 183
abbrev iX11_doesNow : Nat := 184
abbrev iX11_draws : Nat := 185
abbrev iX11_blows : Nat := 186
abbrev iX11_passes : Nat := 187
abbrev iX11_does : Nat := 188
abbrev iX11_go : Nat := 189
abbrev iX11_begins : Nat := 190
abbrev iX11_begin : Nat := 191
abbrev iX11_place : Nat := 192
abbrev iX11_was : Nat := 193
abbrev iX11_costNow : Nat := 194
abbrev iX11_cost : Nat := 195
abbrev iX11_crossed : Nat := 196
abbrev iX11_by : Nat := 197
abbrev iX11_putsBy : Nat := 198
abbrev iX11_takesBack : Nat := 199
abbrev iX11_costs : Nat := 200
abbrev iX11_would : Nat := 201
abbrev iX11_rules : Nat := 202
abbrev iX11_pair : Nat := 203
abbrev iX11_echo : Nat := 204
abbrev iX11_waits : Nat := 205
abbrev iX11_swings : Nat := 206
abbrev iX11_sumsWinds : Nat := 207
abbrev iX11_costOf : Nat := 208
abbrev iX11_then : Nat := 209
abbrev iX11_steers : Nat := 210
abbrev iX11_isSteering : Nat := 211
abbrev iX11_steer : Nat := 212
abbrev iX11_power : Nat := 213
abbrev iX11_blind : Nat := 214
abbrev iX11_pulls : Nat := 215
abbrev iX11_greatest : Nat := 216
abbrev iX11_calm : Nat := 217
abbrev iX11_pull : Nat := 218
abbrev iX11_edge : Nat := 219
abbrev iX11_gentle : Nat := 220
abbrev iX11_weight : Nat := 221
abbrev iX11_worth : Nat := 222
abbrev iX11_thingOf : Nat := 223
abbrev iX11_worthOf : Nat := 224
abbrev iX11_ruleAt : Nat := 225
abbrev iX11_bestOfTwo : Nat := 226
abbrev iX11_two : Nat := 227
abbrev iX11_partOf : Nat := 228
abbrev iX11_answers : Nat := 229
abbrev iX11_stands : Nat := 230
abbrev iX11_isStand : Nat := 231
abbrev iX11_stand : Nat := 232
abbrev iX11_gap : Nat := 233
abbrev iX11_stepTo : Nat := 234
abbrev iX11_fars : Nat := 235
abbrev iX11_minutesTo : Nat := 236
abbrev iX11_says : Nat := 237
abbrev iX11_soon : Nat := 238
abbrev iX11_know : Nat := 239
abbrev iX11_crier : Nat := 240
abbrev iX11_deaf : Nat := 241
abbrev iX11_warn : Nat := 242
abbrev iX11_fog : Nat := 243
abbrev iX11_fogOf : Nat := 244
abbrev iX11_casesBy : Nat := 245
abbrev iX11_chance : Nat := 246
abbrev iX11_sure : Nat := 247
abbrev iX11_seed : Nat := 248
abbrev iX11_keep : Nat := 249
abbrev iX11_again : Nat := 250
abbrev iX11_rulesTold : Nat := 251
abbrev iX11_count : Nat := 252
abbrev iX11_init : Nat := 253
abbrev iX11_row : Nat := 254
abbrev iJ6_signum_0f7a4 : Nat := 255
theorem gI_uI_ne {S : am_S} {o k : Nat} {v : Int32} {a : Nat} (h : a ≠ o) : gI (uI S o k v) a = gI S a := funext fun b => by rw [gI_uI, if_neg h]
theorem gI_rI_ne {S : am_S} {o : Nat} {g : Nat → Int32} {a : Nat} (h : a ≠ o) : gI (rI S o g) a = gI S a := funext fun b => by rw [gI_rI, if_neg h]
theorem gI_rI_eq {S : am_S} {o : Nat} {g : Nat → Int32} : gI (rI S o g) o = g := funext fun b => by rw [gI_rI, if_pos rfl]
theorem gI_uI_eq {S : am_S} {o k : Nat} {v : Int32} : gI (uI S o k v) o = upd (gI S o) k v := funext fun b => by rw [gI_uI, if_pos rfl]; rfl
theorem gI_uJ_f {S : am_S} {o k : Nat} {v : Int64} : gI (uJ S o k v) = gI S := rfl
theorem gI_rJ_f {S : am_S} {o : Nat} {g : Nat → Int64} : gI (rJ S o g) = gI S := rfl
theorem gJ_uI_f {S : am_S} {o k : Nat} {v : Int32} : gJ (uI S o k v) = gJ S := rfl
theorem gJ_rI_f {S : am_S} {o : Nat} {g : Nat → Int32} : gJ (rI S o g) = gJ S := rfl
theorem gJ_uJ_ne {S : am_S} {o k : Nat} {v : Int64} {a : Nat} (h : a ≠ o) : gJ (uJ S o k v) a = gJ S a := funext fun b => by rw [gJ_uJ, if_neg h]
theorem gJ_rJ_ne {S : am_S} {o : Nat} {g : Nat → Int64} {a : Nat} (h : a ≠ o) : gJ (rJ S o g) a = gJ S a := funext fun b => by rw [gJ_rJ, if_neg h]
theorem gJ_rJ_eq {S : am_S} {o : Nat} {g : Nat → Int64} : gJ (rJ S o g) o = g := funext fun b => by rw [gJ_rJ, if_pos rfl]
theorem cl_200 : (Int32.ofNat 200).toNatClampNeg = 200 := by decide
theorem cl_1200 : (Int32.ofNat 1200).toNatClampNeg = 1200 := by decide
theorem uI_rI (S : am_S) (o k : Nat) (v : Int32) : uI S o k v = rI S o (upd (gI S o) k v) := by
  unfold uI rI
  congr 1
  funext a b
  simp only [am_up2, am_upr, upd, gI]
  by_cases h : a = o
  · subst h
    simp
  · simp [h]
theorem rI_id (S : am_S) (o : Nat) : rI S o (gI S o) = S := by
  unfold rI
  conv => rhs; rw [← Prod.eta S]
  congr 1
  funext a b
  simp only [am_upr, gI]
  by_cases h : a = o
  · subst h; simp
  · simp [h]
theorem rI_rI (S : am_S) (o : Nat) (g h : Nat → Int32) : rI (rI S o g) o h = rI S o h := by
  unfold rI
  congr 1
  funext a b
  simp only [am_upr]
  by_cases h : a = o <;> simp [h]
theorem uI_rIs (S : am_S) (o k : Nat) (v : Int32) (g : Nat → Int32) : uI (rI S o g) o k v = rI S o (upd g k v) := by rw [uI_rI, rI_rI, gI_rI_eq]
theorem uI_rI_comm (S : am_S) (o k p : Nat) (v : Int32) (g : Nat → Int32) (h : o ≠ p) : uI (rI S p g) o k v = rI (uI S o k v) p g := by
  unfold uI rI
  congr 1
  funext a b
  simp only [am_up2, am_upr]
  by_cases h1 : a = o
  · subst h1; simp [h]
  · simp [h1]
theorem rI_rI_comm (S : am_S) (o p : Nat) (f g : Nat → Int32) (h : o ≠ p) : rI (rI S p g) o f = rI (rI S o f) p g := by
  unfold rI
  congr 1
  funext a b
  simp only [am_upr]
  by_cases h1 : a = o
  · subst h1; simp [h]
  · simp [h1]
theorem uI_uI (S : am_S) (o k : Nat) (v w : Int32) : uI (uI S o k v) o k w = uI S o k w := by
  unfold uI
  congr 1
  funext a b
  simp only [am_up2]
  by_cases h1 : a = o
  · by_cases h2 : b = k <;> simp [h1, h2]
  · simp [h1]
theorem uI_same (S : am_S) (o k : Nat) : uI S o k (gI S o k) = S := by
  unfold uI
  conv => rhs; rw [← Prod.eta S]
  congr 1
  funext a b
  simp only [am_up2, gI]
  by_cases h1 : a = o
  · by_cases h2 : b = k <;> simp [h1, h2]
  · simp [h1]
theorem uI_uI_comm (S : am_S) (o k p j : Nat) (v w : Int32) (h : o ≠ p ∨ k ≠ j) : uI (uI S p j w) o k v = uI (uI S o k v) p j w := by
  unfold uI
  congr 1
  funext a b
  simp only [am_up2]
  by_cases h1 : a = o <;> by_cases h2 : b = k <;> by_cases h3 : a = p <;> by_cases h4 : b = j <;> simp_all
def b01 (P : Prop) [Decidable P] : Int32 := if P then 1 else 0
theorem b01_t {P : Prop} [Decidable P] (h : P) : b01 P = 1 := if_pos h
theorem b01_f {P : Prop} [Decidable P] (h : ¬ P) : b01 P = 0 := if_neg h
theorem b01_eq0 {P : Prop} [Decidable P] : b01 P = 0 ↔ ¬ P := by unfold b01; split <;> simp_all
theorem b01_or {P : Prop} [Decidable P] : b01 P = 0 ∨ b01 P = 1 := by unfold b01; split <;> simp
