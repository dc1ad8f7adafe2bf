/-! WHAT A TABLE MUST HAVE: each instruction as it decodes, its word among the tables' words at its place. -/
def am_at (pos : Nat) (w : Jvm.Cond) : Bool := decide (lw_tbl[pos]? = some w)
def am_U : List Jvm.Cond := lw_tbl.filter goodWord
theorem am_at_U {pos : Nat} {w : Jvm.Cond} (h : am_at pos w = true) (hg : goodWord w = true) : w ∈ am_U := List.mem_filter.mpr ⟨List.mem_of_getElem? (of_decide_eq_true h), hg⟩
def am_len (i : Instr) (d : Nat) : Nat := match i with
  | .bipush _ => 2
  | .sipush _ => 3
  | .ldc _ => 2
  | .ldc_w _ => 3
  | .ldc2_w _ => 3
  | .iload _ => 2
  | .lload _ => 2
  | .aload _ => 2
  | .istore _ => 2
  | .lstore _ => 2
  | .astore _ => 2
  | .iinc _ _ => 3
  | .ifCond _ _ => 3
  | .if_icmp _ _ => 3
  | .ifnull _ => 3
  | .ifnonnull _ => 3
  | .goto _ => 3
  | .tableswitch _ _ _ _ => d
  | .lookupswitch _ _ => d
  | .getfield _ => 3
  | .putfield _ => 3
  | .new _ => 3
  | .newarray _ => 2
  | .anewarray _ => 3
  | .invokestatic _ => 3
  | .invokespecial _ => 3
  | .invokevirtual _ => 3
  | _ => 1
/-- where the constant texts stand: the class and the entry -/
def am_sk (j : Nat) : Option (String × Nat) := match j with
  | 0 => some (RX10, 141)
  | 1 => some (RX10, 281)
  | 2 => some (RX11, 155)
  | 3 => some (RX11, 163)
  | 4 => some (RX11, 165)
  | 5 => some (RX11, 173)
  | 6 => some (RX11, 175)
  | 7 => some (RX11, 177)
  | 8 => some (RX11, 179)
  | 9 => some (RX11, 181)
  | 10 => some (RX11, 185)
  | 11 => some (RX11, 191)
  | _ => none
/-- the words of nest mates -/
def am_nest : List Jvm.Cond := lw_tbl.filter (fun w => match w with
  | .methodLinkNest _ _ _ _ => true
  | _ => false)
def am_fld (own : String) (idx a b pos : Nat) : Bool := match vwCl[a]? with
  | some (C, T, N) => decide (b < N) && decide ((T b).1 = C) && am_at pos (.fieldLink own idx C (T b).2.1 (T b).2.2.1)
  | none => false
def am_pfl (own : String) (ini : Bool) (a b t : Nat) : Bool := match vwCl[a]? with
  | some (_, T, _) => ((T b).2.2.2 == false || (ini && decide ((T b).1 = own))) && (match parseFieldDescriptor (T b).2.2.1 with
    | some .int => t == 0
    | some .boolean => t == 1
    | some (.object _) => t == 2
    | some (.array _) => t == 2
    | _ => false)
  | none => false
def am_aty (a : Nat) : ArrayType := match a with
  | 0 => .int
  | 1 => .long
  | _ => .boolean
/-- a callee: k 0 static, 1 of an object, 2 a maker -/
def am_okM (M : am_M) : Bool := match am_mw M with
  | [p0, p1, p2, p3, k] => am_at p0 (.code (am_my M) (am_mb M) (am_mL M) (am_mr M)) && am_at p3 (.initialized (am_my M).cls) && plainName (am_my M).cls && decide ((am_my M).cls ≠ "java/lang/invoke/MethodHandle") && decide ((am_my M).cls ≠ "java/lang/invoke/VarHandle") && decide (am_mL M ≤ 40) && (match k with
    | 0 => am_at p1 (.static (am_my M)) && decide ((parseMethodDescriptor (am_my M).desc).map (fun d => d.parameters.length) = some (am_mp M)) && decide ((am_my M).name ≠ "<init>")
    | 1 => am_at p1 (.instanceMethod (am_my M)) && am_at p2 (.selects (am_my M).cls (am_my M) (am_my M)) && decide ((parseMethodDescriptor (am_my M).desc).map (fun d => d.parameters.length) = some (am_mp M - 1)) && decide (1 ≤ am_mp M) && decide ((vwCl[am_mk M]?).map (fun q => q.1) = some (am_my M).cls)
    | 2 => am_at p1 (.instanceMethod (am_my M)) && decide ((parseMethodDescriptor (am_my M).desc).map (fun d => d.parameters.length) = some (am_mp M - 1)) && decide (1 ≤ am_mp M) && decide ((am_my M).name = "<init>") && decide (am_mr M = none)
    | _ => false)
  | _ => false
def am_kd (M : am_M) : Nat := match am_mw M with
  | [_, _, _, _, k] => k
  | _ => 9
/-- the link of a call -/
def am_lnk (MT : Nat → Option am_M) (own : String) (idx a b t u pos : Nat) : Bool := match MT a with
  | some M2 => decide (b = am_mp M2) && (match t with
    | 0 => decide (am_kd M2 = 1) && decide (u = am_mk M2) && am_at pos (.methodLink own idx (am_my M2)) && decide (am_mc M2 = 0) && decide (am_ms M2 = 0)
    | 1 => decide (am_kd M2 = 0) && am_at pos (.methodLink own idx (am_my M2)) && decide (am_mc M2 = 0) && decide (am_ms M2 = 0)
    | 2 => decide (am_kd M2 = 0) && am_at pos (.methodLinkNest own idx (am_my M2) RX10) && decide (am_mc M2 = 0) && decide (am_ms M2 = 0)
    | 3 => decide (am_kd M2 = 2) && am_at pos (.methodLink own idx (am_my M2)) && decide (am_mc M2 = u / 1000000) && decide (am_ms M2 = u % 1000000)
    | 4 => decide (am_kd M2 = 2) && am_at pos (.methodLinkNest own idx (am_my M2) RX10) && decide (am_mc M2 = u / 1000000) && decide (am_ms M2 = u % 1000000)
    | _ => false)
  | none => false
def am_okX (MT : Nat → Option am_M) (M : am_M) (pc : Nat) (i : Instr) (a b t u pos : Nat) (cv : Int32) (cl : Int64) : Bool :=
  match i with
  | .iconst n => decide (Int32.ofInt n = cv)
  | .bipush n => decide ((Int8.ofInt n).toInt32 = cv)
  | .sipush n => decide ((Int16.ofInt n).toInt32 = cv)
  | .ldc idx => (match t with
    | 0 => am_at pos (.constant (am_my M).cls idx cv)
    | _ => decide (1000000 ≤ b) && decide (am_sk (b - 1000000) = some ((am_my M).cls, idx)))
  | .ldc_w idx => (match t with
    | 0 => am_at pos (.constant (am_my M).cls idx cv)
    | _ => decide (1000000 ≤ b) && decide (am_sk (b - 1000000) = some ((am_my M).cls, idx)))
  | .lconst n => decide (Int64.ofNat (n : Nat) = cl)
  | .ldc2_w idx => am_at pos (.constantLong (am_my M).cls idx cl)
  | .iload_n k => decide ((k : Nat) = a)
  | .iload k => decide (k = a)
  | .lload_n k => decide ((k : Nat) = a)
  | .lload k => decide (k = a)
  | .aload_n k => decide ((k : Nat) = a)
  | .aload k => decide (k = a)
  | .istore_n k => decide ((k : Nat) = a) && decide (a < am_mL M)
  | .istore k => decide (k = a) && decide (a < am_mL M)
  | .astore_n k => decide ((k : Nat) = a) && decide (a < am_mL M)
  | .astore k => decide (k = a) && decide (a < am_mL M)
  | .lstore_n k => decide ((k : Nat) = a) && decide (a + 1 < am_mL M)
  | .lstore k => decide (k = a) && decide (a + 1 < am_mL M)
  | .iinc k n => decide (k = a) && decide (Int32.ofInt n = cv) && decide (a < am_mL M)
  | .ifCond _ off => decide ((pc : Int) + off = (a : Int))
  | .if_icmp _ off => decide ((pc : Int) + off = (a : Int))
  | .ifnull off => decide ((pc : Int) + off = (a : Int))
  | .ifnonnull off => decide ((pc : Int) + off = (a : Int))
  | .goto off => decide ((pc : Int) + off = (a : Int))
  | .tableswitch d lo hi offs => decide (0 ≤ (pc : Int) + d) && offs.toList.all (fun o => decide (0 ≤ (pc : Int) + o)) && decide ((offs.size : Int) = hi - lo + 1)
  | .lookupswitch d ps => (ps.toList.zip (ps.toList.drop 1)).all (fun (a, next) => a.1 < next.1) && decide (0 ≤ (pc : Int) + d) && ps.toList.all (fun o => decide (0 ≤ (pc : Int) + o.2))
  | .getfield idx => am_fld (am_my M).cls idx a b pos
  | .putfield idx => am_fld (am_my M).cls idx a b pos && am_pfl (am_my M).cls (decide ((am_my M).name = "<init>")) a b t
  | .new idx => (match t with
    | 0 => (match vwCl[a]? with
      | some (C, _, N) => decide (b = N) && am_at pos (.classLink (am_my M).cls idx C) && am_at u (.instantiable C N)
      | none => false)
    | _ => true)
  | .newarray ty => decide (a < 3) && decide (ty = am_aty a) && am_at pos (.arrayClass (newarray.typeOf ty))
  | .anewarray idx => decide (3 ≤ a) && decide (a < 6) && (match vwCl[am_rc a]? with
    | some (C, _, _) => am_at pos (.classLink (am_my M).cls idx C)
    | none => false)
  | .ireturn => decide (am_mr M = some .int) || decide (am_mr M = some .boolean)
  | .lreturn => decide (am_mr M = some .long)
  | .return_ => decide (am_mr M = none)
  | .invokestatic idx => (match t with
    | 6 => am_at pos (.methodLink (am_my M).cls idx Lib.Math.max.name)
    | 7 => am_at pos (.methodLink (am_my M).cls idx Lib.Math.min.name)
    | 8 => am_at pos (.methodLink (am_my M).cls idx Lib.Math.abs.name)
    | 9 => am_at pos (.methodLink (am_my M).cls idx Lib.MathLoose.max_long.x)
    | 10 => am_at pos (.methodLink (am_my M).cls idx Lib.MathLoose.abs_long.x)
    | 11 => am_at pos (.methodLink (am_my M).cls idx arraycopyName)
    | 77 => true
    | _ => am_lnk MT (am_my M).cls idx a b t u pos)
  | .invokespecial idx => (match t with
    | 5 => am_at pos (.methodLink (am_my M).cls idx Lib.objectInit)
    | _ => am_lnk MT (am_my M).cls idx a b t u pos)
  | .invokevirtual idx => (match t with
    | 13 => am_at pos (.methodLink (am_my M).cls idx ⟨RJ0, "length", "()I"⟩)
    | 14 => am_at pos (.methodLink (am_my M).cls idx ⟨RJ0, "charAt", "(I)C"⟩)
    | 16 => am_at pos (.methodLink (am_my M).cls idx ⟨RJ0, "indexOf", "(I)I"⟩)
    | 77 => true
    | _ => am_lnk MT (am_my M).cls idx a b t u pos)
  | _ => true
def am_okI (MT : Nat → Option am_M) (M : am_M) (e : am_I) : Bool := match e with
  | (pc, i, npc, a, b, t, u, pos, cv, cl) => decide (decode (am_mb M) pc = .ok (i, am_len i (npc - pc))) && decide (npc = pc + am_len i (npc - pc)) && am_okX MT M pc i a b t u pos cv cl
def am_okT (MT : Nat → Option am_M) (M : am_M) : Bool := (am_mt M).all (fun q => q.2.all (am_okI MT M))
theorem am_lk1_mem : ∀ {l : List am_I} {n : Nat} {e : am_I}, am_lk1 l n = some e → e ∈ l ∧ e.1 = n
  | [], _, _, h => by cases h
  | x :: t, n, e, h => by
    unfold am_lk1 at h
    cases hb : Nat.beq x.1 n with
    | true =>
      rw [hb] at h
      cases h
      exact ⟨List.mem_cons_self, Nat.eq_of_beq_eq_true hb⟩
    | false =>
      rw [hb] at h
      obtain ⟨h1, h2⟩ := am_lk1_mem h
      exact ⟨List.mem_cons_of_mem _ h1, h2⟩
theorem am_lk_mem : ∀ {l : List (Nat × List am_I)} {n : Nat} {e : am_I}, am_lk l n = some e → ∃ q ∈ l, e ∈ q.2 ∧ e.1 = n
  | [], _, _, h => by cases h
  | x :: t, n, e, h => by
    unfold am_lk at h
    cases hb : Nat.blt n x.1 with
    | true =>
      rw [hb] at h
      obtain ⟨h1, h2⟩ := am_lk1_mem h
      exact ⟨x, List.mem_cons_self, h1, h2⟩
    | false =>
      rw [hb] at h
      obtain ⟨q, h1, h2⟩ := am_lk_mem h
      exact ⟨q, List.mem_cons_of_mem _ h1, h2⟩
theorem am_lk_ok {MT : Nat → Option am_M} {M : am_M} (hT : am_okT MT M = true) {pc : Nat} {e : am_I} (h : am_lk (am_mt M) pc = some e) : am_okI MT M e = true ∧ e.1 = pc := by
  obtain ⟨q, h1, h2, h3⟩ := am_lk_mem h
  exact ⟨List.all_eq_true.mp (List.all_eq_true.mp hT q h1) e h2, h3⟩
