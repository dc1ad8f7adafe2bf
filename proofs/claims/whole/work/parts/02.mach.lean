/-! THE ABSTRACT MACHINE: cells by number (a reference is a place in the list of cells), one step of it as what must hold for a goal behind it. -/
abbrev am_E : Type := (Nat × Nat × (Nat → Int32)) ⊕ ((Nat × (Nat → Int64)) ⊕ ((Nat × List (Option Nat)) ⊕ (Nat × List Value)))
abbrev am_G : Type := List am_E
abbrev am_L : Type := List (Option Value)
/-- pc, instruction, next pc, a, b, t, u, place of its word, a number, a long number -/
abbrev am_I : Type := Nat × Instr × Nat × Nat × Nat × Nat × Nat × Nat × Int32 × Int64
/-- name, code, maxLocals, returned, cells and slots made, words and parameters, own class, places of its words, table -/
abbrev am_M : Type := MethodName × ByteArray × Nat × Option FieldType × Nat × Nat × Nat × Nat × List Nat × List (Nat × List am_I)
def am_my (M : am_M) : MethodName := M.1
def am_mb (M : am_M) : ByteArray := M.2.1
def am_mL (M : am_M) : Nat := M.2.2.1
def am_mr (M : am_M) : Option FieldType := M.2.2.2.1
def am_mc (M : am_M) : Nat := M.2.2.2.2.1
def am_ms (M : am_M) : Nat := M.2.2.2.2.2.1
def am_mp (M : am_M) : Nat := M.2.2.2.2.2.2.1
def am_mk (M : am_M) : Nat := M.2.2.2.2.2.2.2.1
def am_mw (M : am_M) : List Nat := M.2.2.2.2.2.2.2.2.1
def am_mt (M : am_M) : List (Nat × List am_I) := M.2.2.2.2.2.2.2.2.2
abbrev am_P : Type := Nat → am_L → List Value → am_G → Nat → Nat → Prop
abbrev am_C : Type := Nat → List Value → am_G → (Option Value → am_G → Prop) → Prop
def am_lk1 : List am_I → Nat → Option am_I
  | [], _ => none
  | e :: t, n => bif Nat.beq e.1 n then some e else am_lk1 t n
def am_lk : List (Nat × List am_I) → Nat → Option am_I
  | [], _ => none
  | c :: t, n => bif Nat.blt n c.1 then am_lk1 c.2 n else am_lk t n
def am_O (ci : Nat) (fs : List Value) : am_E := .inr (.inr (.inr (ci, fs)))
def am_A (t n : Nat) (f : Nat → Int32) : am_E := .inl (t, n, f)
def am_J (n : Nat) (f : Nat → Int64) : am_E := .inr (.inl (n, f))
def am_R (t : Nat) (l : List (Option Nat)) : am_E := .inr (.inr (.inl (t, l)))
/-- what one behind a long loses when another one is stored there -/
def am_clr (L : am_L) (i : Nat) : am_L :=
  match i with
  | 0 => L
  | j + 1 => match L[j]? with
    | some (some (.long _)) => L.set j none
    | _ => L
def am_st1 (L : am_L) (i : Nat) (v : Value) : am_L := (am_clr L i).set i (some v)
def am_st2 (L : am_L) (i : Nat) (v : Value) : am_L := ((am_clr L i).set i (some v)).set (i + 1) none
def am_psh (r : Option Value) (st : List Value) : List Value := match r with
  | none => st
  | some v => v :: st
def am_wfv (n : Nat) (v : Value) : Bool := match v with
  | .ref k => decide (k < n) || decide (1000000 ≤ k)
  | _ => true
def am_wfL (n : Nat) (L : am_L) : Bool := L.all (fun o => match o with
  | none => true
  | some v => am_wfv n v)
def am_wfE (n : Nat) (e : am_E) : Bool := match e with
  | .inr (.inr (.inl (_, l))) => l.all (fun o => match o with
    | none => true
    | some k => decide (k < n) || decide (1000000 ≤ k))
  | .inr (.inr (.inr (_, fs))) => fs.all (am_wfv n)
  | _ => true
def am_wfc (n : Nat) (L : am_L) (st : List Value) : Bool := am_wfL n L && st.all (am_wfv n)
def am_wf (L : am_L) (st : List Value) (G : am_G) : Bool := am_wfc G.length L st && G.all (am_wfE G.length) && decide (G.length < 1000000)
def am_dflt (ty : FieldType) : Value := match ty with
  | .int => .int 0
  | .boolean => .int 0
  | .long => .long 0
  | _ => .null
/-- the fields of a new one, by its class's number -/
def am_dfl (ci : Nat) : List Value := match ci with
  | 0 => [.int 0, .int 0, .int 0, .int 0, .null, .null, .null, .null, .null]
  | 1 => [.null, .int 0, .null]
  | 2 => [.null, .null, .null, .null, .int 0]
  | 3 => [.null, .null, .null, .null, .null, .null, .null, .null]
  | 4 => [.int 0, .int 0, .int 0, .int 0, .int 0, .null]
  | 5 => [.null, .int 0, .null, .null, .int 0, .null, .int 0, .int 0, .int 0, .int 0]
  | 6 => [.null, .int 0]
  | 7 => [.null, .int 0]
  | 8 => [.null, .null, .int 0]
  | 9 => [.null, .int 0, .null, .null, .int 0, .int 0, .int 0, .null]
  | 10 => [.null, .null, .null, .null, .null, .null, .null, .null, .null, .null]
  | _ => (List.range 54).map (fun k => am_dflt (tyX11 k))
def am_newa (t n : Nat) : am_E := match t with
  | 1 => .inr (.inl (n, fun _ => 0))
  | _ => .inl (t, n, fun _ => 0)
def am_rc (t : Nat) : Nat := match t with
  | 3 => 4
  | 4 => 1
  | _ => 0
def am_str (j : Nat) : List Nat := match j with
  | 0 => [116, 121, 120, 118, 104, 97]
  | 1 => [105, 106, 97, 98]
  | 2 => [40]
  | 3 => [41]
  | 4 => [33, 45]
  | 5 => [124]
  | 6 => [38]
  | 7 => [60, 62, 61]
  | 8 => [43, 45]
  | 9 => [42, 47]
  | 10 => [116, 121, 120, 118, 104, 97]
  | _ => [105, 106, 97, 98]
/-- the first place of a sign, from a place on -/
def am_ixo : List Nat → Int32 → Nat → Int32
  | [], _, _ => -1
  | c :: t, x, k => if x = nI c then nI k else am_ixo t x (k + 1)
def am_tg (pc : Nat) (off : Int) : Nat := ((pc : Int) + off).toNat
def am_cond (o : Jvm.ClassFile.Cond) (x : Int32) (A B : Prop) : Prop := match o with
  | .eq => (x = 0 → A) ∧ (¬ x = 0 → B)
  | .ne => (¬ x = 0 → A) ∧ (x = 0 → B)
  | .lt => (x < 0 → A) ∧ (¬ x < 0 → B)
  | .ge => (0 ≤ x → A) ∧ (¬ 0 ≤ x → B)
  | .gt => (0 < x → A) ∧ (¬ 0 < x → B)
  | .le => (x ≤ 0 → A) ∧ (¬ x ≤ 0 → B)
def am_cmp (o : Jvm.ClassFile.Cond) (x y : Int32) (A B : Prop) : Prop := match o with
  | .eq => (x = y → A) ∧ (¬ x = y → B)
  | .ne => (¬ x = y → A) ∧ (x = y → B)
  | .lt => (x < y → A) ∧ (¬ x < y → B)
  | .ge => (y ≤ x → A) ∧ (¬ y ≤ x → B)
  | .gt => (y < x → A) ∧ (¬ y < x → B)
  | .le => (x ≤ y → A) ∧ (¬ x ≤ y → B)

/-- a call: its parameters' number n, the callee mi, what it makes; v: it has a receiver of class u -/
def am_inv (C : am_C) (P : am_P) (npc : Nat) (L : am_L) (st : List Value) (G : am_G) (nc ns mi n : Nat) : Prop :=
  n ≤ st.length ∧ ((st.drop n).map fun v => v.category).sum ≤ 8 ∧ ∃ post : Option Value → am_G → Prop, C mi (st.take n).reverse G post ∧ ∀ (r : Option Value) (G1 : am_G), post r G1 → P npc L (am_psh r (st.drop n)) G1 nc ns
def am_invA (C : am_C) (P : am_P) (mc ms : Nat) (npc : Nat) (L : am_L) (st : List Value) (G : am_G) (nc ns mi n kc ks : Nat) : Prop :=
  n ≤ st.length ∧ ((st.drop n).map fun v => v.category).sum ≤ 8 ∧ am_wfc G.length L (st.drop n) = true ∧ nc + kc ≤ mc ∧ ns + ks ≤ ms ∧ ∃ post : Option Value → am_G → Prop, C mi (st.take n).reverse G post ∧ ∀ (r : Option Value) (G1 : am_G), post r G1 → P npc L (am_psh r (st.drop n)) G1 (nc + kc) (ns + ks)
/-- the receiver under n - 1 parameters is of class u -/
def am_rcv (st : List Value) (G : am_G) (n u : Nat) : Prop := match st[n - 1]? with
  | some (.ref o) => match G[o]? with
    | some (.inr (.inr (.inr (ci, _)))) => ci = u
    | _ => False
  | _ => False
def am_rcR (st : List Value) (n : Nat) : Prop := match st[n - 1]? with
  | some (.ref _) => True
  | _ => False
def am_cpy (P : am_P) (npc : Nat) (L : am_L) (G : am_G) (nc ns : Nat) (n dp : Int32) (o1 : Nat) (sp : Int32) (o0 : Nat) (st : List Value) : Prop :=
  ¬ sp < 0 ∧ ¬ dp < 0 ∧ ¬ n < 0 ∧ (st.map fun v => v.category).sum ≤ 8 ∧ match G[o0]?, G[o1]? with
  | some (.inl (t0, n0, f)), some (.inl (t1, n1, g)) => t0 = 0 ∧ t1 = 0 ∧ sp.toNatClampNeg + n.toNatClampNeg ≤ n0 ∧ dp.toNatClampNeg + n.toNatClampNeg ≤ n1 ∧ P npc L st (G.set o1 (.inl (t1, n1, va_cpy f g sp.toNatClampNeg dp.toNatClampNeg n.toNatClampNeg))) nc ns
  | some (.inr (.inl (n0, f))), some (.inr (.inl (n1, g))) => sp.toNatClampNeg + n.toNatClampNeg ≤ n0 ∧ dp.toNatClampNeg + n.toNatClampNeg ≤ n1 ∧ P npc L st (G.set o1 (.inr (.inl (n1, va_cpy f g sp.toNatClampNeg dp.toNatClampNeg n.toNatClampNeg)))) nc ns
  | _, _ => False
def am_ins (C : am_C) (M : am_M) (scr : Option (Nat × (Nat → Int32))) (Q : Option Value → am_G → Prop) (X : am_P) (P : am_P) (pc : Nat) (i : Instr) (npc a b t u : Nat) (cv : Int32) (cl : Int64) (L : am_L) (st : List Value) (G : am_G) (nc ns : Nat) : Prop :=
  match i with
  | .iconst _ => P npc L (.int cv :: st) G nc ns
  | .bipush _ => P npc L (.int cv :: st) G nc ns
  | .sipush _ => P npc L (.int cv :: st) G nc ns
  | .ldc _ => (match t with
    | 0 => P npc L (.int cv :: st) G nc ns
    | _ => P npc L (.ref b :: st) G nc ns)
  | .ldc_w _ => (match t with
    | 0 => P npc L (.int cv :: st) G nc ns
    | _ => P npc L (.ref b :: st) G nc ns)
  | .lconst _ => P npc L (.long cl :: st) G nc ns
  | .ldc2_w _ => P npc L (.long cl :: st) G nc ns
  | .iload_n _ => (match L[a]? with
    | some (some (.int x)) => P npc L (.int x :: st) G nc ns
    | _ => False)
  | .iload _ => (match L[a]? with
    | some (some (.int x)) => P npc L (.int x :: st) G nc ns
    | _ => False)
  | .lload_n _ => (match L[a]? with
    | some (some (.long x)) => P npc L (.long x :: st) G nc ns
    | _ => False)
  | .lload _ => (match L[a]? with
    | some (some (.long x)) => P npc L (.long x :: st) G nc ns
    | _ => False)
  | .aload_n _ => (match L[a]? with
    | some (some (.ref x)) => P npc L (.ref x :: st) G nc ns
    | _ => False)
  | .aload _ => (match L[a]? with
    | some (some (.ref x)) => P npc L (.ref x :: st) G nc ns
    | _ => False)
  | .istore_n _ => (match st with
    | .int x :: st => P npc (am_st1 L a (.int x)) st G nc ns
    | _ => False)
  | .istore _ => (match st with
    | .int x :: st => P npc (am_st1 L a (.int x)) st G nc ns
    | _ => False)
  | .astore_n _ => (match st with
    | .ref x :: st => P npc (am_st1 L a (.ref x)) st G nc ns
    | _ => False)
  | .astore _ => (match st with
    | .ref x :: st => P npc (am_st1 L a (.ref x)) st G nc ns
    | _ => False)
  | .lstore_n _ => (match st with
    | .long x :: st => P npc (am_st2 L a (.long x)) st G nc ns
    | _ => False)
  | .lstore _ => (match st with
    | .long x :: st => P npc (am_st2 L a (.long x)) st G nc ns
    | _ => False)
  | .iinc _ _ => (match L[a]? with
    | some (some (.int x)) => P npc (am_st1 L a (.int (x + cv))) st G nc ns
    | _ => False)
  | .iadd => (match st with
    | .int y :: .int x :: st => P npc L (.int (x + y) :: st) G nc ns
    | _ => False)
  | .isub => (match st with
    | .int y :: .int x :: st => P npc L (.int (x - y) :: st) G nc ns
    | _ => False)
  | .imul => (match st with
    | .int y :: .int x :: st => P npc L (.int (x * y) :: st) G nc ns
    | _ => False)
  | .iand => (match st with
    | .int y :: .int x :: st => P npc L (.int (x &&& y) :: st) G nc ns
    | _ => False)
  | .ior => (match st with
    | .int y :: .int x :: st => P npc L (.int (x ||| y) :: st) G nc ns
    | _ => False)
  | .ixor => (match st with
    | .int y :: .int x :: st => P npc L (.int (x ^^^ y) :: st) G nc ns
    | _ => False)
  | .ishl => (match st with
    | .int y :: .int x :: st => P npc L (.int (x <<< (y &&& 31)) :: st) G nc ns
    | _ => False)
  | .ishr => (match st with
    | .int y :: .int x :: st => P npc L (.int (x >>> (y &&& 31)) :: st) G nc ns
    | _ => False)
  | .iushr => (match st with
    | .int y :: .int x :: st => P npc L (.int (x.toUInt32 >>> (y.toUInt32 &&& Int32.toUInt32 31)).toInt32 :: st) G nc ns
    | _ => False)
  | .idiv => (match st with
    | .int y :: .int x :: st => ¬ y = 0 ∧ P npc L (.int (x / y) :: st) G nc ns
    | _ => False)
  | .irem => (match st with
    | .int y :: .int x :: st => ¬ y = 0 ∧ P npc L (.int (x - x / y * y) :: st) G nc ns
    | _ => False)
  | .ladd => (match st with
    | .long y :: .long x :: st => P npc L (.long (x + y) :: st) G nc ns
    | _ => False)
  | .lsub => (match st with
    | .long y :: .long x :: st => P npc L (.long (x - y) :: st) G nc ns
    | _ => False)
  | .lmul => (match st with
    | .long y :: .long x :: st => P npc L (.long (x * y) :: st) G nc ns
    | _ => False)
  | .lcmp => (match st with
    | .long y :: .long x :: st => P npc L (.int (lg_cmp x y) :: st) G nc ns
    | _ => False)
  | .ldiv => (match st with
    | .long y :: .long x :: st => ¬ y = 0 ∧ P npc L (.long (x / y) :: st) G nc ns
    | _ => False)
  | .lrem => (match st with
    | .long y :: .long x :: st => ¬ y = 0 ∧ P npc L (.long (x - x / y * y) :: st) G nc ns
    | _ => False)
  | .ineg => (match st with
    | .int x :: st => P npc L (.int (-x) :: st) G nc ns
    | _ => False)
  | .i2l => (match st with
    | .int x :: st => P npc L (.long x.toInt64 :: st) G nc ns
    | _ => False)
  | .i2b => (match st with
    | .int x :: st => P npc L (.int x.toInt8.toInt32 :: st) G nc ns
    | _ => False)
  | .i2s => (match st with
    | .int x :: st => P npc L (.int x.toInt16.toInt32 :: st) G nc ns
    | _ => False)
  | .i2c => (match st with
    | .int x :: st => P npc L (.int (x.toUInt32 % 65536).toInt32 :: st) G nc ns
    | _ => False)
  | .lneg => (match st with
    | .long x :: st => P npc L (.long (-x) :: st) G nc ns
    | _ => False)
  | .dup => (match st with
    | v :: st => (match v.category with
      | 1 => P npc L (v :: v :: st) G nc ns
      | _ => False)
    | _ => False)
  | .dup2 => (match st with
    | v :: w :: st => (match v.category, w.category with
      | 1, 1 => P npc L (v :: w :: v :: w :: st) G nc ns
      | _, _ => False)
    | _ => False)
  | .pop => (match st with
    | v :: st => (match v.category with
      | 1 => P npc L st G nc ns
      | _ => False)
    | _ => False)
  | .ifCond o _ => (match st with
    | .int x :: st => am_cond o x (P a L st G nc ns) (P npc L st G nc ns)
    | _ => False)
  | .if_icmp o _ => (match st with
    | .int y :: .int x :: st => am_cmp o x y (P a L st G nc ns) (P npc L st G nc ns)
    | _ => False)
  | .ifnull _ => (match st with
    | .ref _ :: st => P npc L st G nc ns
    | .null :: st => P a L st G nc ns
    | _ => False)
  | .ifnonnull _ => (match st with
    | .ref _ :: st => P a L st G nc ns
    | .null :: st => P npc L st G nc ns
    | _ => False)
  | .goto _ => P a L st G nc ns
  | .tableswitch d lo hi offs => (match st with
    | .int x :: st => (x.toInt < lo ∨ hi < x.toInt → P (am_tg pc d) L st G nc ns) ∧ ∀ off : Int, ¬ x.toInt < lo → ¬ hi < x.toInt → offs[(x.toInt - lo).toNat]? = some off → P (am_tg pc off) L st G nc ns
    | _ => False)
  | .lookupswitch d ps => (match st with
    | .int x :: st => P (am_tg pc (Op.lookupswitch.offset ps.toList d x.toInt)) L st G nc ns
    | _ => False)
  | .getfield _ => (match st with
    | .ref o :: st => (match G[o]? with
      | some (.inr (.inr (.inr (ci, fs)))) => ci = a ∧ (match fs[b]? with
        | some v => P npc L (v :: st) G nc ns
        | none => False)
      | _ => False)
    | _ => False)
  | .putfield _ => (match st with
    | v :: .ref o :: st => (match G[o]? with
      | some (.inr (.inr (.inr (ci, fs)))) => ci = a ∧ b < fs.length ∧ (match t, v with
        | 0, .int x => P npc L st (G.set o (.inr (.inr (.inr (ci, fs.set b (.int x)))))) nc ns
        | 1, .int x => (x = 0 ∨ x = 1) ∧ P npc L st (G.set o (.inr (.inr (.inr (ci, fs.set b (.int x)))))) nc ns
        | 2, .ref x => P npc L st (G.set o (.inr (.inr (.inr (ci, fs.set b (.ref x)))))) nc ns
        | _, _ => False)
      | _ => False)
    | _ => False)
  | .iaload => (match st with
    | .int i :: .ref o :: st => (match scr with
      | some s => o = 2000000 ∧ vp_in i s.1 ∧ P npc L (.int (s.2 i.toNatClampNeg) :: st) G nc ns
      | none => (match G[o]? with
        | some (.inl (k, n, f)) => k = 0 ∧ vp_in i n ∧ P npc L (.int (f i.toNatClampNeg) :: st) G nc ns
        | _ => False))
    | _ => False)
  | .iastore => (match st with
    | .int x :: .int i :: .ref o :: st => (match G[o]? with
      | some (.inl (k, n, f)) => k = 0 ∧ vp_in i n ∧ P npc L st (G.set o (.inl (k, n, upd f i.toNatClampNeg x))) nc ns
      | _ => False)
    | _ => False)
  | .baload => (match st with
    | .int i :: .ref o :: st => (match G[o]? with
      | some (.inl (k, n, f)) => k = 2 ∧ vp_in i n ∧ P npc L (.int (f i.toNatClampNeg) :: st) G nc ns
      | _ => False)
    | _ => False)
  | .bastore => (match st with
    | .int x :: .int i :: .ref o :: st => (match G[o]? with
      | some (.inl (k, n, f)) => k = 2 ∧ (x = 0 ∨ x = 1) ∧ vp_in i n ∧ P npc L st (G.set o (.inl (k, n, upd f i.toNatClampNeg x))) nc ns
      | _ => False)
    | _ => False)
  | .laload => (match st with
    | .int i :: .ref o :: st => (match G[o]? with
      | some (.inr (.inl (n, f))) => vp_in i n ∧ P npc L (.long (f i.toNatClampNeg) :: st) G nc ns
      | _ => False)
    | _ => False)
  | .lastore => (match st with
    | .long x :: .int i :: .ref o :: st => (match G[o]? with
      | some (.inr (.inl (n, f))) => vp_in i n ∧ P npc L st (G.set o (.inr (.inl (n, vp_updL f i.toNatClampNeg x)))) nc ns
      | _ => False)
    | _ => False)
  | .aaload => (match st with
    | .int i :: .ref o :: st => (match G[o]? with
      | some (.inr (.inr (.inl (k, l)))) => 3 ≤ k ∧ k < 6 ∧ vp_in i l.length ∧ P npc L (va_rf (l.getD i.toNatClampNeg none) :: st) G nc ns
      | _ => False)
    | _ => False)
  | .aastore => (match st with
    | .ref v :: .int i :: .ref o :: st => (match G[o]?, G[v]? with
      | some (.inr (.inr (.inl (k, l)))), some (.inr (.inr (.inr (ci, _)))) => 3 ≤ k ∧ k < 6 ∧ ci = am_rc k ∧ vp_in i l.length ∧ P npc L st (G.set o (.inr (.inr (.inl (k, l.set i.toNatClampNeg (some v)))))) nc ns
      | _, _ => False)
    | _ => False)
  | .arraylength => (match st with
    | .ref o :: st => (match scr with
      | some s => o = 2000000 ∧ P npc L (.int (Int32.ofNat s.1) :: st) G nc ns
      | none => (match G[o]? with
        | some (.inl (k, n, _)) => k < 3 ∧ P npc L (.int (Int32.ofNat n) :: st) G nc ns
        | some (.inr (.inl (n, _))) => P npc L (.int (Int32.ofNat n) :: st) G nc ns
        | some (.inr (.inr (.inl (k, l)))) => 3 ≤ k ∧ k < 6 ∧ P npc L (.int (Int32.ofNat l.length) :: st) G nc ns
        | _ => False))
    | _ => False)
  | .new _ => (match t with
    | 0 => nc + 1 ≤ am_mc M ∧ ns + b ≤ am_ms M ∧ am_wf L st G = true ∧ P npc L (.ref G.length :: st) (G ++ [.inr (.inr (.inr (a, am_dfl a)))]) (nc + 1) (ns + b)
    | _ => X pc L st G nc ns)
  | .newarray _ => (match st with
    | .int n :: st => ¬ n < 0 ∧ n.toNatClampNeg ≤ 60000000 ∧ nc + 1 ≤ am_mc M ∧ ns + n.toNatClampNeg ≤ am_ms M ∧ am_wf L st G = true ∧ P npc L (.ref G.length :: st) (G ++ [am_newa a n.toNatClampNeg]) (nc + 1) (ns + n.toNatClampNeg)
    | _ => False)
  | .anewarray _ => (match st with
    | .int n :: st => ¬ n < 0 ∧ n.toNatClampNeg ≤ 60000000 ∧ nc + 1 ≤ am_mc M ∧ ns + n.toNatClampNeg ≤ am_ms M ∧ am_wf L st G = true ∧ P npc L (.ref G.length :: st) (G ++ [.inr (.inr (.inl (a, List.replicate n.toNatClampNeg none)))]) (nc + 1) (ns + n.toNatClampNeg)
    | _ => False)
  | .ireturn => (match st with
    | [.int x] => (match am_mr M with
      | some .int => Q (some (.int x)) G
      | some .boolean => (x = 0 ∨ x = 1) ∧ Q (some (.int x)) G
      | _ => False)
    | _ => False)
  | .lreturn => (match st with
    | [.long x] => Q (some (.long x)) G
    | _ => False)
  | .return_ => (match st with
    | [] => Q none G
    | _ => False)
  | .invokestatic _ => (match t with
    | 1 => am_inv C P npc L st G nc ns a b
    | 2 => am_inv C P npc L st G nc ns a b
    | 77 => X pc L st G nc ns
    | 6 => (match st with
      | .int y :: .int x :: st => (st.map fun v => v.category).sum ≤ 8 ∧ P npc L (.int (if x < y then y else x) :: st) G nc ns
      | _ => False)
    | 7 => (match st with
      | .int y :: .int x :: st => (st.map fun v => v.category).sum ≤ 8 ∧ P npc L (.int (if y < x then y else x) :: st) G nc ns
      | _ => False)
    | 8 => (match st with
      | .int x :: st => (st.map fun v => v.category).sum ≤ 8 ∧ P npc L (.int (if 0 ≤ x then x else 0 - x) :: st) G nc ns
      | _ => False)
    | 9 => (match st with
      | .long y :: .long x :: st => (st.map fun v => v.category).sum ≤ 8 ∧ P npc L (.long (if y < x then x else y) :: st) G nc ns
      | _ => False)
    | 10 => (match st with
      | .long x :: st => (st.map fun v => v.category).sum ≤ 8 ∧ P npc L (.long (if 0 < x then x else -x) :: st) G nc ns
      | _ => False)
    | 11 => (match st with
      | .int n :: .int dp :: .ref o1 :: .int sp :: .ref o0 :: st => am_cpy P npc L G nc ns n dp o1 sp o0 st
      | _ => False)
    | _ => False)
  | .invokespecial _ => (match t with
    | 3 => am_rcR st b ∧ am_invA C P (am_mc M) (am_ms M) npc L st G nc ns a b (u / 1000000) (u % 1000000)
    | 4 => am_rcR st b ∧ am_invA C P (am_mc M) (am_ms M) npc L st G nc ns a b (u / 1000000) (u % 1000000)
    | 5 => (match st with
      | .ref _ :: st => (st.map fun v => v.category).sum ≤ 8 ∧ P npc L st G nc ns
      | _ => False)
    | _ => False)
  | .invokevirtual _ => (match t with
    | 0 => am_rcv st G b u ∧ am_inv C P npc L st G nc ns a b
    | 13 => (match st with
      | .ref o :: st => 1000000 ≤ o ∧ o < 1000012 ∧ (st.map fun v => v.category).sum ≤ 8 ∧ P npc L (.int (nI (am_str (o - 1000000)).length) :: st) G nc ns
      | _ => False)
    | 14 => (match st with
      | .int i :: .ref o :: st => 1000000 ≤ o ∧ o < 1000012 ∧ vp_in i (am_str (o - 1000000)).length ∧ (st.map fun v => v.category).sum ≤ 8 ∧ P npc L (.int (nI ((am_str (o - 1000000)).getD i.toNatClampNeg 0)) :: st) G nc ns
      | _ => False)
    | 16 => (match st with
      | .int x :: .ref o :: st => 1000000 ≤ o ∧ o < 1000012 ∧ 0 ≤ x ∧ x < 65536 ∧ (st.map fun v => v.category).sum ≤ 8 ∧ P npc L (.int (am_ixo (am_str (o - 1000000)) x 0) :: st) G nc ns
      | _ => False)
    | 77 => X pc L st G nc ns
    | _ => False)
  | _ => False
def am_step (C : am_C) (M : am_M) (scr : Option (Nat × (Nat → Int32))) (Q : Option Value → am_G → Prop) (X : am_P) (P : am_P) : am_P := fun pc L st G nc ns =>
  match am_lk (am_mt M) pc with
  | none => False
  | some (_, i, npc, a, b, t, u, _, cv, cl) => am_ins C M scr Q X P pc i npc a b t u cv cl L st G nc ns
/-- it comes to its end: the least of all that hold where a step makes them hold -/
def am_Ex (C : am_C) (M : am_M) (scr : Option (Nat × (Nat → Int32))) (Q : Option Value → am_G → Prop) (X : am_P) : am_P := fun pc L st G nc ns =>
  ∀ P : am_P, (∀ P0 : am_P, (∀ pc L st G nc ns, P0 pc L st G nc ns → P pc L st G nc ns) → ∀ pc L st G nc ns, am_step C M scr Q X P0 pc L st G nc ns → P pc L st G nc ns) → P pc L st G nc ns
theorem am_Ex_in {C : am_C} {M : am_M} {scr : Option (Nat × (Nat → Int32))} {Q : Option Value → am_G → Prop} {X : am_P} {pc : Nat} {L : am_L} {st : List Value} {G : am_G} {nc ns : Nat} (h : am_step C M scr Q X (am_Ex C M scr Q X) pc L st G nc ns) : am_Ex C M scr Q X pc L st G nc ns := fun P hP => hP (am_Ex C M scr Q X) (fun _ _ _ _ _ _ h => h P hP) _ _ _ _ _ _ h
