/-! Small objects: a person, what is told, a formula. -/
theorem ct_X4_hearsAfter {d : Nat} {S : am_S} {o : Nat} (hk : am_kn (gR S 0) o = (4, 0)) : am_CT (d + 1) iX4_hearsAfter [.ref o] S (some (.int (if gI S o 0 < 1 then 1 else gI S o 0))) (S) := by
  refine am_CT_in mmX4_hearsAfter rfl rfl rfl ?_
  refine r_aload_n rfl rfl ?_
  refine r_getI rfl hk (by decide) (by decide) rfl ?_
  refine r_iconst rfl ?_
  refine r_icmp_ge rfl (fun h5 => ?_) (fun h5 => ?_)
  · refine r_aload_n rfl rfl ?_
    refine r_getI rfl hk (by decide) (by decide) rfl ?_
    refine r_iret rfl rfl ?_
    exact ⟨by grind, rfl⟩
  · refine r_iconst rfl ?_
    refine r_goto rfl ?_
    refine r_iret rfl rfl ?_
    exact ⟨by grind, rfl⟩
theorem ct_X7_clear {d : Nat} {S : am_S} : am_CT (d + 1) iX7_clear [.ref 74] S (none) (uI S 74 1 0) := by
  refine am_CT_in mmX7_clear rfl rfl rfl ?_
  refine r_aload_n rfl rfl ?_
  refine r_iconst rfl ?_
  refine r_putI rfl rfl (by decide) (by decide) rfl ?_
  refine r_vret rfl ?_
  exact ⟨rfl, rfl⟩
/-- what is told comes behind -/
def tAdd (S : am_S) (v : Int64) (n : Nat) : am_S := uI (uJ S 75 n v) 74 1 (nI (n + 1))
theorem ct_X7_add {d : Nat} {S : am_S} {v : Int64} {n : Nat} (hn : gI S 74 1 = nI n) (hb : n < 6) : am_CT (d + 1) iX7_add [.ref 74, .long v] S (none) (tAdd S v n) := by
  refine am_CT_in mmX7_add rfl rfl rfl ?_
  have s1 : 0 ≤ gI S 74 1 := by rw [hn]; exact nI_pos' (by omega)
  have s2 : gI S 74 1 < 6 := by rw [hn]; exact nI_lt (b := 6) (by omega) (by omega)
  have e2 : (gI S 74 1).toNatClampNeg = n := by rw [hn, nI_clamp (by omega)]
  refine r_aload_n rfl rfl ?_
  refine r_getI rfl rfl (by decide) (by decide) rfl ?_
  refine r_aload_n rfl rfl ?_
  refine r_getC rfl rfl (by decide) (by decide) rfl ?_
  refine r_alen rfl rfl (by decide) ?_
  refine r_icmp_ge rfl (fun h9 => ?_) (fun h9 => ?_)
  · exact absurd s2 (Int32.not_lt.mpr h9)
  · refine r_aload_n rfl rfl ?_
    refine r_getC rfl rfl (by decide) (by decide) rfl ?_
    refine r_aload_n rfl rfl ?_
    refine r_getI rfl rfl (by decide) (by decide) rfl ?_
    refine r_lload_n rfl rfl ?_
    refine r_last rfl rfl (by first | decide | assumption) (by first | exact s1 | exact s2) (by first | exact s1 | exact s2) ?_
    refine r_aload_n rfl rfl ?_
    refine r_dup rfl rfl ?_
    refine r_getI rfl rfl (by decide) (by decide) rfl ?_
    refine r_iconst rfl ?_
    refine r_iadd rfl ?_
    refine r_putI rfl rfl (by decide) (by decide) rfl ?_
    refine r_vret rfl ?_
    rw [e2]
    refine ⟨rfl, ?_⟩
    rw [tAdd, ← nI_1, ← hn]
    rfl
def t1 (S : am_S) (a : Int64) : am_S := tAdd (uI S 74 1 0) a 0
def t2 (S : am_S) (a b : Int64) : am_S := tAdd (t1 S a) b 1
def t3 (S : am_S) (a b c : Int64) : am_S := tAdd (t2 S a b) c 2
theorem tAdd_n {S : am_S} {v : Int64} {n : Nat} : gI (tAdd S v n) 74 1 = nI (n + 1) := by rw [tAdd, gI_uI, if_pos rfl, if_pos rfl]
theorem ct_X7_tellOne {d : Nat} {S : am_S} {a : Int64} : am_CT (d + 2) iX7_tellOne [.ref 74, .long a] S (none) (t1 S a) := by
  refine am_CT_in mmX7_tellOne rfl rfl rfl ?_
  refine r_aload_n rfl rfl ?_
  refine r_callV rfl (ct_X7_clear) rfl rfl rfl (by decide) rfl (am_cnt rfl) ?_
  refine r_aload_n rfl rfl ?_
  refine r_lload_n rfl rfl ?_
  refine r_callV rfl (ct_X7_add (n := 0) (by rw [gI_uI, if_pos rfl, if_pos rfl]; rfl) (by decide)) rfl rfl rfl (by decide) rfl (am_cnt rfl) ?_
  refine r_vret rfl ?_
  exact ⟨rfl, rfl⟩
theorem ct_X7_tellTwo {d : Nat} {S : am_S} {a b : Int64} : am_CT (d + 3) iX7_tellTwo [.ref 74, .long a, .long b] S (none) (t2 S a b) := by
  refine am_CT_in mmX7_tellTwo rfl rfl rfl ?_
  refine r_aload_n rfl rfl ?_
  refine r_lload_n rfl rfl ?_
  refine r_callV rfl (ct_X7_tellOne) rfl rfl rfl (by decide) rfl (am_cnt rfl) ?_
  refine r_aload_n rfl rfl ?_
  refine r_lload_n rfl rfl ?_
  refine r_callV rfl (ct_X7_add (n := 1) tAdd_n (by decide)) rfl rfl rfl (by decide) rfl (am_cnt rfl) ?_
  refine r_vret rfl ?_
  exact ⟨rfl, rfl⟩
theorem ct_X7_tellThree {d : Nat} {S : am_S} {a b c : Int64} : am_CT (d + 4) iX7_tellThree [.ref 74, .long a, .long b, .long c] S (none) (t3 S a b c) := by
  refine am_CT_in mmX7_tellThree rfl rfl rfl ?_
  refine r_aload_n rfl rfl ?_
  refine r_lload_n rfl rfl ?_
  refine r_lload_n rfl rfl ?_
  refine r_callV rfl (ct_X7_tellTwo) rfl rfl rfl (by decide) rfl (am_cnt rfl) ?_
  refine r_aload_n rfl rfl ?_
  refine r_lload rfl rfl ?_
  refine r_callV rfl (ct_X7_add (n := 2) tAdd_n (by decide)) rfl rfl rfl (by decide) rfl (am_cnt rfl) ?_
  refine r_vret rfl ?_
  exact ⟨rfl, rfl⟩
/-! a formula: cell o -/
def IsF (S : am_S) (o : Nat) : Prop := am_kn (gR S 0) o = (1, 0) ∧ am_kn (gR S 0) (o + 1) = (20, 40) ∧ am_kn (gR S 0) (o + 2) = (20, 40)
def fAddF (S : am_S) (o : Nat) (v : Int32) (n : Nat) : am_S := if n < 40 then uI (uI S (o + 1) n v) o 1 (nI (n + 1)) else S
theorem ct_X1_add {d : Nat} {S : am_S} {o n : Nat} {v : Int32} (hF : IsF S o) (hn : gI S o 1 = nI n) (hb : n ≤ 40) : am_CT (d + 1) iX1_add [.ref o, .int v] S (none) (fAddF S o v n) := by
  refine am_CT_in mmX1_add rfl rfl rfl ?_
  obtain ⟨hk, hk1, hk2⟩ := hF
  have s1 : 0 ≤ gI S o 1 := by rw [hn]; exact nI_pos' (by omega)
  have e2 : (gI S o 1).toNatClampNeg = n := by rw [hn, nI_clamp (by omega)]
  have e3 : (40 : Int32) ≤ gI S o 1 ↔ 40 ≤ n := by rw [hn]; exact nI_leI (a := 40) (by omega) (by omega)
  refine r_aload_n rfl rfl ?_
  refine r_getI rfl hk (by decide) (by decide) rfl ?_
  refine r_aload_n rfl rfl ?_
  refine r_getO rfl hk (by decide) (by decide) rfl ?_
  refine r_alen rfl hk1 (by decide) ?_
  refine r_icmp_ge rfl (fun h9 => ?_) (fun h9 => ?_)
  · have h40 := e3.mp h9
    rw [fAddF, if_neg (by omega)]
    refine r_vret rfl ?_
    exact ⟨rfl, rfl⟩
  · have h40 : n < 40 := Nat.lt_of_not_le fun z => h9 (e3.mpr z)
    rw [fAddF, if_pos h40]
    refine r_aload_n rfl rfl ?_
    refine r_getO rfl hk (by decide) (by decide) rfl ?_
    refine r_aload_n rfl rfl ?_
    refine r_getI rfl hk (by decide) (by decide) rfl ?_
    refine r_iload_n rfl rfl ?_
    refine r_iast rfl hk1 (by first | decide | assumption) (by first | exact s1 | exact Int32.not_le.mp h9) (by first | exact s1 | exact Int32.not_le.mp h9) ?_
    refine r_aload_n rfl rfl ?_
    refine r_dup rfl rfl ?_
    refine r_getI rfl hk (by decide) (by decide) rfl ?_
    refine r_iconst rfl ?_
    refine r_iadd rfl ?_
    refine r_putI rfl hk (by decide) (by decide) rfl ?_
    refine r_vret rfl ?_
    rw [e2]
    refine ⟨rfl, ?_⟩
    have e5 : gI (uI S (o + 1) n v) o 1 = nI n := by rw [gI_uI, if_neg (by omega), hn]
    rw [← nI_1, ← e5]
def cpyF (S : am_S) (o f : Nat) : am_S := rI (uI S o 1 (gI S f 1)) (o + 1) (va_cpy (gI S (f + 1)) (gI S (o + 1)) 0 0 40)
theorem cl_40 : (Int32.ofNat 40).toNatClampNeg = 40 := by decide
theorem ct_X1_copy {d : Nat} {S : am_S} {o f : Nat} (hF : IsF S o) (hG : IsF S f) (hne : o + 2 < f ∨ f + 2 < o) : am_CT (d + 1) iX1_copy [.ref o, .ref f] S (none) (cpyF S o f) := by
  refine am_CT_in mmX1_copy rfl rfl rfl ?_
  obtain ⟨hk, hk1, hk2⟩ := hF
  obtain ⟨hf, hf1, hf2⟩ := hG
  refine r_aload_n rfl rfl ?_
  refine r_aload_n rfl rfl ?_
  refine r_getI rfl hf (by decide) (by decide) rfl ?_
  refine r_putI rfl hk (by decide) (by decide) rfl ?_
  refine r_aload_n rfl rfl ?_
  refine r_getO rfl hf (by decide) (by decide) rfl ?_
  refine r_iconst rfl ?_
  refine r_aload_n rfl rfl ?_
  refine r_getO rfl hk (by decide) (by decide) rfl ?_
  refine r_iconst rfl ?_
  refine r_aload_n rfl rfl ?_
  refine r_getO rfl hk (by decide) (by decide) rfl ?_
  refine r_alen rfl hk1 (by decide) ?_
  refine r_copyI rfl (am_cnt rfl) hf1 hk1 (by decide) (by decide) (by decide) (by decide) (by decide) ?_
  refine r_vret rfl ?_
  refine ⟨rfl, ?_⟩
  simp (disch := omega) only [cpyF, gI_uI_ne, gI_rI_ne, cl_40, sb_cl0]
def fThing (sg : Nat → Int32) (w : Nat) (c : Int32) : Int32 := if c - 1000 < 0 then c else if c - 1000 < Int32.ofNat w then sg (c - 1000).toNatClampNeg else 0
theorem ct_X1_thing {d : Nat} {S : am_S} {o q w : Nat} {c : Int32} (hq : am_kn (gR S 0) q = (20, w)) (hw : w < 2147483648) : am_CT (d + 1) iX1_thing [.ref o, .int c, .ref q] S (some (.int (fThing (gI S q) w c))) (S) := by
  refine am_CT_in mmX1_thing rfl rfl rfl ?_
  refine r_iload_n rfl rfl ?_
  refine r_sipush rfl ?_
  refine r_isub rfl ?_
  refine r_istore_n (L2 := [_, _, _, _]) rfl rfl ?_
  refine r_iload_n rfl rfl ?_
  refine r_if_ge rfl (fun h7 => ?_) (fun h7 => ?_)
  · refine r_iload_n rfl rfl ?_
    refine r_aload_n rfl rfl ?_
    refine r_alen rfl hq (by decide) ?_
    refine r_icmp_ge rfl (fun h17 => ?_) (fun h17 => ?_)
    · refine r_iconst rfl ?_
      refine r_iret rfl rfl ?_
      exact ⟨by simp only [fThing]; grind, rfl⟩
    · refine r_aload_n rfl rfl ?_
      refine r_iload_n rfl rfl ?_
      refine r_iald rfl hq (by first | decide | assumption) (by first | exact hw | grind) (by first | exact hw | grind) ?_
      refine r_goto rfl ?_
      refine r_iret rfl rfl ?_
      exact ⟨by simp only [fThing]; grind, rfl⟩
  · refine r_iload_n rfl rfl ?_
    refine r_goto rfl ?_
    refine r_iret rfl rfl ?_
    exact ⟨by simp only [fThing]; grind, rfl⟩
def fJoin (op a b : Int32) : Int32 := if op = 124 then b01 (¬ a = 0 ∨ ¬ b = 0) else if op = 38 then b01 (¬ a = 0 ∧ ¬ b = 0) else if op = 60 then b01 (a < b) else if op = 62 then b01 (b < a) else if op = 61 then b01 (a = b) else if op = 43 then a + b else if op = 45 then a - b else if op = 42 then a * b else if b = 0 then 0 else a / b
theorem lks_miss {x k : Int32} {a o d : Int} {r : List (Int × Int)} (h : ¬ x = k) (hk : k.toInt = a) : Op.lookupswitch.offset ((a, o) :: r) d x.toInt = Op.lookupswitch.offset r d x.toInt := lv_osw h hk
theorem lks_hit {x k : Int32} {a o d : Int} {r : List (Int × Int)} (h : x = k) (hk : k.toInt = a) : Op.lookupswitch.offset ((a, o) :: r) d x.toInt = o := by
  subst h
  simp [Op.lookupswitch.offset, hk]
theorem ct_X1_join {d : Nat} {S : am_S} {op a b : Int32} : am_CT (d + 1) iX1_join [.int op, .int a, .int b] S (some (.int (fJoin op a b))) (S) := by
  refine am_CT_in mmX1_join rfl rfl rfl ?_
  refine r_iload_n rfl rfl ?_
  by_cases q0 : op = 38
  · refine r_lookupT rfl (tgt := 90) (by rw [q0]; decide) ?_
    refine r_iload_n rfl rfl ?_
    refine r_if_eq rfl (fun h91 => ?_) (fun h91 => ?_)
    · refine r_iconst rfl ?_
      refine r_iret rfl rfl ?_
      exact ⟨by simp only [fJoin, b01]; grind, rfl⟩
    · refine r_iload_n rfl rfl ?_
      refine r_if_eq rfl (fun h95 => ?_) (fun h95 => ?_)
      · refine r_iconst rfl ?_
        refine r_iret rfl rfl ?_
        exact ⟨by simp only [fJoin, b01]; grind, rfl⟩
      · refine r_iconst rfl ?_
        refine r_goto rfl ?_
        refine r_iret rfl rfl ?_
        exact ⟨by simp only [fJoin, b01]; grind, rfl⟩
  by_cases q1 : op = 42
  · refine r_lookupT rfl (tgt := 145) (by rw [q1]; decide) ?_
    refine r_iload_n rfl rfl ?_
    refine r_iload_n rfl rfl ?_
    refine r_imul rfl ?_
    refine r_iret rfl rfl ?_
    exact ⟨by simp only [fJoin, b01]; grind, rfl⟩
  by_cases q2 : op = 43
  · refine r_lookupT rfl (tgt := 137) (by rw [q2]; decide) ?_
    refine r_iload_n rfl rfl ?_
    refine r_iload_n rfl rfl ?_
    refine r_iadd rfl ?_
    refine r_iret rfl rfl ?_
    exact ⟨by simp only [fJoin, b01]; grind, rfl⟩
  by_cases q3 : op = 45
  · refine r_lookupT rfl (tgt := 141) (by rw [q3]; decide) ?_
    refine r_iload_n rfl rfl ?_
    refine r_iload_n rfl rfl ?_
    refine r_isub rfl ?_
    refine r_iret rfl rfl ?_
    exact ⟨by simp only [fJoin, b01]; grind, rfl⟩
  by_cases q4 : op = 60
  · refine r_lookupT rfl (tgt := 104) (by rw [q4]; decide) ?_
    refine r_iload_n rfl rfl ?_
    refine r_iload_n rfl rfl ?_
    refine r_icmp_ge rfl (fun h106 => ?_) (fun h106 => ?_)
    · refine r_iconst rfl ?_
      refine r_iret rfl rfl ?_
      exact ⟨by simp only [fJoin, b01]; grind, rfl⟩
    · refine r_iconst rfl ?_
      refine r_goto rfl ?_
      refine r_iret rfl rfl ?_
      exact ⟨by simp only [fJoin, b01]; grind, rfl⟩
  by_cases q5 : op = 61
  · refine r_lookupT rfl (tgt := 126) (by rw [q5]; decide) ?_
    refine r_iload_n rfl rfl ?_
    refine r_iload_n rfl rfl ?_
    refine r_icmp_ne rfl (fun h128 => ?_) (fun h128 => ?_)
    · refine r_iconst rfl ?_
      refine r_iret rfl rfl ?_
      exact ⟨by simp only [fJoin, b01]; grind, rfl⟩
    · refine r_iconst rfl ?_
      refine r_goto rfl ?_
      refine r_iret rfl rfl ?_
      exact ⟨by simp only [fJoin, b01]; grind, rfl⟩
  by_cases q6 : op = 62
  · refine r_lookupT rfl (tgt := 115) (by rw [q6]; decide) ?_
    refine r_iload_n rfl rfl ?_
    refine r_iload_n rfl rfl ?_
    refine r_icmp_le rfl (fun h117 => ?_) (fun h117 => ?_)
    · refine r_iconst rfl ?_
      refine r_iret rfl rfl ?_
      exact ⟨by simp only [fJoin, b01]; grind, rfl⟩
    · refine r_iconst rfl ?_
      refine r_goto rfl ?_
      refine r_iret rfl rfl ?_
      exact ⟨by simp only [fJoin, b01]; grind, rfl⟩
  by_cases q7 : op = 124
  · refine r_lookupT rfl (tgt := 76) (by rw [q7]; decide) ?_
    refine r_iload_n rfl rfl ?_
    refine r_if_ne rfl (fun h77 => ?_) (fun h77 => ?_)
    · refine r_iconst rfl ?_
      refine r_goto rfl ?_
      refine r_iret rfl rfl ?_
      exact ⟨by simp only [fJoin, b01]; grind, rfl⟩
    · refine r_iload_n rfl rfl ?_
      refine r_if_eq rfl (fun h81 => ?_) (fun h81 => ?_)
      · refine r_iconst rfl ?_
        refine r_iret rfl rfl ?_
        exact ⟨by simp only [fJoin, b01]; grind, rfl⟩
      · refine r_iconst rfl ?_
        refine r_goto rfl ?_
        refine r_iret rfl rfl ?_
        exact ⟨by simp only [fJoin, b01]; grind, rfl⟩
  refine r_lookupT rfl (tgt := 149) (by
    show am_tg 1 (Op.lookupswitch.offset [(38, 89), (42, 144), (43, 136), (45, 140), (60, 103), (61, 125), (62, 114), (124, 75)] 148 op.toInt) = 149
    rw [lks_miss (k := 38) (a := 38) q0 (by decide), lks_miss (k := 42) (a := 42) q1 (by decide), lks_miss (k := 43) (a := 43) q2 (by decide), lks_miss (k := 45) (a := 45) q3 (by decide), lks_miss (k := 60) (a := 60) q4 (by decide), lks_miss (k := 61) (a := 61) q5 (by decide), lks_miss (k := 62) (a := 62) q6 (by decide), lks_miss (k := 124) (a := 124) q7 (by decide)]
    rfl) ?_
  refine r_iload_n rfl rfl ?_
  refine r_if_ne rfl (fun h150 => ?_) (fun h150 => ?_)
  · refine r_iload_n rfl rfl ?_
    refine r_iload_n rfl rfl ?_
    refine r_idiv rfl (by assumption) ?_
    refine r_iret rfl rfl ?_
    exact ⟨by simp only [fJoin, b01]; grind, rfl⟩
  · refine r_iconst rfl ?_
    refine r_goto rfl ?_
    refine r_iret rfl rfl ?_
    exact ⟨by simp only [fJoin, b01]; grind, rfl⟩
/-- what is done with what lies uppermost: the stack, how many lie there -/
def fReck (g : Nat → Int32) (t : Nat) (c : Int32) : (Nat → Int32) × Nat :=
  if t < 1 ∨ 40 < t then (g, 0) else if c = 2110 then (upd g (t - 1) (-g (t - 1)), t) else if c = 2033 then (upd g (t - 1) (b01 (g (t - 1) = 0)), t) else if t < 2 then (g, 0) else (upd g (t - 2) (fJoin (c - 2000) (g (t - 2)) (g (t - 1))), t - 1)
theorem ct_X1_reckon {d : Nat} {S : am_S} {o t : Nat} {c : Int32} (hF : IsF S o) (ht : t ≤ 40) : am_CT (d + 2) iX1_reckon [.ref o, .int c, .int (nI t)] S (some (.int (nI (fReck (gI S (o + 2)) t c).2))) (rI S (o + 2) (fReck (gI S (o + 2)) t c).1) := by
  refine am_CT_in mmX1_reckon rfl rfl rfl ?_
  obtain ⟨hk, hk1, hk2⟩ := hF
  by_cases h0 : t = 0
  · subst h0
    have e : fReck (gI S (o + 2)) 0 c = (gI S (o + 2), 0) := by simp [fReck]
    rw [e, rI_id]
    refine r_iload_n rfl rfl ?_
    refine r_iconst rfl ?_
    refine r_icmp_lt rfl (fun h2 => ?_) (fun h2 => ?_)
    · refine r_iconst rfl ?_
      refine r_iret rfl rfl ?_
      exact ⟨rfl, rfl⟩
    · exact absurd (by decide) h2
  have n1 : nI t - 1 = nI (t - 1) := by
    conv => lhs; rw [show t = (t - 1) + 1 by omega, nI_succ]
    grind
  have s1 : 0 ≤ nI t - 1 := by rw [n1]; exact nI_pos' (by omega)
  have s2 : nI t - 1 < Int32.ofNat 40 := by rw [n1]; exact nI_lt (by omega) (by omega)
  have e1 : (nI t - 1).toNatClampNeg = t - 1 := by rw [n1, nI_clamp (by omega)]
  have f1 : ¬ nI t < 1 := nI_nlt (b := 1) (by omega) (by omega)
  have f2 : nI t ≤ Int32.ofNat 40 := nI_le ht (by omega)
  by_cases q1 : c = 2110
  · have e : fReck (gI S (o + 2)) t c = (upd (gI S (o + 2)) (t - 1) (-gI S (o + 2) (t - 1)), t) := by
      rw [fReck, if_neg (by omega), if_pos q1]
    rw [e]
    refine r_iload_n rfl rfl ?_
    refine r_iconst rfl ?_
    refine r_icmp_lt rfl (fun h2 => ?_) (fun h2 => ?_)
    · exact absurd h2 f1
    · refine r_iload_n rfl rfl ?_
      refine r_aload_n rfl rfl ?_
      refine r_getO rfl hk (by decide) (by decide) rfl ?_
      refine r_alen rfl hk2 (by decide) ?_
      refine r_icmp_le rfl (fun h11 => ?_) (fun h11 => ?_)
      · refine r_aload_n rfl rfl ?_
        refine r_getO rfl hk (by decide) (by decide) rfl ?_
        refine r_iload_n rfl rfl ?_
        refine r_iconst rfl ?_
        refine r_isub rfl ?_
        refine r_iald rfl hk2 (by first | decide | assumption) (by first | exact s1 | exact s2) (by first | exact s1 | exact s2) ?_
        refine r_istore_n (L2 := [_, _, _, _]) rfl rfl ?_
        refine r_iload_n rfl rfl ?_
        refine r_sipush rfl ?_
        refine r_icmp_ne rfl (fun h29 => ?_) (fun h29 => ?_)
        · exact absurd q1 h29
        · refine r_aload_n rfl rfl ?_
          refine r_getO rfl hk (by decide) (by decide) rfl ?_
          refine r_iload_n rfl rfl ?_
          refine r_iconst rfl ?_
          refine r_isub rfl ?_
          refine r_iload_n rfl rfl ?_
          refine r_ineg rfl ?_
          refine r_iast rfl hk2 (by first | decide | assumption) (by first | exact s1 | exact s2) (by first | exact s1 | exact s2) ?_
          refine r_iload_n rfl rfl ?_
          refine r_iret rfl rfl ?_
          rw [e1, uI_rI]
          exact ⟨rfl, rfl⟩
      · exact absurd f2 h11
  by_cases q2 : c = 2033
  · have e : fReck (gI S (o + 2)) t c = (upd (gI S (o + 2)) (t - 1) (b01 (gI S (o + 2) (t - 1) = 0)), t) := by
      rw [fReck, if_neg (by omega), if_neg q1, if_pos q2]
    rw [e]
    refine r_iload_n rfl rfl ?_
    refine r_iconst rfl ?_
    refine r_icmp_lt rfl (fun h2 => ?_) (fun h2 => ?_)
    · exact absurd h2 f1
    · refine r_iload_n rfl rfl ?_
      refine r_aload_n rfl rfl ?_
      refine r_getO rfl hk (by decide) (by decide) rfl ?_
      refine r_alen rfl hk2 (by decide) ?_
      refine r_icmp_le rfl (fun h11 => ?_) (fun h11 => ?_)
      · refine r_aload_n rfl rfl ?_
        refine r_getO rfl hk (by decide) (by decide) rfl ?_
        refine r_iload_n rfl rfl ?_
        refine r_iconst rfl ?_
        refine r_isub rfl ?_
        refine r_iald rfl hk2 (by first | decide | assumption) (by first | exact s1 | exact s2) (by first | exact s1 | exact s2) ?_
        refine r_istore_n (L2 := [_, _, _, _]) rfl rfl ?_
        refine r_iload_n rfl rfl ?_
        refine r_sipush rfl ?_
        refine r_icmp_ne rfl (fun h29 => ?_) (fun h29 => ?_)
        · refine r_iload_n rfl rfl ?_
          refine r_sipush rfl ?_
          refine r_icmp_ne rfl (fun h48 => ?_) (fun h48 => ?_)
          · exact absurd q2 h48
          · refine r_aload_n rfl rfl ?_
            refine r_getO rfl hk (by decide) (by decide) rfl ?_
            refine r_iload_n rfl rfl ?_
            refine r_iconst rfl ?_
            refine r_isub rfl ?_
            refine r_iload_n rfl rfl ?_
            refine r_if_ne rfl (fun h59 => ?_) (fun h59 => ?_)
            · refine r_iconst rfl ?_
              refine r_iast rfl hk2 (by first | decide | assumption) (by first | exact s1 | exact s2) (by first | exact s1 | exact s2) ?_
              refine r_iload_n rfl rfl ?_
              refine r_iret rfl rfl ?_
              rw [e1] at *
              rw [uI_rI]
              refine ⟨rfl, ?_⟩
              simp only [b01]
              first | rw [if_pos h59] | rw [if_neg h59]
            · refine r_iconst rfl ?_
              refine r_goto rfl ?_
              refine r_iast rfl hk2 (by first | decide | assumption) (by first | exact s1 | exact s2) (by first | exact s1 | exact s2) ?_
              refine r_iload_n rfl rfl ?_
              refine r_iret rfl rfl ?_
              rw [e1] at *
              rw [uI_rI]
              refine ⟨rfl, ?_⟩
              simp only [b01]
              first | rw [if_pos h59] | rw [if_neg h59]
        · exact absurd h29 q1
      · exact absurd f2 h11
  by_cases h1 : t = 1
  · subst h1
    have e : fReck (gI S (o + 2)) 1 c = (gI S (o + 2), 0) := by
      rw [fReck, if_neg (by omega), if_neg q1, if_neg q2, if_pos (by omega)]
    rw [e, rI_id]
    refine r_iload_n rfl rfl ?_
    refine r_iconst rfl ?_
    refine r_icmp_lt rfl (fun h2 => ?_) (fun h2 => ?_)
    · exact absurd h2 f1
    · refine r_iload_n rfl rfl ?_
      refine r_aload_n rfl rfl ?_
      refine r_getO rfl hk (by decide) (by decide) rfl ?_
      refine r_alen rfl hk2 (by decide) ?_
      refine r_icmp_le rfl (fun h11 => ?_) (fun h11 => ?_)
      · refine r_aload_n rfl rfl ?_
        refine r_getO rfl hk (by decide) (by decide) rfl ?_
        refine r_iload_n rfl rfl ?_
        refine r_iconst rfl ?_
        refine r_isub rfl ?_
        refine r_iald rfl hk2 (by first | decide | assumption) (by first | exact s1 | exact s2) (by first | exact s1 | exact s2) ?_
        refine r_istore_n (L2 := [_, _, _, _]) rfl rfl ?_
        refine r_iload_n rfl rfl ?_
        refine r_sipush rfl ?_
        refine r_icmp_ne rfl (fun h29 => ?_) (fun h29 => ?_)
        · refine r_iload_n rfl rfl ?_
          refine r_sipush rfl ?_
          refine r_icmp_ne rfl (fun h48 => ?_) (fun h48 => ?_)
          · refine r_iload_n rfl rfl ?_
            refine r_iconst rfl ?_
            refine r_icmp_ge rfl (fun h72 => ?_) (fun h72 => ?_)
            · exact absurd h72 (by decide)
            · refine r_iconst rfl ?_
              refine r_iret rfl rfl ?_
              exact ⟨rfl, rfl⟩
          · exact absurd h48 q2
        · exact absurd h29 q1
      · exact absurd f2 h11
  have n2 : nI t - 2 = nI (t - 2) := by
    conv => lhs; rw [show t = (t - 2) + 1 + 1 by omega, nI_succ, nI_succ]
    grind
  have s3 : 0 ≤ nI t - 2 := by rw [n2]; exact nI_pos' (by omega)
  have s4 : nI t - 2 < Int32.ofNat 40 := by rw [n2]; exact nI_lt (by omega) (by omega)
  have e2 : (nI t - 2).toNatClampNeg = t - 2 := by rw [n2, nI_clamp (by omega)]
  have f3 : 2 ≤ nI t := nI_le (a := 2) (by omega) (by omega)
  have e : fReck (gI S (o + 2)) t c = (upd (gI S (o + 2)) (t - 2) (fJoin (c - 2000) (gI S (o + 2) (t - 2)) (gI S (o + 2) (t - 1))), t - 1) := by
    rw [fReck, if_neg (by omega), if_neg q1, if_neg q2, if_neg (by omega)]
  rw [e]
  refine r_iload_n rfl rfl ?_
  refine r_iconst rfl ?_
  refine r_icmp_lt rfl (fun h2 => ?_) (fun h2 => ?_)
  · exact absurd h2 f1
  · refine r_iload_n rfl rfl ?_
    refine r_aload_n rfl rfl ?_
    refine r_getO rfl hk (by decide) (by decide) rfl ?_
    refine r_alen rfl hk2 (by decide) ?_
    refine r_icmp_le rfl (fun h11 => ?_) (fun h11 => ?_)
    · refine r_aload_n rfl rfl ?_
      refine r_getO rfl hk (by decide) (by decide) rfl ?_
      refine r_iload_n rfl rfl ?_
      refine r_iconst rfl ?_
      refine r_isub rfl ?_
      refine r_iald rfl hk2 (by first | decide | assumption) (by first | exact s1 | exact s2 | exact s3 | exact s4) (by first | exact s1 | exact s2 | exact s3 | exact s4) ?_
      refine r_istore_n (L2 := [_, _, _, _]) rfl rfl ?_
      refine r_iload_n rfl rfl ?_
      refine r_sipush rfl ?_
      refine r_icmp_ne rfl (fun h29 => ?_) (fun h29 => ?_)
      · refine r_iload_n rfl rfl ?_
        refine r_sipush rfl ?_
        refine r_icmp_ne rfl (fun h48 => ?_) (fun h48 => ?_)
        · refine r_iload_n rfl rfl ?_
          refine r_iconst rfl ?_
          refine r_icmp_ge rfl (fun h72 => ?_) (fun h72 => ?_)
          · refine r_aload_n rfl rfl ?_
            refine r_getO rfl hk (by decide) (by decide) rfl ?_
            refine r_iload_n rfl rfl ?_
            refine r_iconst rfl ?_
            refine r_isub rfl ?_
            refine r_iload_n rfl rfl ?_
            refine r_sipush rfl ?_
            refine r_isub rfl ?_
            refine r_aload_n rfl rfl ?_
            refine r_getO rfl hk (by decide) (by decide) rfl ?_
            refine r_iload_n rfl rfl ?_
            refine r_iconst rfl ?_
            refine r_isub rfl ?_
            refine r_iald rfl hk2 (by first | decide | assumption) (by first | exact s1 | exact s2 | exact s3 | exact s4) (by first | exact s1 | exact s2 | exact s3 | exact s4) ?_
            refine r_iload_n rfl rfl ?_
            refine r_callS rfl (by decide) ct_X1_join rfl rfl (am_cnt rfl) ?_
            refine r_iast rfl hk2 (by first | decide | assumption) (by first | exact s1 | exact s2 | exact s3 | exact s4) (by first | exact s1 | exact s2 | exact s3 | exact s4) ?_
            refine r_iload_n rfl rfl ?_
            refine r_iconst rfl ?_
            refine r_isub rfl ?_
            refine r_iret rfl rfl ?_
            rw [e1, e2, n1, uI_rI]
            exact ⟨rfl, rfl⟩
          · exact absurd f3 h72
        · exact absurd h48 q2
      · exact absurd h29 q1
    · exact absurd f2 h11
theorem fReck_le {g : Nat → Int32} {t : Nat} {c : Int32} (h : t ≤ 40) : (fReck g t c).2 ≤ 40 := by
  unfold fReck
  repeat' split
  all_goals (simp only; omega)
/-- the value of an expression: the stack, how many lie there, behind n codes -/
def fEv (cs sg : Nat → Int32) (w : Nat) (g : Nat → Int32) : Nat → (Nat → Int32) × Nat
  | 0 => (g, 0)
  | n + 1 => if cs n < 2000 then (if (fEv cs sg w g n).2 < 40 then (upd (fEv cs sg w g n).1 (fEv cs sg w g n).2 (fThing sg w (cs n)), (fEv cs sg w g n).2 + 1) else fEv cs sg w g n) else fReck (fEv cs sg w g n).1 (fEv cs sg w g n).2 (cs n)
theorem fEv_le (cs sg : Nat → Int32) (w : Nat) (g : Nat → Int32) : ∀ n, (fEv cs sg w g n).2 ≤ 40
  | 0 => by simp [fEv]
  | n + 1 => by
    have h := fEv_le cs sg w g n
    unfold fEv
    split
    · split
      · simp only; omega
      · exact h
    · exact fReck_le h
def fVal (cs sg : Nat → Int32) (w : Nat) (g : Nat → Int32) (n : Nat) : Int32 := if (fEv cs sg w g n).2 = 1 then (fEv cs sg w g n).1 0 else 0
theorem ct_X1_value {d : Nat} {S : am_S} {o q n w : Nat} (hF : IsF S o) (hn : gI S o 1 = nI n) (hb : n ≤ 40) (hq : am_kn (gR S 0) q = (20, w)) (hw : w < 2147483648) (hne : q ≠ o + 2) : am_CT (d + 3) iX1_value [.ref o, .ref q] S (some (.int (fVal (gI S (o + 1)) (gI S q) w (gI S (o + 2)) n))) (rI S (o + 2) (fEv (gI S (o + 1)) (gI S q) w (gI S (o + 2)) n).1) := by
  refine am_CT_in mmX1_value rfl rfl rfl ?_
  have hF2 := hF
  obtain ⟨hk, hk1, hk2⟩ := hF
  have loop : ∀ (k : Nat) (j : Nat) (g : Nat → Int32) (t : Nat) (v4 : Option Value), (j ≤ n) → (n < j + k) → ((g, t) = fEv (gI S (o + 1)) (gI S q) w (gI S (o + 2)) j) → am_Ex (am_Call am_MT (d + 2)) mmX1_value none (fun r1 G1 => r1 = (some (.int (fVal (gI S (o + 1)) (gI S q) w (gI S (o + 2)) n))) ∧ G1 = am_H (rI S (o + 2) (fEv (gI S (o + 1)) (gI S q) w (gI S (o + 2)) n).1)) (fun _ _ _ _ _ _ => False) 4 [some (.ref o), some (.ref q), some (.int (nI t)), some (.int (nI j)), v4] [] (am_H (rI S (o + 2) g)) 0 0 := by
    intro k
    induction k with
    | zero =>
      intro j g t v4 h1 h2 h3
      omega
    | succ k ih =>
      intro j g t v4 h1 h2 h3
      have hg : g = (fEv (gI S (o + 1)) (gI S q) w (gI S (o + 2)) j).1 := congrArg Prod.fst h3
      have ht : t = (fEv (gI S (o + 1)) (gI S q) w (gI S (o + 2)) j).2 := congrArg Prod.snd h3
      have htl : t ≤ 40 := by rw [ht]; exact fEv_le _ _ _ _ _
      have a1 : gI (rI S (o + 2) g) o 1 = nI n := by rw [gI_rI_ne (by omega), hn]
      have a2 : gI (rI S (o + 2) g) (o + 1) = gI S (o + 1) := gI_rI_ne (by omega)
      have a3 : gI (rI S (o + 2) g) q = gI S q := gI_rI_ne hne
      have a4 : gI (rI S (o + 2) g) (o + 2) = g := gI_rI_eq
      have s1 : 0 ≤ nI j := nI_pos' (by omega)
      have s2 : nI j < Int32.ofNat 40 ↔ j < 40 := nI_ltI (b := 40) (by omega) (by omega)
      have s3 : 0 ≤ nI t := nI_pos' (by omega)
      have s4 : nI t < Int32.ofNat 40 ↔ t < 40 := nI_ltI (b := 40) (by omega) (by omega)
      have e1 : (nI j).toNatClampNeg = j := nI_clamp (by omega)
      have e2 : (nI t).toNatClampNeg = t := nI_clamp (by omega)
      have fin : j = n → am_H (rI S (o + 2) g) = am_H (rI S (o + 2) (fEv (gI S (o + 1)) (gI S q) w (gI S (o + 2)) n).1) := fun z => by rw [hg, z]
      have finv : j = n → fVal (gI S (o + 1)) (gI S q) w (gI S (o + 2)) n = if t = 1 then g 0 else 0 := fun z => by rw [fVal, ht, hg, z]
      refine r_iload_n rfl rfl ?_
      refine r_aload_n rfl rfl ?_
      refine r_getI rfl hk (by decide) (by decide) rfl ?_
      refine r_icmp_ge rfl (fun h9 => ?_) (fun h9 => ?_)
      · rw [a1, nI_leI (by omega) (by omega)] at h9
        obtain rfl : j = n := by omega
        refine r_iload_n rfl rfl ?_
        refine r_iconst rfl ?_
        refine r_icmp_ne rfl (fun h81 => ?_) (fun h81 => ?_)
        · have h81b : ¬ t = 1 := fun z => h81 (by rw [z]; rfl)
          refine r_iconst rfl ?_
          refine r_iret rfl rfl ?_
          first | exact ⟨by rw [finv rfl, if_pos h81b, a4]; rfl, fin rfl⟩ | exact ⟨by rw [finv rfl, if_neg h81b], fin rfl⟩
        · have h81b : t = 1 := (nI_eq (b := 1) (by omega) (by omega)).mp h81
          refine r_aload_n rfl rfl ?_
          refine r_getO rfl hk (by decide) (by decide) rfl ?_
          refine r_iconst rfl ?_
          refine r_iald rfl hk2 (by first | decide | assumption) (by first | exact s1 | exact s3 | exact s2.mpr (by omega) | exact s4.mpr (by omega) | decide) (by first | exact s1 | exact s3 | exact s2.mpr (by omega) | exact s4.mpr (by omega) | decide) ?_
          refine r_goto rfl ?_
          refine r_iret rfl rfl ?_
          first | exact ⟨by rw [finv rfl, if_pos h81b, a4]; rfl, fin rfl⟩ | exact ⟨by rw [finv rfl, if_neg h81b], fin rfl⟩
      · rw [a1, nI_leI (by omega) (by omega)] at h9
        refine r_iload_n rfl rfl ?_
        refine r_aload_n rfl rfl ?_
        refine r_getO rfl hk (by decide) (by decide) rfl ?_
        refine r_alen rfl hk1 (by decide) ?_
        refine r_icmp_ge rfl (fun h18 => ?_) (fun h18 => ?_)
        · exact absurd (s2.mpr (by omega)) (Int32.not_lt.mpr h18)
        · refine r_aload_n rfl rfl ?_
          refine r_getO rfl hk (by decide) (by decide) rfl ?_
          refine r_iload_n rfl rfl ?_
          refine r_iald rfl hk1 (by first | decide | assumption) (by first | exact s1 | exact s3 | exact s2.mpr (by omega) | exact s4.mpr (by omega) | decide) (by first | exact s1 | exact s3 | exact s2.mpr (by omega) | exact s4.mpr (by omega) | decide) ?_
          refine r_istore (L2 := [_, _, _, _, _]) rfl rfl ?_
          rw [a2, e1]
          refine r_iload rfl rfl ?_
          refine r_sipush rfl ?_
          refine r_icmp_lt rfl (fun h34 => ?_) (fun h34 => ?_)
          · refine r_iload_n rfl rfl ?_
            refine r_aload_n rfl rfl ?_
            refine r_getO rfl hk (by decide) (by decide) rfl ?_
            refine r_alen rfl hk2 (by decide) ?_
            refine r_icmp_ge rfl (fun h54 => ?_) (fun h54 => ?_)
            · have h54b : ¬ t < 40 := fun z => Int32.not_lt.mpr h54 (s4.mpr z)
              refine r_iinc (L2 := [_, _, _, _, _]) rfl rfl rfl ?_
              refine r_goto rfl ?_
              first
                | (rw [rI_rI, a4, nI_1]; exact ih (j + 1) _ _ _ (by omega) (by omega) (by rw [fEv, ← h3]; simp only; rw [if_neg h34]))
                | (rw [e2, uI_rIs, a3, nI_1, nI_1]; exact ih (j + 1) _ _ _ (by omega) (by omega) (by rw [fEv, ← h3]; simp only; rw [if_pos h34, if_pos h54b]))
                | (rw [nI_1]; exact ih (j + 1) _ _ _ (by omega) (by omega) (by rw [fEv, ← h3]; simp only; rw [if_pos h34, if_neg h54b]))
            · have h54b : t < 40 := s4.mp (Int32.not_le.mp h54)
              refine r_aload_n rfl rfl ?_
              refine r_getO rfl hk (by decide) (by decide) rfl ?_
              refine r_iload_n rfl rfl ?_
              refine r_aload_n rfl rfl ?_
              refine r_iload rfl rfl ?_
              refine r_aload_n rfl rfl ?_
              refine r_callV rfl (ct_X1_thing (S := rI S (o + 2) g) hq hw) rfl rfl hk (by decide) rfl (am_cnt rfl) ?_
              refine r_iast rfl hk2 (by first | decide | assumption) (by first | exact s1 | exact s3 | exact s2.mpr (by omega) | exact s4.mpr (by omega) | decide) (by first | exact s1 | exact s3 | exact s2.mpr (by omega) | exact s4.mpr (by omega) | decide) ?_
              refine r_iinc (L2 := [_, _, _, _, _]) rfl rfl rfl ?_
              refine r_iinc (L2 := [_, _, _, _, _]) rfl rfl rfl ?_
              refine r_goto rfl ?_
              first
                | (rw [rI_rI, a4, nI_1]; exact ih (j + 1) _ _ _ (by omega) (by omega) (by rw [fEv, ← h3]; simp only; rw [if_neg h34]))
                | (rw [e2, uI_rIs, a3, nI_1, nI_1]; exact ih (j + 1) _ _ _ (by omega) (by omega) (by rw [fEv, ← h3]; simp only; rw [if_pos h34, if_pos h54b]))
                | (rw [nI_1]; exact ih (j + 1) _ _ _ (by omega) (by omega) (by rw [fEv, ← h3]; simp only; rw [if_pos h34, if_neg h54b]))
          · refine r_aload_n rfl rfl ?_
            refine r_iload rfl rfl ?_
            refine r_iload_n rfl rfl ?_
            refine r_callV rfl (ct_X1_reckon (S := rI S (o + 2) g) hF2 htl) rfl rfl hk (by decide) rfl (am_cnt rfl) ?_
            refine r_istore_n (L2 := [_, _, _, _, _]) rfl rfl ?_
            refine r_goto rfl ?_
            refine r_iinc (L2 := [_, _, _, _, _]) rfl rfl rfl ?_
            refine r_goto rfl ?_
            first
              | (rw [rI_rI, a4, nI_1]; exact ih (j + 1) _ _ _ (by omega) (by omega) (by rw [fEv, ← h3]; simp only; rw [if_neg h34]))
              | (rw [e2, uI_rIs, a3, nI_1, nI_1]; exact ih (j + 1) _ _ _ (by omega) (by omega) (by rw [fEv, ← h3]; simp only; rw [if_pos h34, if_pos h54b]))
              | (rw [nI_1]; exact ih (j + 1) _ _ _ (by omega) (by omega) (by rw [fEv, ← h3]; simp only; rw [if_pos h34, if_neg h54b]))
  refine r_iconst rfl ?_
  refine r_istore_n (L2 := [_, _, _, _, _]) rfl rfl ?_
  refine r_iconst rfl ?_
  refine r_istore_n (L2 := [_, _, _, _, _]) rfl rfl ?_
  have e := loop (n + 1) 0 (gI S (o + 2)) 0 none (by omega) (by omega) rfl
  rw [rI_id] at e
  exact e
