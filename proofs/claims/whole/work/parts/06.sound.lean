/-! ONE STEP IS SOUND: what a step asks for makes the machine's own step. -/
def am_ty (dA : Nat → ClassId) : List (ClassId × FieldType) := [(dA 0, .int), (dA 1, .long), (dA 2, .boolean), (dA 3, .object RX4), (dA 4, .object RX1), (dA 5, .object RX0)]
def am_KX (U : State) : Prop := (∀ w ∈ am_nest, va_Nw w U) ∧ va_AO RX4 U ∧ va_AO RX1 U ∧ va_AO RX0 U
def am_Rel (mc n : Nat) (ad0 ad : Nat → Nat) : Prop := (mc = 0 → ad = ad0) ∧ ∀ k : Nat, k < n ∨ 1000000 ≤ k → ad k = ad0 k
def am_Ctx (p : Program) (R : Room) (s : State) (m : MethodId) (args : Array Value) (meth : Method) (c : Code) (dC : Nat → ClassId) (dI : Nat → Nat → Nat) (dA : Nat → ClassId) (d : Nat) (M : am_M) : Prop :=
  p.tables.exec = Jvm.exec ∧ c.code = am_mb M ∧ c.maxLocals = am_mL M ∧ s.vm.findClass (am_my M).cls = some m.cls ∧ (∀ w ∈ am_U, w.before args s = true) ∧ ((am_my M).name = "<init>" → meth.name = "<init>") ∧ va_K (dC, dI) vwCl (am_ty dA) s ∧ am_KX s ∧ R.cells = am_mc M ∧ R.slots = am_ms M ∧ d + 40 ≤ R.frames ∧ 80 * d + 2000 ≤ R.locals
def am_Wd (dC : Nat → ClassId) (dI : Nat → Nat → Nat) (dA : Nat → ClassId) (A : Nat → Prop) (H0 : Heap) (ad : Nat → Nat) (G : am_G) (H : Heap) (locs : List Loc) : Prop :=
  va_P (dC, dI) vwCl (am_cw dA ad G) H ∧ va_D A (am_cw dA ad G) ∧ va_S A H0 H locs
def am_W (p : Program) (l : Launch) (e : Env) (R : Room) (s : State) (m : MethodId) (args : Array Value) (below : List Frame) (meth : Method) (c : Code) (dC : Nat → ClassId) (dI : Nat → Nat → Nat) (dA : Nat → ClassId) (M : am_M) (A : Nat → Prop) (H0 : Heap) (ad0 : Nat → Nat) (n0 : Nat) (QW : State → Prop) : am_P := fun pc L st G nc ns =>
  ∀ (ad : Nat → Nat) (H : Heap) (locs : List Loc) (ls : Array Slot), am_Rel (am_mc M) n0 ad0 ad → n0 ≤ G.length → am_Wd dC dI dA A H0 ad G H locs → am_nod L → am_LH ls (am_mL M) L ad → nc ≤ am_mc M ∧ ns ≤ am_ms M → W p l e R s m args below meth c H locs nc ns QW (F0 m pc ls (st.map (am_cv ad)))
theorem am_fld_ok {own : String} {idx a b pos : Nat} (h : am_fld own idx a b pos = true) : ∃ (C : String) (T : u_T) (N : Nat), vwCl[a]? = some (C, T, N) ∧ b < N ∧ (T b).1 = C ∧ Jvm.Cond.fieldLink own idx C (T b).2.1 (T b).2.2.1 ∈ am_U := by
  unfold am_fld at h
  split at h
  · rename_i C T N hq
    simp only [Bool.and_eq_true, decide_eq_true_eq] at h
    exact ⟨C, T, N, hq, h.1.1, h.1.2, am_at_U h.2 rfl⟩
  · cases h
theorem am_set_O {dA : Nat → ClassId} {ad : Nat → Nat} {G : am_G} {o ci b : Nat} {fs : List Value} {v : Value} : (am_cw dA ad G).set o (ad o, .inr (ci, (fs.map (am_cv ad)).set b (am_cv ad v))) = am_cw dA ad (G.set o (.inr (.inr (.inr (ci, fs.set b v))))) := by
  rw [← am_cw_set]
  simp only [am_ce, List.map_set]
theorem am_set_R {dA : Nat → ClassId} {ad : Nat → Nat} {G : am_G} {o k i v : Nat} {l : List (Option Nat)} (hi : i < l.length) : (am_cw dA ad G).set o (ad o, .inl (dA k, l.length, .inr (.inr (.inr (.inr (va_up (fun j => (l.getD j none).map ad) i (some (ad v)))))))) = am_cw dA ad (G.set o (.inr (.inr (.inl (k, l.set i (some v)))))) := by
  rw [← am_cw_set]
  simp only [am_ce, List.length_set]
  congr 9
  funext j
  simp only [va_up, List.getD_eq_getElem?_getD, List.getElem?_set]
  by_cases h : j = i
  · subst h
    simp [hi]
  · simp [h, Ne.symm h]
theorem am_prim {dC : Nat → ClassId} {dI : Nat → Nat → Nat} {dA : Nat → ClassId} {s : State} {a : Nat} {cA : ClassId} {ty : FieldType} (ha : a < 3) (hty : newarray.typeOf (am_aty a) = ty) (hK : va_K (dC, dI) vwCl (am_ty dA) s) (h : va_K (dC, dI) vwCl (am_ty dA ++ [(cA, ty)]) s) : cA = dA a := by
  have h1 := (h.2 6 (cA, ty) rfl).2
  match a, ha with
  | 0, _ =>
    cases hty
    have h2 := (hK.2 0 (dA 0, .int) rfl).2
    exact Option.some.inj (h1.symm.trans h2)
  | 1, _ =>
    cases hty
    have h2 := (hK.2 1 (dA 1, .long) rfl).2
    exact Option.some.inj (h1.symm.trans h2)
  | 2, _ =>
    cases hty
    have h2 := (hK.2 2 (dA 2, .boolean) rfl).2
    exact Option.some.inj (h1.symm.trans h2)
theorem am_obj {dC : Nat → ClassId} {dI : Nat → Nat → Nat} {dA : Nat → ClassId} {s : State} {k : Nat} {cA : ClassId} {C : String} (hk : (am_ty dA)[k]? = some (dA k, .object C)) (hK : va_K (dC, dI) vwCl (am_ty dA) s) (h : va_K (dC, dI) vwCl (am_ty dA ++ [(cA, .object C)]) s) : cA = dA k := by
  obtain ⟨_, _, _, _, _, h1⟩ := (h.2 6 (cA, .object C) rfl).2
  obtain ⟨_, _, _, _, _, h2⟩ := (hK.2 k (dA k, .object C) hk).2
  exact Option.some.inj (h1.symm.trans h2)
theorem am_Wd_new {dC : Nat → ClassId} {dI : Nat → Nat → Nat} {dA : Nat → ClassId} {A : Nat → Prop} {H0 H1 : Heap} {ad : Nat → Nat} {G : am_G} {e : am_E} {ee : va_E} {locs : List Loc} {q : Nat} (hw : G.all (am_wfE G.length) = true) (he : am_ce dA (va_up ad G.length q) e = ee) (hP : va_P (dC, dI) vwCl (am_cw dA ad G ++ [(q, ee)]) H1) (hD : va_D A (am_cw dA ad G ++ [(q, ee)])) (hS : va_S A H0 H1 locs) (hbig : G.length < 1000000) : am_Wd dC dI dA A H0 (va_up ad G.length q) (G ++ [e]) H1 locs := by
  have hx : ∀ k : Nat, k < G.length ∨ 1000000 ≤ k → va_up ad G.length q k = ad k := fun k hk => by
    simp only [va_up]
    rw [if_neg (by omega)]
  have e1 : am_cw dA (va_up ad G.length q) (G ++ [e]) = am_cw dA ad G ++ [(q, ee)] := by
    rw [am_cw_push, am_cw_ad hx (Nat.le_refl _) hw, he]
    simp [va_up]
  exact ⟨by rw [e1]; exact hP, by rw [e1]; exact hD, hS⟩
theorem am_st_ad {n : Nat} {ad ad1 : Nat → Nat} (h : ∀ k : Nat, k < n ∨ 1000000 ≤ k → ad1 k = ad k) {st : List Value} (hst : st.all (am_wfv n) = true) : st.map (am_cv ad1) = st.map (am_cv ad) := List.map_congr_left fun v hv => am_cv_ad h (List.all_eq_true.mp hst v hv)
theorem am_LH_ad {n : Nat} {ad ad1 : Nat → Nat} (h : ∀ k : Nat, k < n ∨ 1000000 ≤ k → ad1 k = ad k) {ls : Array Slot} {nL : Nat} {L : am_L} (hw : am_wfL n L = true) (hl : am_LH ls nL L ad) : am_LH ls nL L ad1 := by
  refine ⟨hl.1, am_LH_sub hl.2 fun q hq => ?_⟩
  obtain ⟨v, h1, h2⟩ := am_lv_mem.mp hq
  have h3 := List.all_eq_true.mp hw (some v) (List.mem_of_getElem? h1)
  exact am_lv_mem.mpr ⟨v, h1, h2.trans (am_cv_ad h h3)⟩
section AMS
variable {p : Program} {l : Launch} {e : Env} {R : Room} {s : State} {m : MethodId} {args : Array Value} {below : List Frame} {meth : Method} {c : Code} {dC : Nat → ClassId} {dI : Nat → Nat → Nat} {dA : Nat → ClassId} {d : Nat} {M : am_M} {A : Nat → Prop} {H0 : Heap} {ad0 : Nat → Nat} {n0 : Nat} {QW : State → Prop} {MT : Nat → Option am_M} {scr : Option (Nat × (Nat → Int32))}

theorem am_i_iconst {n : Int} (hC : am_Ctx p R s m args meth c dC dI dA d M) {P0 : am_P} (hm : ∀ pc L st G nc ns, P0 pc L st G nc ns → am_W p l e R s m args below meth c dC dI dA M A H0 ad0 n0 QW pc L st G nc ns) {C : am_C} {Q : Option Value → am_G → Prop} {X : am_P} {pc npc a b t u pos : Nat} {cv : Int32} {cl : Int64} {L : am_L} {st : List Value} {G : am_G} {nc ns : Nat} (hd : decode (am_mb M) pc = .ok (.iconst n, am_len (.iconst n) (npc - pc))) (hn : npc = pc + am_len (.iconst n) (npc - pc)) (hok : am_okX MT M pc (.iconst n) a b t u pos cv cl = true) (h : am_ins C M scr Q X P0 pc (.iconst n) npc a b t u cv cl L st G nc ns) : am_W p l e R s m args below meth c dC dI dA M A H0 ad0 n0 QW pc L st G nc ns := by
  obtain ⟨hx, hb, hml, hown, hts, hini, hK, hKX, hRc, hRs, hRf, hRl⟩ := hC
  have hn : npc = pc + 1 := hn
  subst hn
  simp only [am_okX, decide_eq_true_eq] at hok
  intro ad H locs ls hrel hn0 hw hnd hL hcs
  exact lv_iconst hx hb hd hok (hm _ _ _ _ _ _ h ad H locs ls hrel hn0 hw hnd hL hcs)

theorem am_i_bipush {n : Int} (hC : am_Ctx p R s m args meth c dC dI dA d M) {P0 : am_P} (hm : ∀ pc L st G nc ns, P0 pc L st G nc ns → am_W p l e R s m args below meth c dC dI dA M A H0 ad0 n0 QW pc L st G nc ns) {C : am_C} {Q : Option Value → am_G → Prop} {X : am_P} {pc npc a b t u pos : Nat} {cv : Int32} {cl : Int64} {L : am_L} {st : List Value} {G : am_G} {nc ns : Nat} (hd : decode (am_mb M) pc = .ok (.bipush n, am_len (.bipush n) (npc - pc))) (hn : npc = pc + am_len (.bipush n) (npc - pc)) (hok : am_okX MT M pc (.bipush n) a b t u pos cv cl = true) (h : am_ins C M scr Q X P0 pc (.bipush n) npc a b t u cv cl L st G nc ns) : am_W p l e R s m args below meth c dC dI dA M A H0 ad0 n0 QW pc L st G nc ns := by
  obtain ⟨hx, hb, hml, hown, hts, hini, hK, hKX, hRc, hRs, hRf, hRl⟩ := hC
  have hn : npc = pc + 2 := hn
  subst hn
  simp only [am_okX, decide_eq_true_eq] at hok
  intro ad H locs ls hrel hn0 hw hnd hL hcs
  exact lv_bipush hx hb hd hok (hm _ _ _ _ _ _ h ad H locs ls hrel hn0 hw hnd hL hcs)

theorem am_i_sipush {n : Int} (hC : am_Ctx p R s m args meth c dC dI dA d M) {P0 : am_P} (hm : ∀ pc L st G nc ns, P0 pc L st G nc ns → am_W p l e R s m args below meth c dC dI dA M A H0 ad0 n0 QW pc L st G nc ns) {C : am_C} {Q : Option Value → am_G → Prop} {X : am_P} {pc npc a b t u pos : Nat} {cv : Int32} {cl : Int64} {L : am_L} {st : List Value} {G : am_G} {nc ns : Nat} (hd : decode (am_mb M) pc = .ok (.sipush n, am_len (.sipush n) (npc - pc))) (hn : npc = pc + am_len (.sipush n) (npc - pc)) (hok : am_okX MT M pc (.sipush n) a b t u pos cv cl = true) (h : am_ins C M scr Q X P0 pc (.sipush n) npc a b t u cv cl L st G nc ns) : am_W p l e R s m args below meth c dC dI dA M A H0 ad0 n0 QW pc L st G nc ns := by
  obtain ⟨hx, hb, hml, hown, hts, hini, hK, hKX, hRc, hRs, hRf, hRl⟩ := hC
  have hn : npc = pc + 3 := hn
  subst hn
  simp only [am_okX, decide_eq_true_eq] at hok
  intro ad H locs ls hrel hn0 hw hnd hL hcs
  exact lv_sipush hx hb hd hok (hm _ _ _ _ _ _ h ad H locs ls hrel hn0 hw hnd hL hcs)

theorem am_i_lconst {n : Fin 2} (hC : am_Ctx p R s m args meth c dC dI dA d M) {P0 : am_P} (hm : ∀ pc L st G nc ns, P0 pc L st G nc ns → am_W p l e R s m args below meth c dC dI dA M A H0 ad0 n0 QW pc L st G nc ns) {C : am_C} {Q : Option Value → am_G → Prop} {X : am_P} {pc npc a b t u pos : Nat} {cv : Int32} {cl : Int64} {L : am_L} {st : List Value} {G : am_G} {nc ns : Nat} (hd : decode (am_mb M) pc = .ok (.lconst n, am_len (.lconst n) (npc - pc))) (hn : npc = pc + am_len (.lconst n) (npc - pc)) (hok : am_okX MT M pc (.lconst n) a b t u pos cv cl = true) (h : am_ins C M scr Q X P0 pc (.lconst n) npc a b t u cv cl L st G nc ns) : am_W p l e R s m args below meth c dC dI dA M A H0 ad0 n0 QW pc L st G nc ns := by
  obtain ⟨hx, hb, hml, hown, hts, hini, hK, hKX, hRc, hRs, hRf, hRl⟩ := hC
  have hn : npc = pc + 1 := hn
  subst hn
  simp only [am_okX, decide_eq_true_eq] at hok
  intro ad H locs ls hrel hn0 hw hnd hL hcs
  exact lv_lconst hx hb hd hok (hm _ _ _ _ _ _ h ad H locs ls hrel hn0 hw hnd hL hcs)

theorem am_i_ldc2 {n : Nat} (hC : am_Ctx p R s m args meth c dC dI dA d M) {P0 : am_P} (hm : ∀ pc L st G nc ns, P0 pc L st G nc ns → am_W p l e R s m args below meth c dC dI dA M A H0 ad0 n0 QW pc L st G nc ns) {C : am_C} {Q : Option Value → am_G → Prop} {X : am_P} {pc npc a b t u pos : Nat} {cv : Int32} {cl : Int64} {L : am_L} {st : List Value} {G : am_G} {nc ns : Nat} (hd : decode (am_mb M) pc = .ok (.ldc2_w n, am_len (.ldc2_w n) (npc - pc))) (hn : npc = pc + am_len (.ldc2_w n) (npc - pc)) (hok : am_okX MT M pc (.ldc2_w n) a b t u pos cv cl = true) (h : am_ins C M scr Q X P0 pc (.ldc2_w n) npc a b t u cv cl L st G nc ns) : am_W p l e R s m args below meth c dC dI dA M A H0 ad0 n0 QW pc L st G nc ns := by
  obtain ⟨hx, hb, hml, hown, hts, hini, hK, hKX, hRc, hRs, hRf, hRl⟩ := hC
  have hn : npc = pc + 3 := hn
  subst hn
  have hw1 := hts _ (am_at_U hok rfl)
  intro ad H locs ls hrel hn0 hw hnd hL hcs
  exact lv_ldc2 hx hb hown hw1 hd (hm _ _ _ _ _ _ h ad H locs ls hrel hn0 hw hnd hL hcs)

theorem am_i_ldc {n : Nat} (hC : am_Ctx p R s m args meth c dC dI dA d M) {P0 : am_P} (hm : ∀ pc L st G nc ns, P0 pc L st G nc ns → am_W p l e R s m args below meth c dC dI dA M A H0 ad0 n0 QW pc L st G nc ns) {C : am_C} {Q : Option Value → am_G → Prop} {X : am_P} {pc npc a b t u pos : Nat} {cv : Int32} {cl : Int64} {L : am_L} {st : List Value} {G : am_G} {nc ns : Nat} (hd : decode (am_mb M) pc = .ok (.ldc n, am_len (.ldc n) (npc - pc))) (hn : npc = pc + am_len (.ldc n) (npc - pc)) (hok : am_okX MT M pc (.ldc n) a b t u pos cv cl = true) (h : am_ins C M scr Q X P0 pc (.ldc n) npc a b t u cv cl L st G nc ns) (hstr : ∀ (n b : Nat), 1000000 ≤ b → am_sk (b - 1000000) = some ((am_my M).cls, n) → decode (am_mb M) pc = .ok (.ldc n, 2) → ∀ (ad : Nat → Nat) (H : Heap) (locs : List Loc) (ls : Array Slot), am_Rel (am_mc M) n0 ad0 ad → n0 ≤ G.length → am_Wd dC dI dA A H0 ad G H locs → am_nod L → am_LH ls (am_mL M) L ad → nc ≤ am_mc M ∧ ns ≤ am_ms M → W p l e R s m args below meth c H locs nc ns QW (F0 m (pc + 2) ls ((.ref b :: st).map (am_cv ad))) → W p l e R s m args below meth c H locs nc ns QW (F0 m pc ls (st.map (am_cv ad)))) : am_W p l e R s m args below meth c dC dI dA M A H0 ad0 n0 QW pc L st G nc ns := by
  obtain ⟨hx, hb, hml, hown, hts, hini, hK, hKX, hRc, hRs, hRf, hRl⟩ := hC
  have hn : npc = pc + 2 := hn
  subst hn
  match t, hok, h with
  | 0, hok, h =>
    have hw1 := hts _ (am_at_U hok rfl)
    intro ad H locs ls hrel hn0 hw hnd hL hcs
    exact lv_ldc hx hb hown hw1 hd (hm _ _ _ _ _ _ h ad H locs ls hrel hn0 hw hnd hL hcs)
  | t + 1, hok, h =>
    simp only [am_okX, Bool.and_eq_true, decide_eq_true_eq] at hok
    intro ad H locs ls hrel hn0 hw hnd hL hcs
    exact hstr n b hok.1 hok.2 hd ad H locs ls hrel hn0 hw hnd hL hcs (hm _ _ _ _ _ _ h ad H locs ls hrel hn0 hw hnd hL hcs)

theorem am_i_ldc_w {n : Nat} (hC : am_Ctx p R s m args meth c dC dI dA d M) {P0 : am_P} (hm : ∀ pc L st G nc ns, P0 pc L st G nc ns → am_W p l e R s m args below meth c dC dI dA M A H0 ad0 n0 QW pc L st G nc ns) {C : am_C} {Q : Option Value → am_G → Prop} {X : am_P} {pc npc a b t u pos : Nat} {cv : Int32} {cl : Int64} {L : am_L} {st : List Value} {G : am_G} {nc ns : Nat} (hd : decode (am_mb M) pc = .ok (.ldc_w n, am_len (.ldc_w n) (npc - pc))) (hn : npc = pc + am_len (.ldc_w n) (npc - pc)) (hok : am_okX MT M pc (.ldc_w n) a b t u pos cv cl = true) (h : am_ins C M scr Q X P0 pc (.ldc_w n) npc a b t u cv cl L st G nc ns) (hstr : ∀ (n b : Nat), 1000000 ≤ b → am_sk (b - 1000000) = some ((am_my M).cls, n) → decode (am_mb M) pc = .ok (.ldc_w n, 3) → ∀ (ad : Nat → Nat) (H : Heap) (locs : List Loc) (ls : Array Slot), am_Rel (am_mc M) n0 ad0 ad → n0 ≤ G.length → am_Wd dC dI dA A H0 ad G H locs → am_nod L → am_LH ls (am_mL M) L ad → nc ≤ am_mc M ∧ ns ≤ am_ms M → W p l e R s m args below meth c H locs nc ns QW (F0 m (pc + 3) ls ((.ref b :: st).map (am_cv ad))) → W p l e R s m args below meth c H locs nc ns QW (F0 m pc ls (st.map (am_cv ad)))) : am_W p l e R s m args below meth c dC dI dA M A H0 ad0 n0 QW pc L st G nc ns := by
  obtain ⟨hx, hb, hml, hown, hts, hini, hK, hKX, hRc, hRs, hRf, hRl⟩ := hC
  have hn : npc = pc + 3 := hn
  subst hn
  match t, hok, h with
  | 0, hok, h =>
    have hw1 := hts _ (am_at_U hok rfl)
    intro ad H locs ls hrel hn0 hw hnd hL hcs
    exact lv_ldcw hx hb hown hw1 hd (hm _ _ _ _ _ _ h ad H locs ls hrel hn0 hw hnd hL hcs)
  | t + 1, hok, h =>
    simp only [am_okX, Bool.and_eq_true, decide_eq_true_eq] at hok
    intro ad H locs ls hrel hn0 hw hnd hL hcs
    exact hstr n b hok.1 hok.2 hd ad H locs ls hrel hn0 hw hnd hL hcs (hm _ _ _ _ _ _ h ad H locs ls hrel hn0 hw hnd hL hcs)

theorem am_i_iload_n {k : Fin 4} (hC : am_Ctx p R s m args meth c dC dI dA d M) {P0 : am_P} (hm : ∀ pc L st G nc ns, P0 pc L st G nc ns → am_W p l e R s m args below meth c dC dI dA M A H0 ad0 n0 QW pc L st G nc ns) {C : am_C} {Q : Option Value → am_G → Prop} {X : am_P} {pc npc a b t u pos : Nat} {cv : Int32} {cl : Int64} {L : am_L} {st : List Value} {G : am_G} {nc ns : Nat} (hd : decode (am_mb M) pc = .ok (.iload_n k, am_len (.iload_n k) (npc - pc))) (hn : npc = pc + am_len (.iload_n k) (npc - pc)) (hok : am_okX MT M pc (.iload_n k) a b t u pos cv cl = true) (h : am_ins C M scr Q X P0 pc (.iload_n k) npc a b t u cv cl L st G nc ns) : am_W p l e R s m args below meth c dC dI dA M A H0 ad0 n0 QW pc L st G nc ns := by
  obtain ⟨hx, hb, hml, hown, hts, hini, hK, hKX, hRc, hRs, hRf, hRl⟩ := hC
  have hn : npc = pc + 1 := hn
  subst hn
  simp only [am_okX, decide_eq_true_eq] at hok
  simp only [am_ins] at h
  split at h
  · rename_i hq
    intro ad H locs ls hrel hn0 hw hnd hL hcs
    exact lv_iload_n hx hb hd hok (am_LH_at hL hq) (hm _ _ _ _ _ _ h ad H locs ls hrel hn0 hw hnd hL hcs)
  · exact h.elim

theorem am_i_iload {k : Nat} (hC : am_Ctx p R s m args meth c dC dI dA d M) {P0 : am_P} (hm : ∀ pc L st G nc ns, P0 pc L st G nc ns → am_W p l e R s m args below meth c dC dI dA M A H0 ad0 n0 QW pc L st G nc ns) {C : am_C} {Q : Option Value → am_G → Prop} {X : am_P} {pc npc a b t u pos : Nat} {cv : Int32} {cl : Int64} {L : am_L} {st : List Value} {G : am_G} {nc ns : Nat} (hd : decode (am_mb M) pc = .ok (.iload k, am_len (.iload k) (npc - pc))) (hn : npc = pc + am_len (.iload k) (npc - pc)) (hok : am_okX MT M pc (.iload k) a b t u pos cv cl = true) (h : am_ins C M scr Q X P0 pc (.iload k) npc a b t u cv cl L st G nc ns) : am_W p l e R s m args below meth c dC dI dA M A H0 ad0 n0 QW pc L st G nc ns := by
  obtain ⟨hx, hb, hml, hown, hts, hini, hK, hKX, hRc, hRs, hRf, hRl⟩ := hC
  have hn : npc = pc + 2 := hn
  subst hn
  simp only [am_okX, decide_eq_true_eq] at hok
  simp only [am_ins] at h
  split at h
  · rename_i hq
    subst hok
    intro ad H locs ls hrel hn0 hw hnd hL hcs
    exact lv_iload hx hb hd (am_LH_at hL hq) (hm _ _ _ _ _ _ h ad H locs ls hrel hn0 hw hnd hL hcs)
  · exact h.elim

theorem am_i_lload_n {k : Fin 4} (hC : am_Ctx p R s m args meth c dC dI dA d M) {P0 : am_P} (hm : ∀ pc L st G nc ns, P0 pc L st G nc ns → am_W p l e R s m args below meth c dC dI dA M A H0 ad0 n0 QW pc L st G nc ns) {C : am_C} {Q : Option Value → am_G → Prop} {X : am_P} {pc npc a b t u pos : Nat} {cv : Int32} {cl : Int64} {L : am_L} {st : List Value} {G : am_G} {nc ns : Nat} (hd : decode (am_mb M) pc = .ok (.lload_n k, am_len (.lload_n k) (npc - pc))) (hn : npc = pc + am_len (.lload_n k) (npc - pc)) (hok : am_okX MT M pc (.lload_n k) a b t u pos cv cl = true) (h : am_ins C M scr Q X P0 pc (.lload_n k) npc a b t u cv cl L st G nc ns) : am_W p l e R s m args below meth c dC dI dA M A H0 ad0 n0 QW pc L st G nc ns := by
  obtain ⟨hx, hb, hml, hown, hts, hini, hK, hKX, hRc, hRs, hRf, hRl⟩ := hC
  have hn : npc = pc + 1 := hn
  subst hn
  simp only [am_okX, decide_eq_true_eq] at hok
  simp only [am_ins] at h
  split at h
  · rename_i hq
    intro ad H locs ls hrel hn0 hw hnd hL hcs
    exact lv_lload_n hx hb hd hok (am_LH_at hL hq) (hm _ _ _ _ _ _ h ad H locs ls hrel hn0 hw hnd hL hcs)
  · exact h.elim

theorem am_i_lload {k : Nat} (hC : am_Ctx p R s m args meth c dC dI dA d M) {P0 : am_P} (hm : ∀ pc L st G nc ns, P0 pc L st G nc ns → am_W p l e R s m args below meth c dC dI dA M A H0 ad0 n0 QW pc L st G nc ns) {C : am_C} {Q : Option Value → am_G → Prop} {X : am_P} {pc npc a b t u pos : Nat} {cv : Int32} {cl : Int64} {L : am_L} {st : List Value} {G : am_G} {nc ns : Nat} (hd : decode (am_mb M) pc = .ok (.lload k, am_len (.lload k) (npc - pc))) (hn : npc = pc + am_len (.lload k) (npc - pc)) (hok : am_okX MT M pc (.lload k) a b t u pos cv cl = true) (h : am_ins C M scr Q X P0 pc (.lload k) npc a b t u cv cl L st G nc ns) : am_W p l e R s m args below meth c dC dI dA M A H0 ad0 n0 QW pc L st G nc ns := by
  obtain ⟨hx, hb, hml, hown, hts, hini, hK, hKX, hRc, hRs, hRf, hRl⟩ := hC
  have hn : npc = pc + 2 := hn
  subst hn
  simp only [am_okX, decide_eq_true_eq] at hok
  simp only [am_ins] at h
  split at h
  · rename_i hq
    subst hok
    intro ad H locs ls hrel hn0 hw hnd hL hcs
    exact lv_lload hx hb hd (am_LH_at hL hq) (hm _ _ _ _ _ _ h ad H locs ls hrel hn0 hw hnd hL hcs)
  · exact h.elim

theorem am_i_aload_n {k : Fin 4} (hC : am_Ctx p R s m args meth c dC dI dA d M) {P0 : am_P} (hm : ∀ pc L st G nc ns, P0 pc L st G nc ns → am_W p l e R s m args below meth c dC dI dA M A H0 ad0 n0 QW pc L st G nc ns) {C : am_C} {Q : Option Value → am_G → Prop} {X : am_P} {pc npc a b t u pos : Nat} {cv : Int32} {cl : Int64} {L : am_L} {st : List Value} {G : am_G} {nc ns : Nat} (hd : decode (am_mb M) pc = .ok (.aload_n k, am_len (.aload_n k) (npc - pc))) (hn : npc = pc + am_len (.aload_n k) (npc - pc)) (hok : am_okX MT M pc (.aload_n k) a b t u pos cv cl = true) (h : am_ins C M scr Q X P0 pc (.aload_n k) npc a b t u cv cl L st G nc ns) : am_W p l e R s m args below meth c dC dI dA M A H0 ad0 n0 QW pc L st G nc ns := by
  obtain ⟨hx, hb, hml, hown, hts, hini, hK, hKX, hRc, hRs, hRf, hRl⟩ := hC
  have hn : npc = pc + 1 := hn
  subst hn
  simp only [am_okX, decide_eq_true_eq] at hok
  simp only [am_ins] at h
  split at h
  · rename_i hq
    intro ad H locs ls hrel hn0 hw hnd hL hcs
    exact lv_aload_n hx hb hd hok (am_LH_at hL hq) (hm _ _ _ _ _ _ h ad H locs ls hrel hn0 hw hnd hL hcs)
  · exact h.elim

theorem am_i_aload {k : Nat} (hC : am_Ctx p R s m args meth c dC dI dA d M) {P0 : am_P} (hm : ∀ pc L st G nc ns, P0 pc L st G nc ns → am_W p l e R s m args below meth c dC dI dA M A H0 ad0 n0 QW pc L st G nc ns) {C : am_C} {Q : Option Value → am_G → Prop} {X : am_P} {pc npc a b t u pos : Nat} {cv : Int32} {cl : Int64} {L : am_L} {st : List Value} {G : am_G} {nc ns : Nat} (hd : decode (am_mb M) pc = .ok (.aload k, am_len (.aload k) (npc - pc))) (hn : npc = pc + am_len (.aload k) (npc - pc)) (hok : am_okX MT M pc (.aload k) a b t u pos cv cl = true) (h : am_ins C M scr Q X P0 pc (.aload k) npc a b t u cv cl L st G nc ns) : am_W p l e R s m args below meth c dC dI dA M A H0 ad0 n0 QW pc L st G nc ns := by
  obtain ⟨hx, hb, hml, hown, hts, hini, hK, hKX, hRc, hRs, hRf, hRl⟩ := hC
  have hn : npc = pc + 2 := hn
  subst hn
  simp only [am_okX, decide_eq_true_eq] at hok
  simp only [am_ins] at h
  split at h
  · rename_i hq
    subst hok
    intro ad H locs ls hrel hn0 hw hnd hL hcs
    exact lv_aload hx hb hd (am_LH_at hL hq) (hm _ _ _ _ _ _ h ad H locs ls hrel hn0 hw hnd hL hcs)
  · exact h.elim

theorem am_i_istore_n {k : Fin 4} (hC : am_Ctx p R s m args meth c dC dI dA d M) {P0 : am_P} (hm : ∀ pc L st G nc ns, P0 pc L st G nc ns → am_W p l e R s m args below meth c dC dI dA M A H0 ad0 n0 QW pc L st G nc ns) {C : am_C} {Q : Option Value → am_G → Prop} {X : am_P} {pc npc a b t u pos : Nat} {cv : Int32} {cl : Int64} {L : am_L} {st : List Value} {G : am_G} {nc ns : Nat} (hd : decode (am_mb M) pc = .ok (.istore_n k, am_len (.istore_n k) (npc - pc))) (hn : npc = pc + am_len (.istore_n k) (npc - pc)) (hok : am_okX MT M pc (.istore_n k) a b t u pos cv cl = true) (h : am_ins C M scr Q X P0 pc (.istore_n k) npc a b t u cv cl L st G nc ns) : am_W p l e R s m args below meth c dC dI dA M A H0 ad0 n0 QW pc L st G nc ns := by
  obtain ⟨hx, hb, hml, hown, hts, hini, hK, hKX, hRc, hRs, hRf, hRl⟩ := hC
  have hn : npc = pc + 1 := hn
  subst hn
  simp only [am_okX, Bool.and_eq_true, decide_eq_true_eq] at hok
  simp only [am_ins] at h
  split at h
  · intro ad H locs ls hrel hn0 hw hnd hL hcs
    exact lv_istore_n hx hb hd hok.1 hL.2 hok.2 rfl (fun ls2 hl2 => hm _ _ _ _ _ _ h ad H locs ls2 hrel hn0 hw ((am_nod_st1 hnd rfl)) (am_st1_LH hnd hL.1 hl2) hcs)
  · exact h.elim

theorem am_i_istore {k : Nat} (hC : am_Ctx p R s m args meth c dC dI dA d M) {P0 : am_P} (hm : ∀ pc L st G nc ns, P0 pc L st G nc ns → am_W p l e R s m args below meth c dC dI dA M A H0 ad0 n0 QW pc L st G nc ns) {C : am_C} {Q : Option Value → am_G → Prop} {X : am_P} {pc npc a b t u pos : Nat} {cv : Int32} {cl : Int64} {L : am_L} {st : List Value} {G : am_G} {nc ns : Nat} (hd : decode (am_mb M) pc = .ok (.istore k, am_len (.istore k) (npc - pc))) (hn : npc = pc + am_len (.istore k) (npc - pc)) (hok : am_okX MT M pc (.istore k) a b t u pos cv cl = true) (h : am_ins C M scr Q X P0 pc (.istore k) npc a b t u cv cl L st G nc ns) : am_W p l e R s m args below meth c dC dI dA M A H0 ad0 n0 QW pc L st G nc ns := by
  obtain ⟨hx, hb, hml, hown, hts, hini, hK, hKX, hRc, hRs, hRf, hRl⟩ := hC
  have hn : npc = pc + 2 := hn
  subst hn
  simp only [am_okX, Bool.and_eq_true, decide_eq_true_eq] at hok
  simp only [am_ins] at h
  split at h
  · obtain ⟨rfl, hlt⟩ := hok
    intro ad H locs ls hrel hn0 hw hnd hL hcs
    exact lv_istore hx hb hd hL.2 hlt rfl (fun ls2 hl2 => hm _ _ _ _ _ _ h ad H locs ls2 hrel hn0 hw ((am_nod_st1 hnd rfl)) (am_st1_LH hnd hL.1 hl2) hcs)
  · exact h.elim

theorem am_i_astore_n {k : Fin 4} (hC : am_Ctx p R s m args meth c dC dI dA d M) {P0 : am_P} (hm : ∀ pc L st G nc ns, P0 pc L st G nc ns → am_W p l e R s m args below meth c dC dI dA M A H0 ad0 n0 QW pc L st G nc ns) {C : am_C} {Q : Option Value → am_G → Prop} {X : am_P} {pc npc a b t u pos : Nat} {cv : Int32} {cl : Int64} {L : am_L} {st : List Value} {G : am_G} {nc ns : Nat} (hd : decode (am_mb M) pc = .ok (.astore_n k, am_len (.astore_n k) (npc - pc))) (hn : npc = pc + am_len (.astore_n k) (npc - pc)) (hok : am_okX MT M pc (.astore_n k) a b t u pos cv cl = true) (h : am_ins C M scr Q X P0 pc (.astore_n k) npc a b t u cv cl L st G nc ns) : am_W p l e R s m args below meth c dC dI dA M A H0 ad0 n0 QW pc L st G nc ns := by
  obtain ⟨hx, hb, hml, hown, hts, hini, hK, hKX, hRc, hRs, hRf, hRl⟩ := hC
  have hn : npc = pc + 1 := hn
  subst hn
  simp only [am_okX, Bool.and_eq_true, decide_eq_true_eq] at hok
  simp only [am_ins] at h
  split at h
  · intro ad H locs ls hrel hn0 hw hnd hL hcs
    exact lv_astore_n hx hb hd hok.1 hL.2 hok.2 rfl (fun ls2 hl2 => hm _ _ _ _ _ _ h ad H locs ls2 hrel hn0 hw ((am_nod_st1 hnd rfl)) (am_st1_LH hnd hL.1 hl2) hcs)
  · exact h.elim

theorem am_i_astore {k : Nat} (hC : am_Ctx p R s m args meth c dC dI dA d M) {P0 : am_P} (hm : ∀ pc L st G nc ns, P0 pc L st G nc ns → am_W p l e R s m args below meth c dC dI dA M A H0 ad0 n0 QW pc L st G nc ns) {C : am_C} {Q : Option Value → am_G → Prop} {X : am_P} {pc npc a b t u pos : Nat} {cv : Int32} {cl : Int64} {L : am_L} {st : List Value} {G : am_G} {nc ns : Nat} (hd : decode (am_mb M) pc = .ok (.astore k, am_len (.astore k) (npc - pc))) (hn : npc = pc + am_len (.astore k) (npc - pc)) (hok : am_okX MT M pc (.astore k) a b t u pos cv cl = true) (h : am_ins C M scr Q X P0 pc (.astore k) npc a b t u cv cl L st G nc ns) : am_W p l e R s m args below meth c dC dI dA M A H0 ad0 n0 QW pc L st G nc ns := by
  obtain ⟨hx, hb, hml, hown, hts, hini, hK, hKX, hRc, hRs, hRf, hRl⟩ := hC
  have hn : npc = pc + 2 := hn
  subst hn
  simp only [am_okX, Bool.and_eq_true, decide_eq_true_eq] at hok
  simp only [am_ins] at h
  split at h
  · obtain ⟨rfl, hlt⟩ := hok
    intro ad H locs ls hrel hn0 hw hnd hL hcs
    exact lv_astore hx hb hd hL.2 hlt rfl (fun ls2 hl2 => hm _ _ _ _ _ _ h ad H locs ls2 hrel hn0 hw ((am_nod_st1 hnd rfl)) (am_st1_LH hnd hL.1 hl2) hcs)
  · exact h.elim

theorem am_i_lstore_n {k : Fin 4} (hC : am_Ctx p R s m args meth c dC dI dA d M) {P0 : am_P} (hm : ∀ pc L st G nc ns, P0 pc L st G nc ns → am_W p l e R s m args below meth c dC dI dA M A H0 ad0 n0 QW pc L st G nc ns) {C : am_C} {Q : Option Value → am_G → Prop} {X : am_P} {pc npc a b t u pos : Nat} {cv : Int32} {cl : Int64} {L : am_L} {st : List Value} {G : am_G} {nc ns : Nat} (hd : decode (am_mb M) pc = .ok (.lstore_n k, am_len (.lstore_n k) (npc - pc))) (hn : npc = pc + am_len (.lstore_n k) (npc - pc)) (hok : am_okX MT M pc (.lstore_n k) a b t u pos cv cl = true) (h : am_ins C M scr Q X P0 pc (.lstore_n k) npc a b t u cv cl L st G nc ns) : am_W p l e R s m args below meth c dC dI dA M A H0 ad0 n0 QW pc L st G nc ns := by
  obtain ⟨hx, hb, hml, hown, hts, hini, hK, hKX, hRc, hRs, hRf, hRl⟩ := hC
  have hn : npc = pc + 1 := hn
  subst hn
  simp only [am_okX, Bool.and_eq_true, decide_eq_true_eq] at hok
  simp only [am_ins] at h
  split at h
  · intro ad H locs ls hrel hn0 hw hnd hL hcs
    exact lv_lstore_n hx hb hd hok.1 hL.2 hok.2 rfl (fun ls2 hl2 => hm _ _ _ _ _ _ h ad H locs ls2 hrel hn0 hw (am_nod_st2 hnd) (am_st2_LH hnd hL.1 hl2) hcs)
  · exact h.elim

theorem am_i_lstore {k : Nat} (hC : am_Ctx p R s m args meth c dC dI dA d M) {P0 : am_P} (hm : ∀ pc L st G nc ns, P0 pc L st G nc ns → am_W p l e R s m args below meth c dC dI dA M A H0 ad0 n0 QW pc L st G nc ns) {C : am_C} {Q : Option Value → am_G → Prop} {X : am_P} {pc npc a b t u pos : Nat} {cv : Int32} {cl : Int64} {L : am_L} {st : List Value} {G : am_G} {nc ns : Nat} (hd : decode (am_mb M) pc = .ok (.lstore k, am_len (.lstore k) (npc - pc))) (hn : npc = pc + am_len (.lstore k) (npc - pc)) (hok : am_okX MT M pc (.lstore k) a b t u pos cv cl = true) (h : am_ins C M scr Q X P0 pc (.lstore k) npc a b t u cv cl L st G nc ns) : am_W p l e R s m args below meth c dC dI dA M A H0 ad0 n0 QW pc L st G nc ns := by
  obtain ⟨hx, hb, hml, hown, hts, hini, hK, hKX, hRc, hRs, hRf, hRl⟩ := hC
  have hn : npc = pc + 2 := hn
  subst hn
  simp only [am_okX, Bool.and_eq_true, decide_eq_true_eq] at hok
  simp only [am_ins] at h
  split at h
  · obtain ⟨rfl, hlt⟩ := hok
    intro ad H locs ls hrel hn0 hw hnd hL hcs
    exact lv_lstore hx hb hd hL.2 hlt rfl (fun ls2 hl2 => hm _ _ _ _ _ _ h ad H locs ls2 hrel hn0 hw (am_nod_st2 hnd) (am_st2_LH hnd hL.1 hl2) hcs)
  · exact h.elim

theorem am_i_iinc {k : Nat} {n : Int} (hC : am_Ctx p R s m args meth c dC dI dA d M) {P0 : am_P} (hm : ∀ pc L st G nc ns, P0 pc L st G nc ns → am_W p l e R s m args below meth c dC dI dA M A H0 ad0 n0 QW pc L st G nc ns) {C : am_C} {Q : Option Value → am_G → Prop} {X : am_P} {pc npc a b t u pos : Nat} {cv : Int32} {cl : Int64} {L : am_L} {st : List Value} {G : am_G} {nc ns : Nat} (hd : decode (am_mb M) pc = .ok (.iinc k n, am_len (.iinc k n) (npc - pc))) (hn : npc = pc + am_len (.iinc k n) (npc - pc)) (hok : am_okX MT M pc (.iinc k n) a b t u pos cv cl = true) (h : am_ins C M scr Q X P0 pc (.iinc k n) npc a b t u cv cl L st G nc ns) : am_W p l e R s m args below meth c dC dI dA M A H0 ad0 n0 QW pc L st G nc ns := by
  obtain ⟨hx, hb, hml, hown, hts, hini, hK, hKX, hRc, hRs, hRf, hRl⟩ := hC
  have hn : npc = pc + 3 := hn
  subst hn
  simp only [am_okX, Bool.and_eq_true, decide_eq_true_eq] at hok
  obtain ⟨⟨rfl, hv⟩, hlt⟩ := hok
  simp only [am_ins] at h
  split at h
  · rename_i x hq
    intro ad H locs ls hrel hn0 hw hnd hL hcs
    obtain ⟨j, hj⟩ := List.getElem?_of_mem (am_lv_mem.mpr ⟨_, hq, rfl⟩ : ((k, am_cv ad (.int x)) : Nat × Value) ∈ am_lv L ad)
    exact lv_iinc hx hb hd hL.2 hj (by rw [hv]) hlt rfl (fun ls2 hl2 => hm _ _ _ _ _ _ h ad H locs ls2 hrel hn0 hw (am_nod_st1 hnd rfl) (am_st1_LH hnd hL.1 hl2) hcs)
  · exact h.elim

theorem am_i_iadd (hC : am_Ctx p R s m args meth c dC dI dA d M) {P0 : am_P} (hm : ∀ pc L st G nc ns, P0 pc L st G nc ns → am_W p l e R s m args below meth c dC dI dA M A H0 ad0 n0 QW pc L st G nc ns) {C : am_C} {Q : Option Value → am_G → Prop} {X : am_P} {pc npc a b t u pos : Nat} {cv : Int32} {cl : Int64} {L : am_L} {st : List Value} {G : am_G} {nc ns : Nat} (hd : decode (am_mb M) pc = .ok (.iadd, am_len (.iadd) (npc - pc))) (hn : npc = pc + am_len (.iadd) (npc - pc)) (hok : am_okX MT M pc (.iadd) a b t u pos cv cl = true) (h : am_ins C M scr Q X P0 pc (.iadd) npc a b t u cv cl L st G nc ns) : am_W p l e R s m args below meth c dC dI dA M A H0 ad0 n0 QW pc L st G nc ns := by
  obtain ⟨hx, hb, hml, hown, hts, hini, hK, hKX, hRc, hRs, hRf, hRl⟩ := hC
  have hn : npc = pc + 1 := hn
  subst hn
  simp only [am_ins] at h
  split at h
  · intro ad H locs ls hrel hn0 hw hnd hL hcs
    exact lv_iadd hx hb hd (hm _ _ _ _ _ _ h ad H locs ls hrel hn0 hw hnd hL hcs)
  · exact h.elim

theorem am_i_isub (hC : am_Ctx p R s m args meth c dC dI dA d M) {P0 : am_P} (hm : ∀ pc L st G nc ns, P0 pc L st G nc ns → am_W p l e R s m args below meth c dC dI dA M A H0 ad0 n0 QW pc L st G nc ns) {C : am_C} {Q : Option Value → am_G → Prop} {X : am_P} {pc npc a b t u pos : Nat} {cv : Int32} {cl : Int64} {L : am_L} {st : List Value} {G : am_G} {nc ns : Nat} (hd : decode (am_mb M) pc = .ok (.isub, am_len (.isub) (npc - pc))) (hn : npc = pc + am_len (.isub) (npc - pc)) (hok : am_okX MT M pc (.isub) a b t u pos cv cl = true) (h : am_ins C M scr Q X P0 pc (.isub) npc a b t u cv cl L st G nc ns) : am_W p l e R s m args below meth c dC dI dA M A H0 ad0 n0 QW pc L st G nc ns := by
  obtain ⟨hx, hb, hml, hown, hts, hini, hK, hKX, hRc, hRs, hRf, hRl⟩ := hC
  have hn : npc = pc + 1 := hn
  subst hn
  simp only [am_ins] at h
  split at h
  · intro ad H locs ls hrel hn0 hw hnd hL hcs
    exact lv_isub hx hb hd (hm _ _ _ _ _ _ h ad H locs ls hrel hn0 hw hnd hL hcs)
  · exact h.elim

theorem am_i_imul (hC : am_Ctx p R s m args meth c dC dI dA d M) {P0 : am_P} (hm : ∀ pc L st G nc ns, P0 pc L st G nc ns → am_W p l e R s m args below meth c dC dI dA M A H0 ad0 n0 QW pc L st G nc ns) {C : am_C} {Q : Option Value → am_G → Prop} {X : am_P} {pc npc a b t u pos : Nat} {cv : Int32} {cl : Int64} {L : am_L} {st : List Value} {G : am_G} {nc ns : Nat} (hd : decode (am_mb M) pc = .ok (.imul, am_len (.imul) (npc - pc))) (hn : npc = pc + am_len (.imul) (npc - pc)) (hok : am_okX MT M pc (.imul) a b t u pos cv cl = true) (h : am_ins C M scr Q X P0 pc (.imul) npc a b t u cv cl L st G nc ns) : am_W p l e R s m args below meth c dC dI dA M A H0 ad0 n0 QW pc L st G nc ns := by
  obtain ⟨hx, hb, hml, hown, hts, hini, hK, hKX, hRc, hRs, hRf, hRl⟩ := hC
  have hn : npc = pc + 1 := hn
  subst hn
  simp only [am_ins] at h
  split at h
  · intro ad H locs ls hrel hn0 hw hnd hL hcs
    exact lv_imul hx hb hd (hm _ _ _ _ _ _ h ad H locs ls hrel hn0 hw hnd hL hcs)
  · exact h.elim

theorem am_i_iand (hC : am_Ctx p R s m args meth c dC dI dA d M) {P0 : am_P} (hm : ∀ pc L st G nc ns, P0 pc L st G nc ns → am_W p l e R s m args below meth c dC dI dA M A H0 ad0 n0 QW pc L st G nc ns) {C : am_C} {Q : Option Value → am_G → Prop} {X : am_P} {pc npc a b t u pos : Nat} {cv : Int32} {cl : Int64} {L : am_L} {st : List Value} {G : am_G} {nc ns : Nat} (hd : decode (am_mb M) pc = .ok (.iand, am_len (.iand) (npc - pc))) (hn : npc = pc + am_len (.iand) (npc - pc)) (hok : am_okX MT M pc (.iand) a b t u pos cv cl = true) (h : am_ins C M scr Q X P0 pc (.iand) npc a b t u cv cl L st G nc ns) : am_W p l e R s m args below meth c dC dI dA M A H0 ad0 n0 QW pc L st G nc ns := by
  obtain ⟨hx, hb, hml, hown, hts, hini, hK, hKX, hRc, hRs, hRf, hRl⟩ := hC
  have hn : npc = pc + 1 := hn
  subst hn
  simp only [am_ins] at h
  split at h
  · intro ad H locs ls hrel hn0 hw hnd hL hcs
    exact lv_iand hx hb hd (hm _ _ _ _ _ _ h ad H locs ls hrel hn0 hw hnd hL hcs)
  · exact h.elim

theorem am_i_ior (hC : am_Ctx p R s m args meth c dC dI dA d M) {P0 : am_P} (hm : ∀ pc L st G nc ns, P0 pc L st G nc ns → am_W p l e R s m args below meth c dC dI dA M A H0 ad0 n0 QW pc L st G nc ns) {C : am_C} {Q : Option Value → am_G → Prop} {X : am_P} {pc npc a b t u pos : Nat} {cv : Int32} {cl : Int64} {L : am_L} {st : List Value} {G : am_G} {nc ns : Nat} (hd : decode (am_mb M) pc = .ok (.ior, am_len (.ior) (npc - pc))) (hn : npc = pc + am_len (.ior) (npc - pc)) (hok : am_okX MT M pc (.ior) a b t u pos cv cl = true) (h : am_ins C M scr Q X P0 pc (.ior) npc a b t u cv cl L st G nc ns) : am_W p l e R s m args below meth c dC dI dA M A H0 ad0 n0 QW pc L st G nc ns := by
  obtain ⟨hx, hb, hml, hown, hts, hini, hK, hKX, hRc, hRs, hRf, hRl⟩ := hC
  have hn : npc = pc + 1 := hn
  subst hn
  simp only [am_ins] at h
  split at h
  · intro ad H locs ls hrel hn0 hw hnd hL hcs
    exact lv_ior hx hb hd (hm _ _ _ _ _ _ h ad H locs ls hrel hn0 hw hnd hL hcs)
  · exact h.elim

theorem am_i_ixor (hC : am_Ctx p R s m args meth c dC dI dA d M) {P0 : am_P} (hm : ∀ pc L st G nc ns, P0 pc L st G nc ns → am_W p l e R s m args below meth c dC dI dA M A H0 ad0 n0 QW pc L st G nc ns) {C : am_C} {Q : Option Value → am_G → Prop} {X : am_P} {pc npc a b t u pos : Nat} {cv : Int32} {cl : Int64} {L : am_L} {st : List Value} {G : am_G} {nc ns : Nat} (hd : decode (am_mb M) pc = .ok (.ixor, am_len (.ixor) (npc - pc))) (hn : npc = pc + am_len (.ixor) (npc - pc)) (hok : am_okX MT M pc (.ixor) a b t u pos cv cl = true) (h : am_ins C M scr Q X P0 pc (.ixor) npc a b t u cv cl L st G nc ns) : am_W p l e R s m args below meth c dC dI dA M A H0 ad0 n0 QW pc L st G nc ns := by
  obtain ⟨hx, hb, hml, hown, hts, hini, hK, hKX, hRc, hRs, hRf, hRl⟩ := hC
  have hn : npc = pc + 1 := hn
  subst hn
  simp only [am_ins] at h
  split at h
  · intro ad H locs ls hrel hn0 hw hnd hL hcs
    exact lv_ixor hx hb hd (hm _ _ _ _ _ _ h ad H locs ls hrel hn0 hw hnd hL hcs)
  · exact h.elim

theorem am_i_ishl (hC : am_Ctx p R s m args meth c dC dI dA d M) {P0 : am_P} (hm : ∀ pc L st G nc ns, P0 pc L st G nc ns → am_W p l e R s m args below meth c dC dI dA M A H0 ad0 n0 QW pc L st G nc ns) {C : am_C} {Q : Option Value → am_G → Prop} {X : am_P} {pc npc a b t u pos : Nat} {cv : Int32} {cl : Int64} {L : am_L} {st : List Value} {G : am_G} {nc ns : Nat} (hd : decode (am_mb M) pc = .ok (.ishl, am_len (.ishl) (npc - pc))) (hn : npc = pc + am_len (.ishl) (npc - pc)) (hok : am_okX MT M pc (.ishl) a b t u pos cv cl = true) (h : am_ins C M scr Q X P0 pc (.ishl) npc a b t u cv cl L st G nc ns) : am_W p l e R s m args below meth c dC dI dA M A H0 ad0 n0 QW pc L st G nc ns := by
  obtain ⟨hx, hb, hml, hown, hts, hini, hK, hKX, hRc, hRs, hRf, hRl⟩ := hC
  have hn : npc = pc + 1 := hn
  subst hn
  simp only [am_ins] at h
  split at h
  · intro ad H locs ls hrel hn0 hw hnd hL hcs
    exact lv_ishl hx hb hd (hm _ _ _ _ _ _ h ad H locs ls hrel hn0 hw hnd hL hcs)
  · exact h.elim

theorem am_i_ishr (hC : am_Ctx p R s m args meth c dC dI dA d M) {P0 : am_P} (hm : ∀ pc L st G nc ns, P0 pc L st G nc ns → am_W p l e R s m args below meth c dC dI dA M A H0 ad0 n0 QW pc L st G nc ns) {C : am_C} {Q : Option Value → am_G → Prop} {X : am_P} {pc npc a b t u pos : Nat} {cv : Int32} {cl : Int64} {L : am_L} {st : List Value} {G : am_G} {nc ns : Nat} (hd : decode (am_mb M) pc = .ok (.ishr, am_len (.ishr) (npc - pc))) (hn : npc = pc + am_len (.ishr) (npc - pc)) (hok : am_okX MT M pc (.ishr) a b t u pos cv cl = true) (h : am_ins C M scr Q X P0 pc (.ishr) npc a b t u cv cl L st G nc ns) : am_W p l e R s m args below meth c dC dI dA M A H0 ad0 n0 QW pc L st G nc ns := by
  obtain ⟨hx, hb, hml, hown, hts, hini, hK, hKX, hRc, hRs, hRf, hRl⟩ := hC
  have hn : npc = pc + 1 := hn
  subst hn
  simp only [am_ins] at h
  split at h
  · intro ad H locs ls hrel hn0 hw hnd hL hcs
    exact lv_ishr hx hb hd (hm _ _ _ _ _ _ h ad H locs ls hrel hn0 hw hnd hL hcs)
  · exact h.elim

theorem am_i_ladd (hC : am_Ctx p R s m args meth c dC dI dA d M) {P0 : am_P} (hm : ∀ pc L st G nc ns, P0 pc L st G nc ns → am_W p l e R s m args below meth c dC dI dA M A H0 ad0 n0 QW pc L st G nc ns) {C : am_C} {Q : Option Value → am_G → Prop} {X : am_P} {pc npc a b t u pos : Nat} {cv : Int32} {cl : Int64} {L : am_L} {st : List Value} {G : am_G} {nc ns : Nat} (hd : decode (am_mb M) pc = .ok (.ladd, am_len (.ladd) (npc - pc))) (hn : npc = pc + am_len (.ladd) (npc - pc)) (hok : am_okX MT M pc (.ladd) a b t u pos cv cl = true) (h : am_ins C M scr Q X P0 pc (.ladd) npc a b t u cv cl L st G nc ns) : am_W p l e R s m args below meth c dC dI dA M A H0 ad0 n0 QW pc L st G nc ns := by
  obtain ⟨hx, hb, hml, hown, hts, hini, hK, hKX, hRc, hRs, hRf, hRl⟩ := hC
  have hn : npc = pc + 1 := hn
  subst hn
  simp only [am_ins] at h
  split at h
  · intro ad H locs ls hrel hn0 hw hnd hL hcs
    exact lv_ladd hx hb hd (hm _ _ _ _ _ _ h ad H locs ls hrel hn0 hw hnd hL hcs)
  · exact h.elim

theorem am_i_lsub (hC : am_Ctx p R s m args meth c dC dI dA d M) {P0 : am_P} (hm : ∀ pc L st G nc ns, P0 pc L st G nc ns → am_W p l e R s m args below meth c dC dI dA M A H0 ad0 n0 QW pc L st G nc ns) {C : am_C} {Q : Option Value → am_G → Prop} {X : am_P} {pc npc a b t u pos : Nat} {cv : Int32} {cl : Int64} {L : am_L} {st : List Value} {G : am_G} {nc ns : Nat} (hd : decode (am_mb M) pc = .ok (.lsub, am_len (.lsub) (npc - pc))) (hn : npc = pc + am_len (.lsub) (npc - pc)) (hok : am_okX MT M pc (.lsub) a b t u pos cv cl = true) (h : am_ins C M scr Q X P0 pc (.lsub) npc a b t u cv cl L st G nc ns) : am_W p l e R s m args below meth c dC dI dA M A H0 ad0 n0 QW pc L st G nc ns := by
  obtain ⟨hx, hb, hml, hown, hts, hini, hK, hKX, hRc, hRs, hRf, hRl⟩ := hC
  have hn : npc = pc + 1 := hn
  subst hn
  simp only [am_ins] at h
  split at h
  · intro ad H locs ls hrel hn0 hw hnd hL hcs
    exact lv_lsub hx hb hd (hm _ _ _ _ _ _ h ad H locs ls hrel hn0 hw hnd hL hcs)
  · exact h.elim

theorem am_i_lmul (hC : am_Ctx p R s m args meth c dC dI dA d M) {P0 : am_P} (hm : ∀ pc L st G nc ns, P0 pc L st G nc ns → am_W p l e R s m args below meth c dC dI dA M A H0 ad0 n0 QW pc L st G nc ns) {C : am_C} {Q : Option Value → am_G → Prop} {X : am_P} {pc npc a b t u pos : Nat} {cv : Int32} {cl : Int64} {L : am_L} {st : List Value} {G : am_G} {nc ns : Nat} (hd : decode (am_mb M) pc = .ok (.lmul, am_len (.lmul) (npc - pc))) (hn : npc = pc + am_len (.lmul) (npc - pc)) (hok : am_okX MT M pc (.lmul) a b t u pos cv cl = true) (h : am_ins C M scr Q X P0 pc (.lmul) npc a b t u cv cl L st G nc ns) : am_W p l e R s m args below meth c dC dI dA M A H0 ad0 n0 QW pc L st G nc ns := by
  obtain ⟨hx, hb, hml, hown, hts, hini, hK, hKX, hRc, hRs, hRf, hRl⟩ := hC
  have hn : npc = pc + 1 := hn
  subst hn
  simp only [am_ins] at h
  split at h
  · intro ad H locs ls hrel hn0 hw hnd hL hcs
    exact lv_lmul hx hb hd (hm _ _ _ _ _ _ h ad H locs ls hrel hn0 hw hnd hL hcs)
  · exact h.elim

theorem am_i_ineg (hC : am_Ctx p R s m args meth c dC dI dA d M) {P0 : am_P} (hm : ∀ pc L st G nc ns, P0 pc L st G nc ns → am_W p l e R s m args below meth c dC dI dA M A H0 ad0 n0 QW pc L st G nc ns) {C : am_C} {Q : Option Value → am_G → Prop} {X : am_P} {pc npc a b t u pos : Nat} {cv : Int32} {cl : Int64} {L : am_L} {st : List Value} {G : am_G} {nc ns : Nat} (hd : decode (am_mb M) pc = .ok (.ineg, am_len (.ineg) (npc - pc))) (hn : npc = pc + am_len (.ineg) (npc - pc)) (hok : am_okX MT M pc (.ineg) a b t u pos cv cl = true) (h : am_ins C M scr Q X P0 pc (.ineg) npc a b t u cv cl L st G nc ns) : am_W p l e R s m args below meth c dC dI dA M A H0 ad0 n0 QW pc L st G nc ns := by
  obtain ⟨hx, hb, hml, hown, hts, hini, hK, hKX, hRc, hRs, hRf, hRl⟩ := hC
  have hn : npc = pc + 1 := hn
  subst hn
  simp only [am_ins] at h
  split at h
  · intro ad H locs ls hrel hn0 hw hnd hL hcs
    exact lv_ineg hx hb hd (hm _ _ _ _ _ _ h ad H locs ls hrel hn0 hw hnd hL hcs)
  · exact h.elim

theorem am_i_lneg (hC : am_Ctx p R s m args meth c dC dI dA d M) {P0 : am_P} (hm : ∀ pc L st G nc ns, P0 pc L st G nc ns → am_W p l e R s m args below meth c dC dI dA M A H0 ad0 n0 QW pc L st G nc ns) {C : am_C} {Q : Option Value → am_G → Prop} {X : am_P} {pc npc a b t u pos : Nat} {cv : Int32} {cl : Int64} {L : am_L} {st : List Value} {G : am_G} {nc ns : Nat} (hd : decode (am_mb M) pc = .ok (.lneg, am_len (.lneg) (npc - pc))) (hn : npc = pc + am_len (.lneg) (npc - pc)) (hok : am_okX MT M pc (.lneg) a b t u pos cv cl = true) (h : am_ins C M scr Q X P0 pc (.lneg) npc a b t u cv cl L st G nc ns) : am_W p l e R s m args below meth c dC dI dA M A H0 ad0 n0 QW pc L st G nc ns := by
  obtain ⟨hx, hb, hml, hown, hts, hini, hK, hKX, hRc, hRs, hRf, hRl⟩ := hC
  have hn : npc = pc + 1 := hn
  subst hn
  simp only [am_ins] at h
  split at h
  · intro ad H locs ls hrel hn0 hw hnd hL hcs
    exact lv_lneg hx hb hd (hm _ _ _ _ _ _ h ad H locs ls hrel hn0 hw hnd hL hcs)
  · exact h.elim

theorem am_i_lcmp (hC : am_Ctx p R s m args meth c dC dI dA d M) {P0 : am_P} (hm : ∀ pc L st G nc ns, P0 pc L st G nc ns → am_W p l e R s m args below meth c dC dI dA M A H0 ad0 n0 QW pc L st G nc ns) {C : am_C} {Q : Option Value → am_G → Prop} {X : am_P} {pc npc a b t u pos : Nat} {cv : Int32} {cl : Int64} {L : am_L} {st : List Value} {G : am_G} {nc ns : Nat} (hd : decode (am_mb M) pc = .ok (.lcmp, am_len (.lcmp) (npc - pc))) (hn : npc = pc + am_len (.lcmp) (npc - pc)) (hok : am_okX MT M pc (.lcmp) a b t u pos cv cl = true) (h : am_ins C M scr Q X P0 pc (.lcmp) npc a b t u cv cl L st G nc ns) : am_W p l e R s m args below meth c dC dI dA M A H0 ad0 n0 QW pc L st G nc ns := by
  obtain ⟨hx, hb, hml, hown, hts, hini, hK, hKX, hRc, hRs, hRf, hRl⟩ := hC
  have hn : npc = pc + 1 := hn
  subst hn
  simp only [am_ins] at h
  split at h
  · intro ad H locs ls hrel hn0 hw hnd hL hcs
    exact W.lcmp hx hb hd (hm _ _ _ _ _ _ h ad H locs ls hrel hn0 hw hnd hL hcs)
  · exact h.elim

theorem am_i_iushr (hC : am_Ctx p R s m args meth c dC dI dA d M) {P0 : am_P} (hm : ∀ pc L st G nc ns, P0 pc L st G nc ns → am_W p l e R s m args below meth c dC dI dA M A H0 ad0 n0 QW pc L st G nc ns) {C : am_C} {Q : Option Value → am_G → Prop} {X : am_P} {pc npc a b t u pos : Nat} {cv : Int32} {cl : Int64} {L : am_L} {st : List Value} {G : am_G} {nc ns : Nat} (hd : decode (am_mb M) pc = .ok (.iushr, am_len (.iushr) (npc - pc))) (hn : npc = pc + am_len (.iushr) (npc - pc)) (hok : am_okX MT M pc (.iushr) a b t u pos cv cl = true) (h : am_ins C M scr Q X P0 pc (.iushr) npc a b t u cv cl L st G nc ns) : am_W p l e R s m args below meth c dC dI dA M A H0 ad0 n0 QW pc L st G nc ns := by
  obtain ⟨hx, hb, hml, hown, hts, hini, hK, hKX, hRc, hRs, hRf, hRl⟩ := hC
  have hn : npc = pc + 1 := hn
  subst hn
  simp only [am_ins] at h
  split at h
  · intro ad H locs ls hrel hn0 hw hnd hL hcs
    exact lv_iushr hx hb hd rfl (hm _ _ _ _ _ _ h ad H locs ls hrel hn0 hw hnd hL hcs)
  · exact h.elim

theorem am_i_i2l (hC : am_Ctx p R s m args meth c dC dI dA d M) {P0 : am_P} (hm : ∀ pc L st G nc ns, P0 pc L st G nc ns → am_W p l e R s m args below meth c dC dI dA M A H0 ad0 n0 QW pc L st G nc ns) {C : am_C} {Q : Option Value → am_G → Prop} {X : am_P} {pc npc a b t u pos : Nat} {cv : Int32} {cl : Int64} {L : am_L} {st : List Value} {G : am_G} {nc ns : Nat} (hd : decode (am_mb M) pc = .ok (.i2l, am_len (.i2l) (npc - pc))) (hn : npc = pc + am_len (.i2l) (npc - pc)) (hok : am_okX MT M pc (.i2l) a b t u pos cv cl = true) (h : am_ins C M scr Q X P0 pc (.i2l) npc a b t u cv cl L st G nc ns) : am_W p l e R s m args below meth c dC dI dA M A H0 ad0 n0 QW pc L st G nc ns := by
  obtain ⟨hx, hb, hml, hown, hts, hini, hK, hKX, hRc, hRs, hRf, hRl⟩ := hC
  have hn : npc = pc + 1 := hn
  subst hn
  simp only [am_ins] at h
  split at h
  · intro ad H locs ls hrel hn0 hw hnd hL hcs
    exact lv_i2l hx hb hd rfl (hm _ _ _ _ _ _ h ad H locs ls hrel hn0 hw hnd hL hcs)
  · exact h.elim

theorem am_i_i2b (hC : am_Ctx p R s m args meth c dC dI dA d M) {P0 : am_P} (hm : ∀ pc L st G nc ns, P0 pc L st G nc ns → am_W p l e R s m args below meth c dC dI dA M A H0 ad0 n0 QW pc L st G nc ns) {C : am_C} {Q : Option Value → am_G → Prop} {X : am_P} {pc npc a b t u pos : Nat} {cv : Int32} {cl : Int64} {L : am_L} {st : List Value} {G : am_G} {nc ns : Nat} (hd : decode (am_mb M) pc = .ok (.i2b, am_len (.i2b) (npc - pc))) (hn : npc = pc + am_len (.i2b) (npc - pc)) (hok : am_okX MT M pc (.i2b) a b t u pos cv cl = true) (h : am_ins C M scr Q X P0 pc (.i2b) npc a b t u cv cl L st G nc ns) : am_W p l e R s m args below meth c dC dI dA M A H0 ad0 n0 QW pc L st G nc ns := by
  obtain ⟨hx, hb, hml, hown, hts, hini, hK, hKX, hRc, hRs, hRf, hRl⟩ := hC
  have hn : npc = pc + 1 := hn
  subst hn
  simp only [am_ins] at h
  split at h
  · intro ad H locs ls hrel hn0 hw hnd hL hcs
    exact lv_i2b hx hb hd rfl (hm _ _ _ _ _ _ h ad H locs ls hrel hn0 hw hnd hL hcs)
  · exact h.elim

theorem am_i_i2s (hC : am_Ctx p R s m args meth c dC dI dA d M) {P0 : am_P} (hm : ∀ pc L st G nc ns, P0 pc L st G nc ns → am_W p l e R s m args below meth c dC dI dA M A H0 ad0 n0 QW pc L st G nc ns) {C : am_C} {Q : Option Value → am_G → Prop} {X : am_P} {pc npc a b t u pos : Nat} {cv : Int32} {cl : Int64} {L : am_L} {st : List Value} {G : am_G} {nc ns : Nat} (hd : decode (am_mb M) pc = .ok (.i2s, am_len (.i2s) (npc - pc))) (hn : npc = pc + am_len (.i2s) (npc - pc)) (hok : am_okX MT M pc (.i2s) a b t u pos cv cl = true) (h : am_ins C M scr Q X P0 pc (.i2s) npc a b t u cv cl L st G nc ns) : am_W p l e R s m args below meth c dC dI dA M A H0 ad0 n0 QW pc L st G nc ns := by
  obtain ⟨hx, hb, hml, hown, hts, hini, hK, hKX, hRc, hRs, hRf, hRl⟩ := hC
  have hn : npc = pc + 1 := hn
  subst hn
  simp only [am_ins] at h
  split at h
  · intro ad H locs ls hrel hn0 hw hnd hL hcs
    exact lv_i2s hx hb hd rfl (hm _ _ _ _ _ _ h ad H locs ls hrel hn0 hw hnd hL hcs)
  · exact h.elim

theorem am_i_i2c (hC : am_Ctx p R s m args meth c dC dI dA d M) {P0 : am_P} (hm : ∀ pc L st G nc ns, P0 pc L st G nc ns → am_W p l e R s m args below meth c dC dI dA M A H0 ad0 n0 QW pc L st G nc ns) {C : am_C} {Q : Option Value → am_G → Prop} {X : am_P} {pc npc a b t u pos : Nat} {cv : Int32} {cl : Int64} {L : am_L} {st : List Value} {G : am_G} {nc ns : Nat} (hd : decode (am_mb M) pc = .ok (.i2c, am_len (.i2c) (npc - pc))) (hn : npc = pc + am_len (.i2c) (npc - pc)) (hok : am_okX MT M pc (.i2c) a b t u pos cv cl = true) (h : am_ins C M scr Q X P0 pc (.i2c) npc a b t u cv cl L st G nc ns) : am_W p l e R s m args below meth c dC dI dA M A H0 ad0 n0 QW pc L st G nc ns := by
  obtain ⟨hx, hb, hml, hown, hts, hini, hK, hKX, hRc, hRs, hRf, hRl⟩ := hC
  have hn : npc = pc + 1 := hn
  subst hn
  simp only [am_ins] at h
  split at h
  · intro ad H locs ls hrel hn0 hw hnd hL hcs
    exact lv_i2c hx hb hd rfl (hm _ _ _ _ _ _ h ad H locs ls hrel hn0 hw hnd hL hcs)
  · exact h.elim

theorem am_i_idiv (hC : am_Ctx p R s m args meth c dC dI dA d M) {P0 : am_P} (hm : ∀ pc L st G nc ns, P0 pc L st G nc ns → am_W p l e R s m args below meth c dC dI dA M A H0 ad0 n0 QW pc L st G nc ns) {C : am_C} {Q : Option Value → am_G → Prop} {X : am_P} {pc npc a b t u pos : Nat} {cv : Int32} {cl : Int64} {L : am_L} {st : List Value} {G : am_G} {nc ns : Nat} (hd : decode (am_mb M) pc = .ok (.idiv, am_len (.idiv) (npc - pc))) (hn : npc = pc + am_len (.idiv) (npc - pc)) (hok : am_okX MT M pc (.idiv) a b t u pos cv cl = true) (h : am_ins C M scr Q X P0 pc (.idiv) npc a b t u cv cl L st G nc ns) : am_W p l e R s m args below meth c dC dI dA M A H0 ad0 n0 QW pc L st G nc ns := by
  obtain ⟨hx, hb, hml, hown, hts, hini, hK, hKX, hRc, hRs, hRf, hRl⟩ := hC
  have hn : npc = pc + 1 := hn
  subst hn
  simp only [am_ins] at h
  split at h
  · intro ad H locs ls hrel hn0 hw hnd hL hcs
    exact lv_idiv hx hb hd h.1 (hm _ _ _ _ _ _ h.2 ad H locs ls hrel hn0 hw hnd hL hcs)
  · exact h.elim

theorem am_i_irem (hC : am_Ctx p R s m args meth c dC dI dA d M) {P0 : am_P} (hm : ∀ pc L st G nc ns, P0 pc L st G nc ns → am_W p l e R s m args below meth c dC dI dA M A H0 ad0 n0 QW pc L st G nc ns) {C : am_C} {Q : Option Value → am_G → Prop} {X : am_P} {pc npc a b t u pos : Nat} {cv : Int32} {cl : Int64} {L : am_L} {st : List Value} {G : am_G} {nc ns : Nat} (hd : decode (am_mb M) pc = .ok (.irem, am_len (.irem) (npc - pc))) (hn : npc = pc + am_len (.irem) (npc - pc)) (hok : am_okX MT M pc (.irem) a b t u pos cv cl = true) (h : am_ins C M scr Q X P0 pc (.irem) npc a b t u cv cl L st G nc ns) : am_W p l e R s m args below meth c dC dI dA M A H0 ad0 n0 QW pc L st G nc ns := by
  obtain ⟨hx, hb, hml, hown, hts, hini, hK, hKX, hRc, hRs, hRf, hRl⟩ := hC
  have hn : npc = pc + 1 := hn
  subst hn
  simp only [am_ins] at h
  split at h
  · intro ad H locs ls hrel hn0 hw hnd hL hcs
    exact lv_irem hx hb hd h.1 (hm _ _ _ _ _ _ h.2 ad H locs ls hrel hn0 hw hnd hL hcs)
  · exact h.elim

theorem am_i_ldiv (hC : am_Ctx p R s m args meth c dC dI dA d M) {P0 : am_P} (hm : ∀ pc L st G nc ns, P0 pc L st G nc ns → am_W p l e R s m args below meth c dC dI dA M A H0 ad0 n0 QW pc L st G nc ns) {C : am_C} {Q : Option Value → am_G → Prop} {X : am_P} {pc npc a b t u pos : Nat} {cv : Int32} {cl : Int64} {L : am_L} {st : List Value} {G : am_G} {nc ns : Nat} (hd : decode (am_mb M) pc = .ok (.ldiv, am_len (.ldiv) (npc - pc))) (hn : npc = pc + am_len (.ldiv) (npc - pc)) (hok : am_okX MT M pc (.ldiv) a b t u pos cv cl = true) (h : am_ins C M scr Q X P0 pc (.ldiv) npc a b t u cv cl L st G nc ns) : am_W p l e R s m args below meth c dC dI dA M A H0 ad0 n0 QW pc L st G nc ns := by
  obtain ⟨hx, hb, hml, hown, hts, hini, hK, hKX, hRc, hRs, hRf, hRl⟩ := hC
  have hn : npc = pc + 1 := hn
  subst hn
  simp only [am_ins] at h
  split at h
  · intro ad H locs ls hrel hn0 hw hnd hL hcs
    exact lv_ldiv hx hb hd h.1 (hm _ _ _ _ _ _ h.2 ad H locs ls hrel hn0 hw hnd hL hcs)
  · exact h.elim

theorem am_i_lrem (hC : am_Ctx p R s m args meth c dC dI dA d M) {P0 : am_P} (hm : ∀ pc L st G nc ns, P0 pc L st G nc ns → am_W p l e R s m args below meth c dC dI dA M A H0 ad0 n0 QW pc L st G nc ns) {C : am_C} {Q : Option Value → am_G → Prop} {X : am_P} {pc npc a b t u pos : Nat} {cv : Int32} {cl : Int64} {L : am_L} {st : List Value} {G : am_G} {nc ns : Nat} (hd : decode (am_mb M) pc = .ok (.lrem, am_len (.lrem) (npc - pc))) (hn : npc = pc + am_len (.lrem) (npc - pc)) (hok : am_okX MT M pc (.lrem) a b t u pos cv cl = true) (h : am_ins C M scr Q X P0 pc (.lrem) npc a b t u cv cl L st G nc ns) : am_W p l e R s m args below meth c dC dI dA M A H0 ad0 n0 QW pc L st G nc ns := by
  obtain ⟨hx, hb, hml, hown, hts, hini, hK, hKX, hRc, hRs, hRf, hRl⟩ := hC
  have hn : npc = pc + 1 := hn
  subst hn
  simp only [am_ins] at h
  split at h
  · intro ad H locs ls hrel hn0 hw hnd hL hcs
    exact lv_lrem hx hb hd h.1 (hm _ _ _ _ _ _ h.2 ad H locs ls hrel hn0 hw hnd hL hcs)
  · exact h.elim

theorem am_i_dup (hC : am_Ctx p R s m args meth c dC dI dA d M) {P0 : am_P} (hm : ∀ pc L st G nc ns, P0 pc L st G nc ns → am_W p l e R s m args below meth c dC dI dA M A H0 ad0 n0 QW pc L st G nc ns) {C : am_C} {Q : Option Value → am_G → Prop} {X : am_P} {pc npc a b t u pos : Nat} {cv : Int32} {cl : Int64} {L : am_L} {st : List Value} {G : am_G} {nc ns : Nat} (hd : decode (am_mb M) pc = .ok (.dup, am_len (.dup) (npc - pc))) (hn : npc = pc + am_len (.dup) (npc - pc)) (hok : am_okX MT M pc (.dup) a b t u pos cv cl = true) (h : am_ins C M scr Q X P0 pc (.dup) npc a b t u cv cl L st G nc ns) : am_W p l e R s m args below meth c dC dI dA M A H0 ad0 n0 QW pc L st G nc ns := by
  obtain ⟨hx, hb, hml, hown, hts, hini, hK, hKX, hRc, hRs, hRf, hRl⟩ := hC
  have hn : npc = pc + 1 := hn
  subst hn
  simp only [am_ins] at h
  split at h
  · split at h
    · rename_i v _ _ hc
      intro ad H locs ls hrel hn0 hw hnd hL hcs
      exact lv_dup hx hb hd ((am_cat ad v).trans hc) (hm _ _ _ _ _ _ h ad H locs ls hrel hn0 hw hnd hL hcs)
    · exact h.elim
  · exact h.elim

theorem am_i_pop (hC : am_Ctx p R s m args meth c dC dI dA d M) {P0 : am_P} (hm : ∀ pc L st G nc ns, P0 pc L st G nc ns → am_W p l e R s m args below meth c dC dI dA M A H0 ad0 n0 QW pc L st G nc ns) {C : am_C} {Q : Option Value → am_G → Prop} {X : am_P} {pc npc a b t u pos : Nat} {cv : Int32} {cl : Int64} {L : am_L} {st : List Value} {G : am_G} {nc ns : Nat} (hd : decode (am_mb M) pc = .ok (.pop, am_len (.pop) (npc - pc))) (hn : npc = pc + am_len (.pop) (npc - pc)) (hok : am_okX MT M pc (.pop) a b t u pos cv cl = true) (h : am_ins C M scr Q X P0 pc (.pop) npc a b t u cv cl L st G nc ns) : am_W p l e R s m args below meth c dC dI dA M A H0 ad0 n0 QW pc L st G nc ns := by
  obtain ⟨hx, hb, hml, hown, hts, hini, hK, hKX, hRc, hRs, hRf, hRl⟩ := hC
  have hn : npc = pc + 1 := hn
  subst hn
  simp only [am_ins] at h
  split at h
  · split at h
    · rename_i v _ _ hc
      intro ad H locs ls hrel hn0 hw hnd hL hcs
      exact lv_pop hx hb hd ((am_cat ad v).trans hc) (hm _ _ _ _ _ _ h ad H locs ls hrel hn0 hw hnd hL hcs)
    · exact h.elim
  · exact h.elim

theorem am_i_dup2 (hC : am_Ctx p R s m args meth c dC dI dA d M) {P0 : am_P} (hm : ∀ pc L st G nc ns, P0 pc L st G nc ns → am_W p l e R s m args below meth c dC dI dA M A H0 ad0 n0 QW pc L st G nc ns) {C : am_C} {Q : Option Value → am_G → Prop} {X : am_P} {pc npc a b t u pos : Nat} {cv : Int32} {cl : Int64} {L : am_L} {st : List Value} {G : am_G} {nc ns : Nat} (hd : decode (am_mb M) pc = .ok (.dup2, am_len (.dup2) (npc - pc))) (hn : npc = pc + am_len (.dup2) (npc - pc)) (hok : am_okX MT M pc (.dup2) a b t u pos cv cl = true) (h : am_ins C M scr Q X P0 pc (.dup2) npc a b t u cv cl L st G nc ns) : am_W p l e R s m args below meth c dC dI dA M A H0 ad0 n0 QW pc L st G nc ns := by
  obtain ⟨hx, hb, hml, hown, hts, hini, hK, hKX, hRc, hRs, hRf, hRl⟩ := hC
  have hn : npc = pc + 1 := hn
  subst hn
  simp only [am_ins] at h
  split at h
  · split at h
    · rename_i v w _ _ _ hc1 hc2
      intro ad H locs ls hrel hn0 hw hnd hL hcs
      exact lv_dup2_11 hx hb hd ((am_cat ad v).trans hc1) ((am_cat ad w).trans hc2) (hm _ _ _ _ _ _ h ad H locs ls hrel hn0 hw hnd hL hcs)
    · exact h.elim
  · exact h.elim

theorem am_i_ifCond {o : Jvm.ClassFile.Cond} {off : Int} (hC : am_Ctx p R s m args meth c dC dI dA d M) {P0 : am_P} (hm : ∀ pc L st G nc ns, P0 pc L st G nc ns → am_W p l e R s m args below meth c dC dI dA M A H0 ad0 n0 QW pc L st G nc ns) {C : am_C} {Q : Option Value → am_G → Prop} {X : am_P} {pc npc a b t u pos : Nat} {cv : Int32} {cl : Int64} {L : am_L} {st : List Value} {G : am_G} {nc ns : Nat} (hd : decode (am_mb M) pc = .ok (.ifCond o off, am_len (.ifCond o off) (npc - pc))) (hn : npc = pc + am_len (.ifCond o off) (npc - pc)) (hok : am_okX MT M pc (.ifCond o off) a b t u pos cv cl = true) (h : am_ins C M scr Q X P0 pc (.ifCond o off) npc a b t u cv cl L st G nc ns) : am_W p l e R s m args below meth c dC dI dA M A H0 ad0 n0 QW pc L st G nc ns := by
  obtain ⟨hx, hb, hml, hown, hts, hini, hK, hKX, hRc, hRs, hRf, hRl⟩ := hC
  have hn : npc = pc + 3 := hn
  subst hn
  simp only [am_okX, decide_eq_true_eq] at hok
  simp only [am_ins] at h
  split at h
  · intro ad H locs ls hrel hn0 hw hnd hL hcs
    cases o with
    | eq => exact lv_if_eq hx hb hd hok (fun q => hm _ _ _ _ _ _ (h.1 q) ad H locs ls hrel hn0 hw hnd hL hcs) (fun q => hm _ _ _ _ _ _ (h.2 q) ad H locs ls hrel hn0 hw hnd hL hcs)
    | ne => exact lv_if_ne hx hb hd hok (fun q => hm _ _ _ _ _ _ (h.1 q) ad H locs ls hrel hn0 hw hnd hL hcs) (fun q => hm _ _ _ _ _ _ (h.2 q) ad H locs ls hrel hn0 hw hnd hL hcs)
    | lt => exact lv_if_lt hx hb hd hok (fun q => hm _ _ _ _ _ _ (h.1 q) ad H locs ls hrel hn0 hw hnd hL hcs) (fun q => hm _ _ _ _ _ _ (h.2 q) ad H locs ls hrel hn0 hw hnd hL hcs)
    | ge => exact lv_if_ge hx hb hd hok (fun q => hm _ _ _ _ _ _ (h.1 q) ad H locs ls hrel hn0 hw hnd hL hcs) (fun q => hm _ _ _ _ _ _ (h.2 q) ad H locs ls hrel hn0 hw hnd hL hcs)
    | gt => exact lv_if_gt hx hb hd hok (fun q => hm _ _ _ _ _ _ (h.1 q) ad H locs ls hrel hn0 hw hnd hL hcs) (fun q => hm _ _ _ _ _ _ (h.2 q) ad H locs ls hrel hn0 hw hnd hL hcs)
    | le => exact lv_if_le hx hb hd hok (fun q => hm _ _ _ _ _ _ (h.1 q) ad H locs ls hrel hn0 hw hnd hL hcs) (fun q => hm _ _ _ _ _ _ (h.2 q) ad H locs ls hrel hn0 hw hnd hL hcs)
  · exact h.elim

theorem am_i_if_icmp {o : Jvm.ClassFile.Cond} {off : Int} (hC : am_Ctx p R s m args meth c dC dI dA d M) {P0 : am_P} (hm : ∀ pc L st G nc ns, P0 pc L st G nc ns → am_W p l e R s m args below meth c dC dI dA M A H0 ad0 n0 QW pc L st G nc ns) {C : am_C} {Q : Option Value → am_G → Prop} {X : am_P} {pc npc a b t u pos : Nat} {cv : Int32} {cl : Int64} {L : am_L} {st : List Value} {G : am_G} {nc ns : Nat} (hd : decode (am_mb M) pc = .ok (.if_icmp o off, am_len (.if_icmp o off) (npc - pc))) (hn : npc = pc + am_len (.if_icmp o off) (npc - pc)) (hok : am_okX MT M pc (.if_icmp o off) a b t u pos cv cl = true) (h : am_ins C M scr Q X P0 pc (.if_icmp o off) npc a b t u cv cl L st G nc ns) : am_W p l e R s m args below meth c dC dI dA M A H0 ad0 n0 QW pc L st G nc ns := by
  obtain ⟨hx, hb, hml, hown, hts, hini, hK, hKX, hRc, hRs, hRf, hRl⟩ := hC
  have hn : npc = pc + 3 := hn
  subst hn
  simp only [am_okX, decide_eq_true_eq] at hok
  simp only [am_ins] at h
  split at h
  · intro ad H locs ls hrel hn0 hw hnd hL hcs
    cases o with
    | eq => exact lv_icmp_eq hx hb hd hok (fun q => hm _ _ _ _ _ _ (h.1 q) ad H locs ls hrel hn0 hw hnd hL hcs) (fun q => hm _ _ _ _ _ _ (h.2 q) ad H locs ls hrel hn0 hw hnd hL hcs)
    | ne => exact lv_icmp_ne hx hb hd hok (fun q => hm _ _ _ _ _ _ (h.1 q) ad H locs ls hrel hn0 hw hnd hL hcs) (fun q => hm _ _ _ _ _ _ (h.2 q) ad H locs ls hrel hn0 hw hnd hL hcs)
    | lt => exact lv_icmp_lt hx hb hd hok (fun q => hm _ _ _ _ _ _ (h.1 q) ad H locs ls hrel hn0 hw hnd hL hcs) (fun q => hm _ _ _ _ _ _ (h.2 q) ad H locs ls hrel hn0 hw hnd hL hcs)
    | ge => exact lv_icmp_ge hx hb hd hok (fun q => hm _ _ _ _ _ _ (h.1 q) ad H locs ls hrel hn0 hw hnd hL hcs) (fun q => hm _ _ _ _ _ _ (h.2 q) ad H locs ls hrel hn0 hw hnd hL hcs)
    | gt => exact lv_icmp_gt hx hb hd hok (fun q => hm _ _ _ _ _ _ (h.1 q) ad H locs ls hrel hn0 hw hnd hL hcs) (fun q => hm _ _ _ _ _ _ (h.2 q) ad H locs ls hrel hn0 hw hnd hL hcs)
    | le => exact lv_icmp_le hx hb hd hok (fun q => hm _ _ _ _ _ _ (h.1 q) ad H locs ls hrel hn0 hw hnd hL hcs) (fun q => hm _ _ _ _ _ _ (h.2 q) ad H locs ls hrel hn0 hw hnd hL hcs)
  · exact h.elim

theorem am_i_ifnull {off : Int} (hC : am_Ctx p R s m args meth c dC dI dA d M) {P0 : am_P} (hm : ∀ pc L st G nc ns, P0 pc L st G nc ns → am_W p l e R s m args below meth c dC dI dA M A H0 ad0 n0 QW pc L st G nc ns) {C : am_C} {Q : Option Value → am_G → Prop} {X : am_P} {pc npc a b t u pos : Nat} {cv : Int32} {cl : Int64} {L : am_L} {st : List Value} {G : am_G} {nc ns : Nat} (hd : decode (am_mb M) pc = .ok (.ifnull off, am_len (.ifnull off) (npc - pc))) (hn : npc = pc + am_len (.ifnull off) (npc - pc)) (hok : am_okX MT M pc (.ifnull off) a b t u pos cv cl = true) (h : am_ins C M scr Q X P0 pc (.ifnull off) npc a b t u cv cl L st G nc ns) : am_W p l e R s m args below meth c dC dI dA M A H0 ad0 n0 QW pc L st G nc ns := by
  obtain ⟨hx, hb, hml, hown, hts, hini, hK, hKX, hRc, hRs, hRf, hRl⟩ := hC
  have hn : npc = pc + 3 := hn
  subst hn
  simp only [am_okX, decide_eq_true_eq] at hok
  simp only [am_ins] at h
  split at h
  · intro ad H locs ls hrel hn0 hw hnd hL hcs
    exact lv_ifnull hx hb hd (hm _ _ _ _ _ _ h ad H locs ls hrel hn0 hw hnd hL hcs)
  · intro ad H locs ls hrel hn0 hw hnd hL hcs
    exact lv_ifnullN hx hb hd hok (hm _ _ _ _ _ _ h ad H locs ls hrel hn0 hw hnd hL hcs)
  · exact h.elim

theorem am_i_ifnonnull {off : Int} (hC : am_Ctx p R s m args meth c dC dI dA d M) {P0 : am_P} (hm : ∀ pc L st G nc ns, P0 pc L st G nc ns → am_W p l e R s m args below meth c dC dI dA M A H0 ad0 n0 QW pc L st G nc ns) {C : am_C} {Q : Option Value → am_G → Prop} {X : am_P} {pc npc a b t u pos : Nat} {cv : Int32} {cl : Int64} {L : am_L} {st : List Value} {G : am_G} {nc ns : Nat} (hd : decode (am_mb M) pc = .ok (.ifnonnull off, am_len (.ifnonnull off) (npc - pc))) (hn : npc = pc + am_len (.ifnonnull off) (npc - pc)) (hok : am_okX MT M pc (.ifnonnull off) a b t u pos cv cl = true) (h : am_ins C M scr Q X P0 pc (.ifnonnull off) npc a b t u cv cl L st G nc ns) : am_W p l e R s m args below meth c dC dI dA M A H0 ad0 n0 QW pc L st G nc ns := by
  obtain ⟨hx, hb, hml, hown, hts, hini, hK, hKX, hRc, hRs, hRf, hRl⟩ := hC
  have hn : npc = pc + 3 := hn
  subst hn
  simp only [am_okX, decide_eq_true_eq] at hok
  simp only [am_ins] at h
  split at h
  · intro ad H locs ls hrel hn0 hw hnd hL hcs
    exact lv_ifnonnull hx hb hd hok (hm _ _ _ _ _ _ h ad H locs ls hrel hn0 hw hnd hL hcs)
  · intro ad H locs ls hrel hn0 hw hnd hL hcs
    exact lv_ifnonnullN hx hb hd (hm _ _ _ _ _ _ h ad H locs ls hrel hn0 hw hnd hL hcs)
  · exact h.elim

theorem am_i_goto {off : Int} (hC : am_Ctx p R s m args meth c dC dI dA d M) {P0 : am_P} (hm : ∀ pc L st G nc ns, P0 pc L st G nc ns → am_W p l e R s m args below meth c dC dI dA M A H0 ad0 n0 QW pc L st G nc ns) {C : am_C} {Q : Option Value → am_G → Prop} {X : am_P} {pc npc a b t u pos : Nat} {cv : Int32} {cl : Int64} {L : am_L} {st : List Value} {G : am_G} {nc ns : Nat} (hd : decode (am_mb M) pc = .ok (.goto off, am_len (.goto off) (npc - pc))) (hn : npc = pc + am_len (.goto off) (npc - pc)) (hok : am_okX MT M pc (.goto off) a b t u pos cv cl = true) (h : am_ins C M scr Q X P0 pc (.goto off) npc a b t u cv cl L st G nc ns) : am_W p l e R s m args below meth c dC dI dA M A H0 ad0 n0 QW pc L st G nc ns := by
  obtain ⟨hx, hb, hml, hown, hts, hini, hK, hKX, hRc, hRs, hRf, hRl⟩ := hC
  have hn : npc = pc + 3 := hn
  subst hn
  simp only [am_okX, decide_eq_true_eq] at hok
  intro ad H locs ls hrel hn0 hw hnd hL hcs
  exact lv_goto hx hb hd hok (hm _ _ _ _ _ _ h ad H locs ls hrel hn0 hw hnd hL hcs)

theorem am_i_tableswitch {df lo hi : Int} {offs : Array Int} (hC : am_Ctx p R s m args meth c dC dI dA d M) {P0 : am_P} (hm : ∀ pc L st G nc ns, P0 pc L st G nc ns → am_W p l e R s m args below meth c dC dI dA M A H0 ad0 n0 QW pc L st G nc ns) {C : am_C} {Q : Option Value → am_G → Prop} {X : am_P} {pc npc a b t u pos : Nat} {cv : Int32} {cl : Int64} {L : am_L} {st : List Value} {G : am_G} {nc ns : Nat} (hd : decode (am_mb M) pc = .ok (.tableswitch df lo hi offs, am_len (.tableswitch df lo hi offs) (npc - pc))) (hn : npc = pc + am_len (.tableswitch df lo hi offs) (npc - pc)) (hok : am_okX MT M pc (.tableswitch df lo hi offs) a b t u pos cv cl = true) (h : am_ins C M scr Q X P0 pc (.tableswitch df lo hi offs) npc a b t u cv cl L st G nc ns) : am_W p l e R s m args below meth c dC dI dA M A H0 ad0 n0 QW pc L st G nc ns := by
  obtain ⟨hx, hb, hml, hown, hts, hini, hK, hKX, hRc, hRs, hRf, hRl⟩ := hC
  simp only [am_okX, Bool.and_eq_true, decide_eq_true_eq] at hok
  simp only [am_ins] at h
  split at h
  · rename_i x _
    intro ad H locs ls hrel hn0 hw hnd hL hcs
    by_cases q : x.toInt < lo ∨ hi < x.toInt
    · exact lv_tableOut hx hb hd q (by simp only [am_tg]; omega) (hm _ _ _ _ _ _ (h.1 q) ad H locs ls hrel hn0 hw hnd hL hcs)
    · have q1 : ¬ x.toInt < lo := fun z => q (Or.inl z)
      have q2 : ¬ hi < x.toInt := fun z => q (Or.inr z)
      cases ho : offs[(x.toInt - lo).toNat]? with
      | none =>
        have h4 := Array.getElem?_eq_none_iff.mp ho
        omega
      | some off =>
        have h3 : 0 ≤ (pc : Int) + off := of_decide_eq_true (List.all_eq_true.mp hok.1.2 off (Array.mem_toList_iff.mpr (Array.mem_of_getElem? ho)))
        exact lv_tableIn hx hb hd q1 q2 ho (by simp only [am_tg]; omega) (hm _ _ _ _ _ _ (h.2 off q1 q2 ho) ad H locs ls hrel hn0 hw hnd hL hcs)
  · exact h.elim

theorem am_i_lookupswitch {df : Int} {ps : Array (Int × Int)} (hC : am_Ctx p R s m args meth c dC dI dA d M) {P0 : am_P} (hm : ∀ pc L st G nc ns, P0 pc L st G nc ns → am_W p l e R s m args below meth c dC dI dA M A H0 ad0 n0 QW pc L st G nc ns) {C : am_C} {Q : Option Value → am_G → Prop} {X : am_P} {pc npc a b t u pos : Nat} {cv : Int32} {cl : Int64} {L : am_L} {st : List Value} {G : am_G} {nc ns : Nat} (hd : decode (am_mb M) pc = .ok (.lookupswitch df ps, am_len (.lookupswitch df ps) (npc - pc))) (hn : npc = pc + am_len (.lookupswitch df ps) (npc - pc)) (hok : am_okX MT M pc (.lookupswitch df ps) a b t u pos cv cl = true) (h : am_ins C M scr Q X P0 pc (.lookupswitch df ps) npc a b t u cv cl L st G nc ns) : am_W p l e R s m args below meth c dC dI dA M A H0 ad0 n0 QW pc L st G nc ns := by
  obtain ⟨hx, hb, hml, hown, hts, hini, hK, hKX, hRc, hRs, hRf, hRl⟩ := hC
  simp only [am_okX, Bool.and_eq_true, decide_eq_true_eq] at hok
  simp only [am_ins] at h
  split at h
  · rename_i x _
    intro ad H locs ls hrel hn0 hw hnd hL hcs
    have hz : 0 ≤ (pc : Int) + Op.lookupswitch.offset ps.toList df x.toInt := by
      have key : ∀ q : List (Int × Int), (∀ o ∈ q, 0 ≤ (pc : Int) + o.2) → 0 ≤ (pc : Int) + Op.lookupswitch.offset q df x.toInt := by
        intro q
        induction q with
        | nil => intro _; exact hok.1.2
        | cons y q ih =>
          intro hq
          simp only [Op.lookupswitch.offset]
          split
          · exact hq y List.mem_cons_self
          · exact ih (fun o ho => hq o (List.mem_cons_of_mem _ ho))
      exact key _ (fun o ho => of_decide_eq_true (List.all_eq_true.mp hok.2 o ho))
    exact lv_lookup hx hb hd hok.1.1 rfl (by simp only [am_tg]; omega) (hm _ _ _ _ _ _ h ad H locs ls hrel hn0 hw hnd hL hcs)
  · exact h.elim

theorem am_i_getfield {idx : Nat} (hC : am_Ctx p R s m args meth c dC dI dA d M) {P0 : am_P} (hm : ∀ pc L st G nc ns, P0 pc L st G nc ns → am_W p l e R s m args below meth c dC dI dA M A H0 ad0 n0 QW pc L st G nc ns) {C : am_C} {Q : Option Value → am_G → Prop} {X : am_P} {pc npc a b t u pos : Nat} {cv : Int32} {cl : Int64} {L : am_L} {st : List Value} {G : am_G} {nc ns : Nat} (hd : decode (am_mb M) pc = .ok (.getfield idx, am_len (.getfield idx) (npc - pc))) (hn : npc = pc + am_len (.getfield idx) (npc - pc)) (hok : am_okX MT M pc (.getfield idx) a b t u pos cv cl = true) (h : am_ins C M scr Q X P0 pc (.getfield idx) npc a b t u cv cl L st G nc ns) : am_W p l e R s m args below meth c dC dI dA M A H0 ad0 n0 QW pc L st G nc ns := by
  obtain ⟨hx, hb, hml, hown, hts, hini, hK, hKX, hRc, hRs, hRf, hRl⟩ := hC
  have hn : npc = pc + 3 := hn
  subst hn
  obtain ⟨Cn, T, N, hc, hbN, hT, hlk⟩ := am_fld_ok hok
  simp only [am_ins] at h
  split at h
  · split at h
    · rename_i o _ _ ci fs hG
      obtain ⟨rfl, h⟩ := h
      split at h
      · rename_i v hv
        intro ad H locs ls hrel hn0 hw hnd hL hcs
        exact va_get hx hb hts (am_cls_ok hc).1 hown hK hw.1 o (am_cw_get hG) hc b hbN (hts _ hlk) (fun x hx => by rw [hT] at hx; exact hx) (v := am_cv ad v) (by rw [List.getElem?_map, hv]; rfl) hd (hm _ _ _ _ _ _ h ad H locs ls hrel hn0 hw hnd hL hcs)
      · exact h.elim
    · exact h.elim
  · exact h.elim

theorem am_putv (hC : am_Ctx p R s m args meth c dC dI dA d M) {P0 : am_P} (hm : ∀ pc L st G nc ns, P0 pc L st G nc ns → am_W p l e R s m args below meth c dC dI dA M A H0 ad0 n0 QW pc L st G nc ns) {pc b o ci idx : Nat} {L : am_L} {st : List Value} {G : am_G} {nc ns : Nat} {fs : List Value} {v : Value} {Cn : String} {T : u_T} {N : Nat} {ty : FieldType} (hd : decode (am_mb M) pc = .ok (.putfield idx, 3)) (hc : vwCl[ci]? = some (Cn, T, N)) (hbN : b < N) (hT : (T b).1 = Cn) (hlk : Jvm.Cond.fieldLink (am_my M).cls idx Cn (T b).2.1 (T b).2.2.1 ∈ am_U) (hfin : (T b).2.2.2 = false ∨ (am_my M).name = "<init>" ∧ (T b).1 = (am_my M).cls) (hpd : parseFieldDescriptor (T b).2.2.1 = some ty) (hG : G[o]? = some (.inr (.inr (.inr (ci, fs))))) (hlen : b < fs.length) (hnar : ∀ ad : Nat → Nat, narrow ty (am_cv ad v) = am_cv ad v) (hfit : ∀ ad : Nat → Nat, fits ty (am_cv ad v) = true) (h : P0 (pc + 3) L st (G.set o (.inr (.inr (.inr (ci, fs.set b v))))) nc ns) : am_W p l e R s m args below meth c dC dI dA M A H0 ad0 n0 QW pc L (v :: .ref o :: st) G nc ns := by
  obtain ⟨hx, hb, hml, hown, hts, hini, hK, hKX, hRc, hRs, hRf, hRl⟩ := hC
  obtain ⟨ty0, hty0, hnm, -⟩ := (am_cls_ok hc).2
  intro ad H locs ls hrel hn0 hw hnd hL hcs
  have hkk : ∀ (H1 : Heap) (locs1 : List Loc), va_P (dC, dI) vwCl ((am_cw dA ad G).set o (ad o, .inr (ci, (fs.map (am_cv ad)).set b (am_cv ad v)))) H1 → va_D A ((am_cw dA ad G).set o (ad o, .inr (ci, (fs.map (am_cv ad)).set b (am_cv ad v)))) → va_S A H0 H1 locs1 → W p l e R s m args below meth c H1 locs1 nc ns QW (F0 m (pc + 3) ls (st.map (am_cv ad))) := fun H1 locs1 h1 h2 h3 => hm _ _ _ _ _ _ h ad H1 locs1 ls hrel (by rw [List.length_set]; exact hn0) ⟨by rw [← am_set_O]; exact h1, by rw [← am_set_O]; exact h2, h3⟩ hnd hL hcs
  cases hff : (T b).2.2.2 with
  | false => exact va_put hx hb hts (am_cls_ok hc).1 ty0 hty0 hnm hown hK hw.1 hw.2.1 hw.2.2 o (am_cw_get hG) hc b hbN (hts _ hlk) (fun x hx => by rw [hT] at hx; exact hx) hff hpd (hnar ad) (hfit ad) (by rw [List.length_map]; exact hlen) hd hkk
  | true =>
    rcases hfin with hfin | ⟨hfin, hdc⟩
    · rw [hfin] at hff
      cases hff
    · exact va_putF hx hb hts (am_cls_ok hc).1 ty0 hty0 hnm hown hK hw.1 hw.2.1 hw.2.2 o (am_cw_get hG) hc b hbN (hts _ hlk) (fun x hx => by rw [hT] at hx; exact hx) hff (hini hfin) hdc hpd (hnar ad) (hfit ad) (by rw [List.length_map]; exact hlen) hd hkk
theorem am_nb {x : Int32} (h : x = 0 ∨ x = 1) : narrow .boolean (.int x) = .int x ∧ fits .boolean (.int x) = true ∧ vp_nar .boolean x = x := by
  rcases h with rfl | rfl <;> decide +kernel

theorem am_i_putfield {idx : Nat} (hC : am_Ctx p R s m args meth c dC dI dA d M) {P0 : am_P} (hm : ∀ pc L st G nc ns, P0 pc L st G nc ns → am_W p l e R s m args below meth c dC dI dA M A H0 ad0 n0 QW pc L st G nc ns) {C : am_C} {Q : Option Value → am_G → Prop} {X : am_P} {pc npc a b t u pos : Nat} {cv : Int32} {cl : Int64} {L : am_L} {st : List Value} {G : am_G} {nc ns : Nat} (hd : decode (am_mb M) pc = .ok (.putfield idx, am_len (.putfield idx) (npc - pc))) (hn : npc = pc + am_len (.putfield idx) (npc - pc)) (hok : am_okX MT M pc (.putfield idx) a b t u pos cv cl = true) (h : am_ins C M scr Q X P0 pc (.putfield idx) npc a b t u cv cl L st G nc ns) : am_W p l e R s m args below meth c dC dI dA M A H0 ad0 n0 QW pc L st G nc ns := by
  obtain ⟨hx, hb, hml, hown, hts, hini, hK, hKX, hRc, hRs, hRf, hRl⟩ := hC
  have hn : npc = pc + 3 := hn
  subst hn
  simp only [am_okX, Bool.and_eq_true] at hok
  obtain ⟨hok, hpf⟩ := hok
  obtain ⟨Cn, T, N, hc, hbN, hT, hlk⟩ := am_fld_ok hok
  unfold am_pfl at hpf
  rw [hc] at hpf
  simp only [Bool.and_eq_true, Bool.or_eq_true, beq_iff_eq, decide_eq_true_eq] at hpf
  obtain ⟨hfin, hpf⟩ := hpf
  have hCC : am_Ctx p R s m args meth c dC dI dA d M := ⟨hx, hb, hml, hown, hts, hini, hK, hKX, hRc, hRs, hRf, hRl⟩
  simp only [am_ins] at h
  split at h
  · split at h
    · rename_i ci fs hG
      obtain ⟨rfl, hlen, h⟩ := h
      cases hpd : parseFieldDescriptor (T b).2.2.1 with
      | none => rw [hpd] at hpf; simp at hpf
      | some ty =>
        rw [hpd] at hpf
        split at h
        · cases ty with
          | int => exact am_putv hCC hm hd hc hbN hT hlk hfin hpd hG hlen (fun _ => rfl) (fun _ => rfl) h
          | _ => simp at hpf
        · cases ty with
          | boolean => exact am_putv hCC hm hd hc hbN hT hlk hfin hpd hG hlen (fun _ => (am_nb h.1).1) (fun _ => (am_nb h.1).2.1) h.2
          | _ => simp at hpf
        · cases ty with
          | object _ => exact am_putv hCC hm hd hc hbN hT hlk hfin hpd hG hlen (fun _ => rfl) (fun _ => rfl) h
          | array _ => exact am_putv hCC hm hd hc hbN hT hlk hfin hpd hG hlen (fun _ => rfl) (fun _ => rfl) h
          | _ => simp at hpf
        · exact h.elim
    · exact h.elim
  · exact h.elim

end AMS
