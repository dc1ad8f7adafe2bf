/-! THE WHOLE: a method that comes to its end in the abstract machine meets its contract. -/
section AMS
variable {p : Program} {l : Launch} {e : Env} {R : Room} {s : State} {m : MethodId} {args : Array Value} {below : List Frame} {meth : Method} {c : Code} {dC : Nat → ClassId} {dI : Nat → Nat → Nat} {dA : Nat → ClassId} {d : Nat} {M : am_M} {A : Nat → Prop} {H0 : Heap} {ad0 : Nat → Nat} {n0 : Nat} {QW : State → Prop} {MT : Nat → Option am_M} {scr : Option (Nat × (Nat → Int32))}
theorem am_ldcS (hC : am_Ctx p R s m args meth c dC dI dA d M) (hSX : am_SX ad0 A s H0) {pc : Nat} {L : am_L} {st : List Value} {G : am_G} {nc ns : Nat} (n b : Nat) (hb1 : 1000000 ≤ b) (hk : am_sk (b - 1000000) = some ((am_my M).cls, n)) (hd : decode (am_mb M) pc = .ok (.ldc n, 2)) (ad : Nat → Nat) (H : Heap) (locs : List Loc) (ls : Array Slot) (hrel : am_Rel (am_mc M) n0 ad0 ad) (k : W p l e R s m args below meth c H locs nc ns QW (F0 m (pc + 2) ls ((.ref b :: st).map (am_cv ad)))) : W p l e R s m args below meth c H locs nc ns QW (F0 m pc ls (st.map (am_cv ad))) := by
  obtain ⟨hx, hb, hml, hown, hts, hini, hK, hKX, hRc, hRs, hRf, hRl⟩ := hC
  obtain ⟨tx, hz⟩ := hSX.2.2.1 _ _ _ hk
  have e1 : 1000000 + (b - 1000000) = b := by omega
  rw [e1, ← hrel.2 b (Or.inr hb1)] at hz
  exact va_ldcS hx hb hown hz hd k
theorem am_ldcWx {T : State} {locs : List Loc} {cells slots : Nat} (X : Stand p l e R s m args below meth c T locs cells slots) (hexec : p.tables.exec = Jvm.exec) {own text : String} {index : Nat} {a : Addr} (hown : s.vm.findClass own = some m.cls)
    (hconst : (Jvm.Cond.stringRef own index text).before #[] s = true) (hev : (Term.string own index).eval #[] s none [] s = some (.ref a)) {g : JFrame} (hg : g.method = m) (hdg : decode c.code g.pc = .ok (.ldc_w index, 3)) :
    ∀ target, Steps p.tables e below (T.setTop { g with pc := g.pc + 3, stack := .ref a :: g.stack }) target → Steps p.tables e below (T.setTop g) target := by
  obtain ⟨k, cf, i, a', hk, hcf, hcp, -, hr, hev'⟩ := Cond.stringRef_spec hown hconst
  cases hev.symm.trans hev'
  obtain ⟨k', hk', he⟩ := X.warmed.alike.2.2 _ _ hk
  have hr' : k'.resolved[index]? = some (some (.string a)) := by
    rcases X.warmed.entry hk hk' index with h | ⟨h, -⟩
    · rw [h]; exact hr
    · rw [hr] at h; cases h
  intro target hrest
  subst hg
  jvm_step X.here [hexec, hdg, ldc_w.wp_string (e := e) (s := T) (f := g) X.here.top hk' (by rw [he]; exact hcf) hcp hr']
  exact hrest
theorem va_ldcSw {H : Heap} {locs : List Loc} {cells slots : Nat} {Q : State → Prop} {cc : ByteArray} {pc : Nat} {ls : Array Slot} {rest : List Value} (hexec : p.tables.exec = Jvm.exec) (hb : c.code = cc) {own tx : String} {index q : Nat} (hown : s.vm.findClass own = some m.cls) (hZ : vk_R own index tx q s) (hdg : decode cc pc = .ok (.ldc_w index, 3))
    (k : W p l e R s m args below meth c H locs cells slots Q (F0 m (pc + 3) ls (.ref q :: rest))) : W p l e R s m args below meth c H locs cells slots Q (F0 m pc ls rest) := by
  intro T hT X
  obtain ⟨t, a1, b1⟩ := k T hT X
  exact ⟨t, am_ldcWx X hexec hown (text := tx) (a := q) hZ.1 hZ.2 (g := F0 m pc ls rest) rfl (by rw [hb]; exact hdg) t a1, b1⟩
theorem am_ldcSW (hC : am_Ctx p R s m args meth c dC dI dA d M) (hSX : am_SX ad0 A s H0) {pc : Nat} {L : am_L} {st : List Value} {G : am_G} {nc ns : Nat} (n b : Nat) (hb1 : 1000000 ≤ b) (hk : am_sk (b - 1000000) = some ((am_my M).cls, n)) (hd : decode (am_mb M) pc = .ok (.ldc_w n, 3)) (ad : Nat → Nat) (H : Heap) (locs : List Loc) (ls : Array Slot) (hrel : am_Rel (am_mc M) n0 ad0 ad) (k : W p l e R s m args below meth c H locs nc ns QW (F0 m (pc + 3) ls ((.ref b :: st).map (am_cv ad)))) : W p l e R s m args below meth c H locs nc ns QW (F0 m pc ls (st.map (am_cv ad))) := by
  obtain ⟨hx, hb, hml, hown, hts, hini, hK, hKX, hRc, hRs, hRf, hRl⟩ := hC
  obtain ⟨tx, hz⟩ := hSX.2.2.1 _ _ _ hk
  have e1 : 1000000 + (b - 1000000) = b := by omega
  rw [e1, ← hrel.2 b (Or.inr hb1)] at hz
  exact va_ldcSw hx hb hown hz hd k
/-- texts: to be proved -/
def am_TX (l : Launch) (dC : Nat → ClassId) (dI : Nat → Nat → Nat) (dA : Nat → ClassId) (MT : Nat → Option am_M) : Prop := ∀ {p : Program} {e : Env} {R : Room} {s : State} {m : MethodId} {args : Array Value} {below : List Frame} {meth : Method} {c : Code} {d : Nat} {M : am_M} {A : Nat → Prop} {ad0 : Nat → Nat} {n0 : Nat} {QW : State → Prop} {C : am_C} {Q : Option Value → am_G → Prop} {X : am_P} {P0 : am_P} {pc npc a b t u pos : Nat} {cv : Int32} {cl : Int64} {L : am_L} {st : List Value} {G : am_G} {nc ns idx : Nat}, am_Ctx p R s m args meth c dC dI dA d M → (∀ pc L st G nc ns, P0 pc L st G nc ns → am_W p l e R s m args below meth c dC dI dA M A s.heap ad0 n0 QW pc L st G nc ns) → (∀ q, s.heap.size ≤ q → A q) → am_SX ad0 A s s.heap → decode (am_mb M) pc = .ok (.invokevirtual idx, 3) → npc = pc + 3 → am_okX MT M pc (.invokevirtual idx) a b t u pos cv cl = true → (t = 13 ∨ t = 14 ∨ t = 16) → am_ins C M none Q X P0 pc (.invokevirtual idx) npc a b t u cv cl L st G nc ns → am_W p l e R s m args below meth c dC dI dA M A s.heap ad0 n0 QW pc L st G nc ns
theorem am_stepS (hC : am_Ctx p R s m args meth c dC dI dA d M) {P0 : am_P} (hm : ∀ pc L st G nc ns, P0 pc L st G nc ns → am_W p l e R s m args below meth c dC dI dA M A s.heap ad0 n0 QW pc L st G nc ns) {C : am_C} {Q : Option Value → am_G → Prop} {X : am_P} (hT : am_okT MT M = true) (hTX : am_TX l dC dI dA MT) (hsC : am_sC l dC dI dA MT d C) (hA : ∀ q, s.heap.size ≤ q → A q) (hSX : am_SX ad0 A s s.heap)
    (hX : ∀ pc L st G nc ns idx, X pc L st G nc ns → (decode (am_mb M) pc = .ok (.new idx, 3) ∨ decode (am_mb M) pc = .ok (.invokestatic idx, 3) ∨ decode (am_mb M) pc = .ok (.invokevirtual idx, 3)) → am_W p l e R s m args below meth c dC dI dA M A s.heap ad0 n0 QW pc L st G nc ns)
    (hri : ∀ pc L x G nc ns, Q (some (.int x)) G → (am_mr M = some .int ∨ (am_mr M = some .boolean ∧ (x = 0 ∨ x = 1))) → decode (am_mb M) pc = .ok (.ireturn, 1) → am_W p l e R s m args below meth c dC dI dA M A s.heap ad0 n0 QW pc L [.int x] G nc ns)
    (hrl : ∀ pc L x G nc ns, Q (some (.long x)) G → am_mr M = some .long → decode (am_mb M) pc = .ok (.lreturn, 1) → am_W p l e R s m args below meth c dC dI dA M A s.heap ad0 n0 QW pc L [.long x] G nc ns)
    (hrv : ∀ pc L G nc ns, Q none G → am_mr M = none → decode (am_mb M) pc = .ok (.return_, 1) → am_W p l e R s m args below meth c dC dI dA M A s.heap ad0 n0 QW pc L [] G nc ns)
    {pc : Nat} {L : am_L} {st : List Value} {G : am_G} {nc ns : Nat} (h : am_step C M none Q X P0 pc L st G nc ns) : am_W p l e R s m args below meth c dC dI dA M A s.heap ad0 n0 QW pc L st G nc ns := by
  unfold am_step at h
  split at h
  · exact h.elim
  · rename_i pc' i npc a b t u pos cv cl he
    obtain ⟨hok, hpc⟩ := am_lk_ok hT he
    simp only [am_okI, Bool.and_eq_true, decide_eq_true_eq] at hok
    obtain ⟨⟨hd, hn⟩, hok⟩ := hok
    have hpc : pc' = pc := hpc
    subst hpc
    cases i with
    | iconst n => exact am_i_iconst hC hm hd hn hok h
    | bipush n => exact am_i_bipush hC hm hd hn hok h
    | sipush n => exact am_i_sipush hC hm hd hn hok h
    | ldc2_w n => exact am_i_ldc2 hC hm hd hn hok h
    | lconst n => exact am_i_lconst hC hm hd hn hok h
    | iload_n k => exact am_i_iload_n hC hm hd hn hok h
    | iload k => exact am_i_iload hC hm hd hn hok h
    | lload_n k => exact am_i_lload_n hC hm hd hn hok h
    | lload k => exact am_i_lload hC hm hd hn hok h
    | aload_n k => exact am_i_aload_n hC hm hd hn hok h
    | aload k => exact am_i_aload hC hm hd hn hok h
    | istore_n k => exact am_i_istore_n hC hm hd hn hok h
    | istore k => exact am_i_istore hC hm hd hn hok h
    | astore_n k => exact am_i_astore_n hC hm hd hn hok h
    | astore k => exact am_i_astore hC hm hd hn hok h
    | lstore_n k => exact am_i_lstore_n hC hm hd hn hok h
    | lstore k => exact am_i_lstore hC hm hd hn hok h
    | iinc k n => exact am_i_iinc hC hm hd hn hok h
    | iadd => exact am_i_iadd hC hm hd hn hok h
    | isub => exact am_i_isub hC hm hd hn hok h
    | imul => exact am_i_imul hC hm hd hn hok h
    | iand => exact am_i_iand hC hm hd hn hok h
    | ior => exact am_i_ior hC hm hd hn hok h
    | ixor => exact am_i_ixor hC hm hd hn hok h
    | ishl => exact am_i_ishl hC hm hd hn hok h
    | ishr => exact am_i_ishr hC hm hd hn hok h
    | iushr => exact am_i_iushr hC hm hd hn hok h
    | idiv => exact am_i_idiv hC hm hd hn hok h
    | irem => exact am_i_irem hC hm hd hn hok h
    | ladd => exact am_i_ladd hC hm hd hn hok h
    | lsub => exact am_i_lsub hC hm hd hn hok h
    | lmul => exact am_i_lmul hC hm hd hn hok h
    | lcmp => exact am_i_lcmp hC hm hd hn hok h
    | ldiv => exact am_i_ldiv hC hm hd hn hok h
    | lrem => exact am_i_lrem hC hm hd hn hok h
    | ineg => exact am_i_ineg hC hm hd hn hok h
    | i2l => exact am_i_i2l hC hm hd hn hok h
    | i2b => exact am_i_i2b hC hm hd hn hok h
    | i2s => exact am_i_i2s hC hm hd hn hok h
    | i2c => exact am_i_i2c hC hm hd hn hok h
    | lneg => exact am_i_lneg hC hm hd hn hok h
    | dup => exact am_i_dup hC hm hd hn hok h
    | dup2 => exact am_i_dup2 hC hm hd hn hok h
    | pop => exact am_i_pop hC hm hd hn hok h
    | ifCond o off => exact am_i_ifCond hC hm hd hn hok h
    | if_icmp o off => exact am_i_if_icmp hC hm hd hn hok h
    | ifnull off => exact am_i_ifnull hC hm hd hn hok h
    | ifnonnull off => exact am_i_ifnonnull hC hm hd hn hok h
    | goto off => exact am_i_goto hC hm hd hn hok h
    | tableswitch a b2 c2 d2 => exact am_i_tableswitch hC hm hd hn hok h
    | lookupswitch a2 b2 => exact am_i_lookupswitch hC hm hd hn hok h
    | getfield n => exact am_i_getfield hC hm hd hn hok h
    | putfield n => exact am_i_putfield hC hm hd hn hok h
    | iaload => exact am_i_iaload hC hm hd hn hok h
    | iastore => exact am_i_iastore hC hm hd hn hok h
    | baload => exact am_i_baload hC hm hd hn hok h
    | bastore => exact am_i_bastore hC hm hd hn hok h
    | laload => exact am_i_laload hC hm hd hn hok h
    | lastore => exact am_i_lastore hC hm hd hn hok h
    | aaload => exact am_i_aaload hC hm hd hn hok h
    | aastore => exact am_i_aastore hC hm hd hn hok h
    | arraylength => exact am_i_arraylength hC hm hd hn hok h
    | ldc n => exact am_i_ldc hC hm hd hn hok h (fun n b h1 h2 h3 ad H locs ls hrel _ _ _ _ _ k => am_ldcS (L := L) (G := G) hC hSX n b h1 h2 h3 ad H locs ls hrel k)
    | ldc_w n => exact am_i_ldc_w hC hm hd hn hok h (fun n b h1 h2 h3 ad H locs ls hrel _ _ _ _ _ k => am_ldcSW (L := L) (G := G) hC hSX n b h1 h2 h3 ad H locs ls hrel k)
    | newarray ty => exact am_i_newarray hC hm hd hn hok h hA
    | anewarray n => exact am_i_anewarray hC hm hd hn hok h hA
    | new n =>
      cases t with
      | zero => exact am_i_new hC hm hd hn hok h hA rfl
      | succ t => exact hX _ _ _ _ _ _ n h (Or.inl hd)
    | ireturn =>
      simp only [am_ins] at h
      split at h
      · split at h
        · rename_i hmr
          exact hri _ _ _ _ _ _ h (Or.inl hmr) hd
        · rename_i hmr
          exact hri _ _ _ _ _ _ h.2 (Or.inr ⟨hmr, h.1⟩) hd
        · exact h.elim
      · exact h.elim
    | lreturn =>
      simp only [am_okX, decide_eq_true_eq] at hok
      simp only [am_ins] at h
      split at h
      · exact hrl _ _ _ _ _ _ h hok hd
      · exact h.elim
    | return_ =>
      simp only [am_okX, decide_eq_true_eq] at hok
      simp only [am_ins] at h
      split at h
      · exact hrv _ _ _ _ _ h hok hd
      · exact h.elim
    | invokestatic n =>
      match t, hok, h with
      | 1, hok, h => exact am_i_invS hC hm hd hn hok h hsC hA hSX rfl
      | 2, hok, h => exact am_i_invSN hC hm hd hn hok h hsC hA hSX rfl
      | 6, hok, h => exact am_i_mmax hC hm hd hn hok h rfl
      | 7, hok, h => exact am_i_mmin hC hm hd hn hok h rfl
      | 8, hok, h => exact am_i_mabs hC hm hd hn hok h rfl
      | 9, hok, h => exact am_i_mmaxl hC hm hd hn hok h rfl
      | 10, hok, h => exact am_i_mabsl hC hm hd hn hok h rfl
      | 11, hok, h => exact am_i_acopy hC hm hd hn hok h rfl
      | 0, hok, h => exact False.elim h
      | 3, hok, h => exact False.elim h
      | 4, hok, h => exact False.elim h
      | 5, hok, h => exact False.elim h
      | 77, hok, h => exact hX _ _ _ _ _ _ n h (Or.inr (Or.inl hd))
      | t + 12, hok, h =>
        by_cases e : t + 12 = 77
        · rw [e] at h
          exact hX _ _ _ _ _ _ n h (Or.inr (Or.inl hd))
        · simp only [am_ins] at h
    | invokespecial n =>
      match t, hok, h with
      | 3, hok, h => exact am_i_invI hC hm hd hn hok h hsC hA hSX rfl
      | 4, hok, h => exact am_i_invIN hC hm hd hn hok h hsC hA hSX rfl
      | 5, hok, h => exact am_i_oinit hC hm hd hn hok h rfl
      | 0, hok, h => exact False.elim h
      | 1, hok, h => exact False.elim h
      | 2, hok, h => exact False.elim h
      | t + 6, hok, h => exact False.elim h
    | invokevirtual n =>
      match t, hok, h with
      | 0, hok, h => exact am_i_invV hC hm hd hn hok h hsC hA hSX rfl
      | 13, hok, h => exact hTX hC hm hA hSX hd hn hok (Or.inl rfl) h
      | 14, hok, h => exact hTX hC hm hA hSX hd hn hok (Or.inr (Or.inl rfl)) h
      | 16, hok, h => exact hTX hC hm hA hSX hd hn hok (Or.inr (Or.inr rfl)) h
      | 1, hok, h => exact False.elim h
      | 2, hok, h => exact False.elim h
      | 3, hok, h => exact False.elim h
      | 4, hok, h => exact False.elim h
      | 5, hok, h => exact False.elim h
      | 6, hok, h => exact False.elim h
      | 7, hok, h => exact False.elim h
      | 8, hok, h => exact False.elim h
      | 9, hok, h => exact False.elim h
      | 10, hok, h => exact False.elim h
      | 11, hok, h => exact False.elim h
      | 12, hok, h => exact False.elim h
      | 15, hok, h => exact False.elim h
      | 77, hok, h => exact hX _ _ _ _ _ _ n h (Or.inr (Or.inr hd))
      | t + 17, hok, h =>
        by_cases e : t + 17 = 77
        · rw [e] at h
          exact hX _ _ _ _ _ _ n h (Or.inr (Or.inr hd))
        · simp only [am_ins] at h
    | _ => exact False.elim h
end AMS
/-- the locals at a method's entry -/
def am_ent : List Value → am_L
  | [] => []
  | v :: t => if v.category = 2 then some v :: none :: am_ent t else some v :: am_ent t
def am_entL (nL : Nat) (vs : List Value) : am_L := am_ent vs ++ List.replicate (nL - (am_ent vs).length) none
/-- calls to a depth d: the callee comes to its end -/
def am_Call (MT : Nat → Option am_M) : Nat → am_C
  | 0 => fun _ _ _ _ => False
  | d + 1 => fun mi As G post => ∃ M, MT mi = some M ∧ (am_ent As).length ≤ am_mL M ∧ (∀ v ∈ As, v.category = 2 → ∃ x, v = .long x) ∧ am_Ex (am_Call MT d) M none post (fun _ _ _ _ _ _ => False) 0 (am_entL (am_mL M) As) [] G 0 0
theorem am_ent_len (ad : Nat → Nat) : ∀ As : List Value, (am_ent As).length = (lg_sl (As.map (am_cv ad))).length
  | [] => rfl
  | v :: t => by
    have ih := am_ent_len ad t
    simp only [lg_sl, List.map_cons, List.flatMap_cons, List.length_append, am_ent, am_cat] at ih ⊢
    by_cases h : v.category = 2
    · simp only [h, if_true, List.length_cons, List.length_nil]
      omega
    · simp only [h, if_false, List.length_cons, List.length_nil]
      omega
theorem am_ent_args (ad : Nat → Nat) : ∀ (As : List Value) (i k : Nat) (v : Value), (am_ent As)[k]? = some (some v) → (i + k, am_cv ad v) ∈ lv_args i (As.map (am_cv ad))
  | [], _, _, _, h => by simp [am_ent] at h
  | w :: t, i, k, v, h => by
    simp only [List.map_cons, lv_args, am_cat]
    by_cases hc : w.category = 2
    · simp only [am_ent, hc, if_true] at h ⊢
      match k, h with
      | 0, h =>
        simp at h
        subst h
        exact List.mem_cons.mpr (Or.inl rfl)
      | 1, h => simp at h
      | k + 2, h =>
        have h2 : (am_ent t)[k]? = some (some v) := by simpa using h
        have ih := am_ent_args ad t (i + 2) k v h2
        rw [show i + (k + 2) = i + 2 + k by omega]
        exact List.mem_cons_of_mem _ ih
    · simp only [am_ent, hc, if_false] at h ⊢
      match k, h with
      | 0, h =>
        simp at h
        subst h
        exact List.mem_cons.mpr (Or.inl rfl)
      | k + 1, h =>
        have h2 : (am_ent t)[k]? = some (some v) := by simpa using h
        have ih := am_ent_args ad t (i + 1) k v h2
        rw [show i + (k + 1) = i + 1 + k by omega]
        exact List.mem_cons_of_mem _ ih
theorem am_entL_get {nL : Nat} {As : List Value} {k : Nat} {v : Value} (h : (am_entL nL As)[k]? = some (some v)) : (am_ent As)[k]? = some (some v) := by
  unfold am_entL at h
  by_cases hk : k < (am_ent As).length
  · rwa [List.getElem?_append_left hk] at h
  · rw [List.getElem?_append_right (by omega), List.getElem?_replicate] at h
    split at h <;> cases h
theorem am_ent_mem : ∀ (As : List Value) (k : Nat) (v : Value), (am_ent As)[k]? = some (some v) → v ∈ As
  | [], _, _, h => by simp [am_ent] at h
  | w :: t, k, v, h => by
    by_cases hc : w.category = 2
    · simp only [am_ent, hc, if_true] at h
      match k, h with
      | 0, h => simp at h; subst h; exact List.mem_cons_self
      | 1, h => simp at h
      | k + 2, h => exact List.mem_cons_of_mem _ (am_ent_mem t k v (by simpa using h))
    · simp only [am_ent, hc, if_false] at h
      match k, h with
      | 0, h => simp at h; subst h; exact List.mem_cons_self
      | k + 1, h => exact List.mem_cons_of_mem _ (am_ent_mem t k v (by simpa using h))
theorem am_entry {As : List Value} {nL : Nat} (ad : Nat → Nat) (h : (am_ent As).length ≤ nL) : am_LH ((lg_sl (As.map (am_cv ad)) ++ List.replicate (nL - (lg_sl (As.map (am_cv ad))).length) Slot.unset).toArray) nL (am_entL nL As) ad := by
  refine ⟨by simp only [am_entL, List.length_append, List.length_replicate]; omega, am_LH_sub (lv_entry (As.map (am_cv ad)) (by rw [← am_ent_len]; exact h)) fun q hq => ?_⟩
  obtain ⟨v, h1, h2⟩ := am_lv_mem.mp hq
  have h3 := am_ent_args ad As 0 q.1 v (am_entL_get h1)
  rw [Nat.zero_add, ← h2] at h3
  exact h3
theorem am_soundS {l : Launch} {dC : Nat → ClassId} {dI : Nat → Nat → Nat} {dA : Nat → ClassId} {MT : Nat → Option am_M} (hMT : ∀ mi M, MT mi = some M → am_okM M = true ∧ am_okT MT M = true) (hTX : am_TX l dC dI dA MT) (d : Nat) (hsC : am_sC l dC dI dA MT d (am_Call MT d)) (mi : Nat) (As : List Value) (G : am_G) (post : Option Value → am_G → Prop) (h : am_Call MT (d + 1) mi As G post) : ∃ M, MT mi = some M ∧ am_okM M = true ∧ am_Met l dC dI dA d M As G post := by
  obtain ⟨M, hM, hlen, hlong, hE⟩ := h
  obtain ⟨hok, hT⟩ := hMT mi M hM
  refine ⟨M, hM, hok, fun ad sz => ?_⟩
  obtain ⟨hcode, hinit, hpl, hmh, hvh, hmL, hks⟩ := am_okM_ok hok
  refine Met.ofW (cc := am_mb M) (maxL := am_mL M) (ret := am_mr M) hpl rfl ?_
  intro p e s m args below meth c s₁ B hml hv
  obtain ⟨rfl, hsz, hP, hK, hD0, hKX, hSX⟩ := hv
  have hx := B.exec
  have hb := B.bytes
  have hr := B.returns
  have hts0 := atoms_spec (ws := am_ws M) B.pre
  have hts : ∀ w ∈ am_U, w.before ((As.map (am_cv ad)).toArray) s = true := fun w hw => hts0 w (List.mem_cons_of_mem _ hw)
  have hown : s.vm.findClass (am_my M).cls = some m.cls := findClass_of_methodNamed B.named
  have hlocks := B.notSynchronized
  have hin : (am_my M).name = "<init>" → meth.name = "<init>" := fun z => (name_of_methodNamed B.named B.method).1.trans z
  subst hsz
  have hD := hD0.self (sz := s.heap.size)
  have hA : ∀ q : Nat, s.heap.size ≤ q → va_A (am_cw dA ad G) s.heap.size q := fun q h => Or.inr h
  have hC : am_Ctx p (am_rm d M) s m ((As.map (am_cv ad)).toArray) meth c dC dI dA d M := ⟨hx, hb, hml, hown, hts, hin, hK, hKX, rfl, rfl, Nat.le_refl _, Nat.le_refl _⟩
  have key := hE (am_W p l e (am_rm d M) s m ((As.map (am_cv ad)).toArray) below meth c dC dI dA M (va_A (am_cw dA ad G) s.heap.size) s.heap ad G.length (MQ below (am_Qc dC dI dA M post G ad s.heap.size) ((As.map (am_cv ad)).toArray) s (am_mc M) (am_ms M) (va_A (am_cw dA ad G) s.heap.size)))
    (fun P0 hle pc L st G1 nc ns hstep => am_stepS hC hle hT hTX hsC hA hSX (fun _ _ _ _ _ _ _ z => z.elim)
      (fun pc L x G2 nc ns hq hmr hd => by
        intro ad1 H locs ls hrel hn0 hw hnd hL hcs
        refine W.widen hcs.1 hcs.2 ?_
        rcases hmr with hmr | ⟨hmr, hx01⟩
        · refine W.iret hx hb (hr.trans hmr) (fun t ht _ => ?_) (fun q hq => hw.2.2.2.2 q hq) hd hlocks
          unfold am_Qc
          rw [hmr]
          exact ⟨⟨x, (G2, ad1), rfl, hq, by rw [ht]; exact hw.1, hw.2.1, hn0, hrel⟩, hw.2.2.F ht⟩
        · refine W.zret hx hb (hr.trans hmr) (am_nb hx01).1 (fun t ht _ => ?_) (fun q hq => hw.2.2.2.2 q hq) hd hlocks
          unfold am_Qc
          rw [hmr]
          exact ⟨⟨x, (G2, ad1), rfl, hq, by rw [ht]; exact hw.1, hw.2.1, hn0, hrel⟩, hw.2.2.F ht⟩)
      (fun pc L x G2 nc ns hq hmr hd => by
        intro ad1 H locs ls hrel hn0 hw hnd hL hcs
        refine W.widen hcs.1 hcs.2 ?_
        refine W.lret hx hb (hr.trans hmr) (fun t ht _ => ?_) (fun q hq => hw.2.2.2.2 q hq) hd hlocks
        unfold am_Qc
        rw [hmr]
        exact ⟨⟨x, (G2, ad1), rfl, hq, by rw [ht]; exact hw.1, hw.2.1, hn0, hrel⟩, hw.2.2.F ht⟩)
      (fun pc L G2 nc ns hq hmr hd => by
        intro ad1 H locs ls hrel hn0 hw hnd hL hcs
        refine W.widen hcs.1 hcs.2 ?_
        refine W.vret hx hb (hr.trans hmr) (fun t ht _ => ?_) (fun q hq => hw.2.2.2.2 q hq) hd hlocks
        unfold am_Qc
        rw [hmr]
        exact ⟨⟨(G2, ad1), rfl, hq, by rw [ht]; exact hw.1, hw.2.1, hn0, hrel⟩, hw.2.2.F ht⟩)
      hstep)
  rw [lg_entry_eq]
  refine key ad s.heap [] _ ⟨fun _ => rfl, fun _ _ => rfl⟩ (Nat.le_refl _) ⟨hP, hD, va_S.rf⟩ ?_ (am_entry ad hlen) ⟨Nat.zero_le _, Nat.zero_le _⟩
  intro i v hi hc
  exact hlong v (am_ent_mem As i v (am_entL_get hi)) hc
theorem am_sound {l : Launch} {dC : Nat → ClassId} {dI : Nat → Nat → Nat} {dA : Nat → ClassId} {MT : Nat → Option am_M} (hMT : ∀ mi M, MT mi = some M → am_okM M = true ∧ am_okT MT M = true) (hTX : am_TX l dC dI dA MT) : ∀ (d mi : Nat) (As : List Value) (G : am_G) (post : Option Value → am_G → Prop), am_Call MT (d + 1) mi As G post → ∃ M, MT mi = some M ∧ am_okM M = true ∧ am_Met l dC dI dA d M As G post := by
  intro d
  induction d with
  | zero =>
    intro mi As G post h
    exact am_soundS hMT hTX 0 (fun mi As G post h => h.elim) mi As G post h
  | succ d ih =>
    intro mi As G post h
    refine am_soundS hMT hTX (d + 1) (fun mi As G post h => ?_) mi As G post h
    obtain ⟨M, h1, h2, h3⟩ := ih mi As G post h
    exact ⟨M, d, h1, Nat.le_refl _, h2, h3⟩
