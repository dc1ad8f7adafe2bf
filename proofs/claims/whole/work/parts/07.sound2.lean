/-! ONE STEP IS SOUND, second half: rows of arrays, makers, calls, ends. -/
theorem am_good {w : Jvm.Cond} (h : w ∈ am_U) : w ∈ am_U ∧ ((w.onTables && w.keeps) = true ∨ ∃ ty, w = .arrayClass ty) := ⟨h, good_of_word (List.mem_filter.mp h).2⟩
theorem am_catsum (ad : Nat → Nat) (st : List Value) : ((st.map (am_cv ad)).map fun v => v.category).sum = (st.map fun v => v.category).sum := by
  rw [List.map_map]
  congr 1
  exact List.map_congr_left fun v _ => am_cat ad v
theorem am_dfl_cv (ad : Nat → Nat) (a : Nat) : (am_dfl a).map (am_cv ad) = am_dfl a := by
  have key : ∀ l : List Value, (l.all fun v => match v with
    | .ref _ => false
    | _ => true) = true → l.map (am_cv ad) = l := by
    intro l h
    conv => rhs; rw [← List.map_id l]
    refine List.map_congr_left fun v hv => ?_
    have h1 := List.all_eq_true.mp h v hv
    cases v with
    | ref k => cases h1
    | _ => rfl
  apply key
  unfold am_dfl
  split <;> decide +kernel
theorem am_KX_same {u U : State} (h : u.vm = U.vm) (hK : am_KX u) : am_KX U := by
  obtain ⟨h1, h2, h3, h4⟩ := hK
  have ha : u.vm.Alike U.vm := by rw [h]; exact Vm.Alike.refl _
  refine ⟨fun w hw => ?_, va_AO.moved ha h2, va_AO.moved ha h3, va_AO.moved ha h4⟩
  refine va_Nw.same ?_ h (h1 w hw)
  have := (List.mem_filter.mp hw).2
  split at this
  · rfl
  · cases this
theorem am_KX_warm {s U : State} (h : s.WarmedH U.vm) (hK : am_KX s) : am_KX U := by
  obtain ⟨h1, h2, h3, h4⟩ := hK
  refine ⟨fun w hw => ?_, va_AO.moved h.alike h2, va_AO.moved h.alike h3, va_AO.moved h.alike h4⟩
  have := (List.mem_filter.mp hw).2
  split at this
  · exact va_Nw.warmM h (h1 _ hw)
  · cases this
def am_SX (ad : Nat → Nat) (A : Nat → Prop) (U : State) (H : Heap) : Prop :=
  (∃ adV : Nat → Nat, vk_S 10 ((List.range 10).map (fun i => (am_str i).length)) ((List.range 10).map (fun i => (am_str i).map nI)) (fun i => ad (1000000 + i)) adV A U H) ∧ (∀ i, i < 2 → ad (1000010 + i) = ad (1000000 + i)) ∧ (∀ (i : Nat) (own : String) (k : Nat), am_sk i = some (own, k) → ∃ tx, vk_R own k tx (ad (1000000 + i)) U) ∧ va_Z "java/lang/String" "COMPACT_STRINGS" "Z" (.int 1) A U H ∧ va_Zq "jdk/internal/util/Preconditions" "SIOOBE_FORMATTER" "Ljava/util/function/BiFunction;" A U H
theorem am_SX_same {ad : Nat → Nat} {A : Nat → Prop} {u U : State} {H : Heap} (hv : U.vm = u.vm) (h : am_SX ad A u H) : am_SX ad A U H := by
  obtain ⟨⟨adV, h1⟩, h2, h3, h4, h5⟩ := h
  have ha : u.vm.Alike U.vm := by rw [hv]; exact Vm.Alike.refl _
  refine ⟨⟨adV, h1.moved ha⟩, h2, fun i own k hk => ?_, h4.moved ha, h5.moved ha⟩
  obtain ⟨tx, hx⟩ := h3 i own k hk
  exact ⟨tx, hx.same hv⟩
theorem am_SX_warm {ad : Nat → Nat} {A : Nat → Prop} {s U : State} {H : Heap} (hv : s.WarmedH U.vm) (h : am_SX ad A s H) : am_SX ad A U H := by
  obtain ⟨⟨adV, h1⟩, h2, h3, h4, h5⟩ := h
  refine ⟨⟨adV, h1.moved hv.alike⟩, h2, fun i own k hk => ?_, h4.moved hv.alike, h5.moved hv.alike⟩
  obtain ⟨tx, hx⟩ := h3 i own k hk
  exact ⟨tx, hx.warm hv⟩
theorem am_SX_kept {ad : Nat → Nat} {A : Nat → Prop} {U : State} {H H1 : Heap} (h : am_SX ad A U H) (hq : ∀ a : Nat, a < H.size → ¬ A a → H1[a]? = H[a]?) : am_SX ad A U H1 := by
  obtain ⟨⟨adV, h1⟩, h2, h3, h4, h5⟩ := h
  exact ⟨⟨adV, h1.kept hq⟩, h2, h3, h4.kept hq, h5.kept hq⟩
theorem am_SX_narrow {ad : Nat → Nat} {A B : Nat → Prop} {U : State} {H : Heap} (h : am_SX ad A U H) (hAB : ∀ q, B q → A q) : am_SX ad B U H := by
  obtain ⟨⟨adV, h1⟩, h2, h3, h4, h5⟩ := h
  exact ⟨⟨adV, h1.narrow hAB⟩, h2, h3, h4.narrow hAB, h5.narrow hAB⟩
theorem am_SX_ad {ad ad1 : Nat → Nat} {A : Nat → Prop} {U : State} {H : Heap} (h : am_SX ad A U H) (hx : ∀ k, 1000000 ≤ k → ad1 k = ad k) : am_SX ad1 A U H := by
  obtain ⟨⟨adV, h1⟩, h2, h3, h4, h5⟩ := h
  have e : (fun i => ad1 (1000000 + i)) = fun i => ad (1000000 + i) := funext fun i => hx _ (by omega)
  refine ⟨⟨adV, by rw [e]; exact h1⟩, fun i hi => by rw [hx _ (by omega), hx _ (by omega)]; exact h2 i hi, fun i own k hk => by rw [hx _ (by omega)]; exact h3 i own k hk, h4, h5⟩
def am_rm (d : Nat) (M : am_M) : Room := { frames := d + 40, cells := am_mc M, slots := am_ms M, locals := 80 * d + 2000 }
def am_ws (M : am_M) : List Jvm.Cond := Jvm.Cond.code (am_my M) (am_mb M) (am_mL M) (am_mr M) :: am_U
def am_Pc (dC : Nat → ClassId) (dI : Nat → Nat → Nat) (dA : Nat → ClassId) (As : List Value) (G : am_G) (ad : Nat → Nat) (sz : Nat) : Array Value → State → Prop := va_Pc (As.map (am_cv ad)) (fun U => U.heap.size = sz ∧ va_P (dC, dI) vwCl (am_cw dA ad G) U.heap ∧ va_K (dC, dI) vwCl (am_ty dA) U ∧ va_D (fun _ => True) (am_cw dA ad G) ∧ am_KX U ∧ am_SX ad (va_A (am_cw dA ad G) sz) U U.heap)
def am_B (dC : Nat → ClassId) (dI : Nat → Nat → Nat) (dA : Nat → ClassId) (mc : Nat) (G : am_G) (ad : Nat → Nat) (sz : Nat) (u : am_G × (Nat → Nat)) (t : State) : Prop := va_P (dC, dI) vwCl (am_cw dA u.2 u.1) t.heap ∧ va_D (va_A (am_cw dA ad G) sz) (am_cw dA u.2 u.1) ∧ G.length ≤ u.1.length ∧ am_Rel mc G.length ad u.2
def am_Qc (dC : Nat → ClassId) (dI : Nat → Nat → Nat) (dA : Nat → ClassId) (M : am_M) (post : Option Value → am_G → Prop) (G : am_G) (ad : Nat → Nat) (sz : Nat) : Array Value → State → Outcome → State → Prop := match am_mr M with
  | none => va_Qv (fun u : am_G × (Nat → Nat) => post none u.1) (am_B dC dI dA (am_mc M) G ad sz) (va_A (am_cw dA ad G) sz)
  | some .long => va_Ql (fun (r : Int64) (u : am_G × (Nat → Nat)) => post (some (.long r)) u.1) (am_B dC dI dA (am_mc M) G ad sz) (va_A (am_cw dA ad G) sz)
  | some _ => va_Qi (fun (r : Int32) (u : am_G × (Nat → Nat)) => post (some (.int r)) u.1) (am_B dC dI dA (am_mc M) G ad sz) (va_A (am_cw dA ad G) sz)
def am_Met (l : Launch) (dC : Nat → ClassId) (dI : Nat → Nat → Nat) (dA : Nat → ClassId) (d : Nat) (M : am_M) (As : List Value) (G : am_G) (post : Option Value → am_G → Prop) : Prop :=
  ∀ (ad : Nat → Nat) (sz : Nat), Met l (am_my M) (am_ws M) (am_rm d M) (am_Pc dC dI dA As G ad sz) (am_Qc dC dI dA M post G ad sz) (am_mc M) (am_ms M) (va_A (am_cw dA ad G) sz)
theorem am_blind {dC : Nat → ClassId} {dI : Nat → Nat → Nat} {dA : Nat → ClassId} {As : List Value} {G : am_G} {ad : Nat → Nat} {sz : Nat} : FrameBlind (am_Pc dC dI dA As G ad sz) := by
  intro a U g mk q
  obtain ⟨q0, q1, qP, qK, qD, qX, qS⟩ := q
  exact ⟨q0, q1, qP, va_K.moved (u := U) (U := U.calling g mk a) (Vm.Alike.refl U.vm) qK, qD, am_KX_same (u := U) (U := U.calling g mk a) rfl qX, am_SX_same (u := U) (U := U.calling g mk a) rfl qS⟩
section AMS
variable {p : Program} {l : Launch} {e : Env} {R : Room} {s : State} {m : MethodId} {args : Array Value} {below : List Frame} {meth : Method} {c : Code} {dC : Nat → ClassId} {dI : Nat → Nat → Nat} {dA : Nat → ClassId} {d : Nat} {M : am_M} {A : Nat → Prop} {H0 : Heap} {ad0 : Nat → Nat} {n0 : Nat} {QW : State → Prop} {MT : Nat → Option am_M} {scr : Option (Nat × (Nat → Int32))}

theorem am_i_iaload (hC : am_Ctx p R s m args meth c dC dI dA d M) {P0 : am_P} (hm : ∀ pc L st G nc ns, P0 pc L st G nc ns → am_W p l e R s m args below meth c dC dI dA M A H0 ad0 n0 QW pc L st G nc ns) {C : am_C} {Q : Option Value → am_G → Prop} {X : am_P} {pc npc a b t u pos : Nat} {cv : Int32} {cl : Int64} {L : am_L} {st : List Value} {G : am_G} {nc ns : Nat} (hd : decode (am_mb M) pc = .ok (.iaload, am_len (.iaload) (npc - pc))) (hn : npc = pc + am_len (.iaload) (npc - pc)) (hok : am_okX MT M pc (.iaload) a b t u pos cv cl = true) (h : am_ins C M none Q X P0 pc (.iaload) npc a b t u cv cl L st G nc ns) : am_W p l e R s m args below meth c dC dI dA M A H0 ad0 n0 QW pc L st G nc ns := by
  obtain ⟨hx, hb, hml, hown, hts, hini, hK, hKX, hRc, hRs, hRf, hRl⟩ := hC
  have hn : npc = pc + 1 := hn
  subst hn
  simp only [am_ins] at h
  split at h
  · split at h
    · rename_i hG
      obtain ⟨rfl, hin, h⟩ := h
      intro ad H locs ls hrel hn0 hw hnd hL hcs
      exact va_iald hx hb hK hw.1 _ 0 (am_cw_get hG) rfl hin hd (hm _ _ _ _ _ _ h ad H locs ls hrel hn0 hw hnd hL hcs)
    · exact h.elim
  · exact h.elim

theorem am_i_baload (hC : am_Ctx p R s m args meth c dC dI dA d M) {P0 : am_P} (hm : ∀ pc L st G nc ns, P0 pc L st G nc ns → am_W p l e R s m args below meth c dC dI dA M A H0 ad0 n0 QW pc L st G nc ns) {C : am_C} {Q : Option Value → am_G → Prop} {X : am_P} {pc npc a b t u pos : Nat} {cv : Int32} {cl : Int64} {L : am_L} {st : List Value} {G : am_G} {nc ns : Nat} (hd : decode (am_mb M) pc = .ok (.baload, am_len (.baload) (npc - pc))) (hn : npc = pc + am_len (.baload) (npc - pc)) (hok : am_okX MT M pc (.baload) a b t u pos cv cl = true) (h : am_ins C M scr Q X P0 pc (.baload) npc a b t u cv cl L st G nc ns) : am_W p l e R s m args below meth c dC dI dA M A H0 ad0 n0 QW pc L st G nc ns := by
  obtain ⟨hx, hb, hml, hown, hts, hini, hK, hKX, hRc, hRs, hRf, hRl⟩ := hC
  have hn : npc = pc + 1 := hn
  subst hn
  simp only [am_ins] at h
  split at h
  · split at h
    · rename_i hG
      obtain ⟨rfl, hin, h⟩ := h
      intro ad H locs ls hrel hn0 hw hnd hL hcs
      exact va_zald hx hb hK hw.1 _ 2 (am_cw_get hG) rfl hin hd (hm _ _ _ _ _ _ h ad H locs ls hrel hn0 hw hnd hL hcs)
    · exact h.elim
  · exact h.elim

theorem am_i_laload (hC : am_Ctx p R s m args meth c dC dI dA d M) {P0 : am_P} (hm : ∀ pc L st G nc ns, P0 pc L st G nc ns → am_W p l e R s m args below meth c dC dI dA M A H0 ad0 n0 QW pc L st G nc ns) {C : am_C} {Q : Option Value → am_G → Prop} {X : am_P} {pc npc a b t u pos : Nat} {cv : Int32} {cl : Int64} {L : am_L} {st : List Value} {G : am_G} {nc ns : Nat} (hd : decode (am_mb M) pc = .ok (.laload, am_len (.laload) (npc - pc))) (hn : npc = pc + am_len (.laload) (npc - pc)) (hok : am_okX MT M pc (.laload) a b t u pos cv cl = true) (h : am_ins C M scr Q X P0 pc (.laload) npc a b t u cv cl L st G nc ns) : am_W p l e R s m args below meth c dC dI dA M A H0 ad0 n0 QW pc L st G nc ns := by
  obtain ⟨hx, hb, hml, hown, hts, hini, hK, hKX, hRc, hRs, hRf, hRl⟩ := hC
  have hn : npc = pc + 1 := hn
  subst hn
  simp only [am_ins] at h
  split at h
  · split at h
    · rename_i hG
      obtain ⟨hin, h⟩ := h
      intro ad H locs ls hrel hn0 hw hnd hL hcs
      exact va_lald hx hb hK hw.1 _ 1 (am_cw_get hG) rfl hin hd (hm _ _ _ _ _ _ h ad H locs ls hrel hn0 hw hnd hL hcs)
    · exact h.elim
  · exact h.elim

theorem am_i_iastore (hC : am_Ctx p R s m args meth c dC dI dA d M) {P0 : am_P} (hm : ∀ pc L st G nc ns, P0 pc L st G nc ns → am_W p l e R s m args below meth c dC dI dA M A H0 ad0 n0 QW pc L st G nc ns) {C : am_C} {Q : Option Value → am_G → Prop} {X : am_P} {pc npc a b t u pos : Nat} {cv : Int32} {cl : Int64} {L : am_L} {st : List Value} {G : am_G} {nc ns : Nat} (hd : decode (am_mb M) pc = .ok (.iastore, am_len (.iastore) (npc - pc))) (hn : npc = pc + am_len (.iastore) (npc - pc)) (hok : am_okX MT M pc (.iastore) a b t u pos cv cl = true) (h : am_ins C M scr Q X P0 pc (.iastore) npc a b t u cv cl L st G nc ns) : am_W p l e R s m args below meth c dC dI dA M A H0 ad0 n0 QW pc L st G nc ns := by
  obtain ⟨hx, hb, hml, hown, hts, hini, hK, hKX, hRc, hRs, hRf, hRl⟩ := hC
  have hn : npc = pc + 1 := hn
  subst hn
  simp only [am_ins] at h
  split at h
  · split at h
    · rename_i hG
      obtain ⟨rfl, hin, h⟩ := h
      intro ad H locs ls hrel hn0 hw hnd hL hcs
      exact va_iast hx hb hK hw.1 hw.2.1 hw.2.2 _ 0 (am_cw_get hG) rfl hin hd (fun H1 locs1 h1 h2 h3 => hm _ _ _ _ _ _ h ad H1 locs1 ls hrel (by rw [List.length_set]; exact hn0) ⟨by rw [← am_cw_set]; exact h1, by rw [← am_cw_set]; exact h2, h3⟩ hnd hL hcs)
    · exact h.elim
  · exact h.elim

theorem am_i_bastore (hC : am_Ctx p R s m args meth c dC dI dA d M) {P0 : am_P} (hm : ∀ pc L st G nc ns, P0 pc L st G nc ns → am_W p l e R s m args below meth c dC dI dA M A H0 ad0 n0 QW pc L st G nc ns) {C : am_C} {Q : Option Value → am_G → Prop} {X : am_P} {pc npc a b t u pos : Nat} {cv : Int32} {cl : Int64} {L : am_L} {st : List Value} {G : am_G} {nc ns : Nat} (hd : decode (am_mb M) pc = .ok (.bastore, am_len (.bastore) (npc - pc))) (hn : npc = pc + am_len (.bastore) (npc - pc)) (hok : am_okX MT M pc (.bastore) a b t u pos cv cl = true) (h : am_ins C M scr Q X P0 pc (.bastore) npc a b t u cv cl L st G nc ns) : am_W p l e R s m args below meth c dC dI dA M A H0 ad0 n0 QW pc L st G nc ns := by
  obtain ⟨hx, hb, hml, hown, hts, hini, hK, hKX, hRc, hRs, hRf, hRl⟩ := hC
  have hn : npc = pc + 1 := hn
  subst hn
  simp only [am_ins] at h
  split at h
  · split at h
    · rename_i hG
      obtain ⟨rfl, hbx, hin, h⟩ := h
      intro ad H locs ls hrel hn0 hw hnd hL hcs
      exact va_zast hx hb hK hw.1 hw.2.1 hw.2.2 _ 2 (am_cw_get hG) rfl hin hd (fun H1 locs1 h1 h2 h3 => by
        rw [(am_nb hbx).2.2] at h1 h2
        exact hm _ _ _ _ _ _ h ad H1 locs1 ls hrel (by rw [List.length_set]; exact hn0) ⟨by rw [← am_cw_set]; exact h1, by rw [← am_cw_set]; exact h2, h3⟩ hnd hL hcs)
    · exact h.elim
  · exact h.elim

theorem am_i_lastore (hC : am_Ctx p R s m args meth c dC dI dA d M) {P0 : am_P} (hm : ∀ pc L st G nc ns, P0 pc L st G nc ns → am_W p l e R s m args below meth c dC dI dA M A H0 ad0 n0 QW pc L st G nc ns) {C : am_C} {Q : Option Value → am_G → Prop} {X : am_P} {pc npc a b t u pos : Nat} {cv : Int32} {cl : Int64} {L : am_L} {st : List Value} {G : am_G} {nc ns : Nat} (hd : decode (am_mb M) pc = .ok (.lastore, am_len (.lastore) (npc - pc))) (hn : npc = pc + am_len (.lastore) (npc - pc)) (hok : am_okX MT M pc (.lastore) a b t u pos cv cl = true) (h : am_ins C M scr Q X P0 pc (.lastore) npc a b t u cv cl L st G nc ns) : am_W p l e R s m args below meth c dC dI dA M A H0 ad0 n0 QW pc L st G nc ns := by
  obtain ⟨hx, hb, hml, hown, hts, hini, hK, hKX, hRc, hRs, hRf, hRl⟩ := hC
  have hn : npc = pc + 1 := hn
  subst hn
  simp only [am_ins] at h
  split at h
  · split at h
    · rename_i hG
      obtain ⟨hin, h⟩ := h
      intro ad H locs ls hrel hn0 hw hnd hL hcs
      exact va_last hx hb hK hw.1 hw.2.1 hw.2.2 _ 1 (am_cw_get hG) rfl hin hd (fun H1 locs1 h1 h2 h3 => hm _ _ _ _ _ _ h ad H1 locs1 ls hrel (by rw [List.length_set]; exact hn0) ⟨by rw [← am_cw_set]; exact h1, by rw [← am_cw_set]; exact h2, h3⟩ hnd hL hcs)
    · exact h.elim
  · exact h.elim

theorem am_i_aaload (hC : am_Ctx p R s m args meth c dC dI dA d M) {P0 : am_P} (hm : ∀ pc L st G nc ns, P0 pc L st G nc ns → am_W p l e R s m args below meth c dC dI dA M A H0 ad0 n0 QW pc L st G nc ns) {C : am_C} {Q : Option Value → am_G → Prop} {X : am_P} {pc npc a b t u pos : Nat} {cv : Int32} {cl : Int64} {L : am_L} {st : List Value} {G : am_G} {nc ns : Nat} (hd : decode (am_mb M) pc = .ok (.aaload, am_len (.aaload) (npc - pc))) (hn : npc = pc + am_len (.aaload) (npc - pc)) (hok : am_okX MT M pc (.aaload) a b t u pos cv cl = true) (h : am_ins C M scr Q X P0 pc (.aaload) npc a b t u cv cl L st G nc ns) : am_W p l e R s m args below meth c dC dI dA M A H0 ad0 n0 QW pc L st G nc ns := by
  obtain ⟨hx, hb, hml, hown, hts, hini, hK, hKX, hRc, hRs, hRf, hRl⟩ := hC
  have hn : npc = pc + 1 := hn
  subst hn
  simp only [am_ins] at h
  split at h
  · split at h
    · rename_i k lst hG
      obtain ⟨hk3, hk6, hin, h⟩ := h
      intro ad H locs ls hrel hn0 hw hnd hL hcs
      have hty : ∃ Cc, (am_ty dA)[k]? = some (dA k, .object Cc) := by
        match k, hk3, hk6 with
        | 3, _, _ => exact ⟨_, rfl⟩
        | 4, _, _ => exact ⟨_, rfl⟩
        | 5, _, _ => exact ⟨_, rfl⟩
      obtain ⟨Cc, hty⟩ := hty
      refine va_aldq hx hb hK hw.1 _ k (am_cw_get hG) hty hin hd ?_
      refine W.eq ?_ (hm _ _ _ _ _ _ h ad H locs ls hrel hn0 hw hnd hL hcs)
      simp only [List.map_cons]
      congr 2
      cases lst.getD _ none <;> rfl
    · exact h.elim
  · exact h.elim

theorem am_i_aastore (hC : am_Ctx p R s m args meth c dC dI dA d M) {P0 : am_P} (hm : ∀ pc L st G nc ns, P0 pc L st G nc ns → am_W p l e R s m args below meth c dC dI dA M A H0 ad0 n0 QW pc L st G nc ns) {C : am_C} {Q : Option Value → am_G → Prop} {X : am_P} {pc npc a b t u pos : Nat} {cv : Int32} {cl : Int64} {L : am_L} {st : List Value} {G : am_G} {nc ns : Nat} (hd : decode (am_mb M) pc = .ok (.aastore, am_len (.aastore) (npc - pc))) (hn : npc = pc + am_len (.aastore) (npc - pc)) (hok : am_okX MT M pc (.aastore) a b t u pos cv cl = true) (h : am_ins C M scr Q X P0 pc (.aastore) npc a b t u cv cl L st G nc ns) : am_W p l e R s m args below meth c dC dI dA M A H0 ad0 n0 QW pc L st G nc ns := by
  obtain ⟨hx, hb, hml, hown, hts, hini, hK, hKX, hRc, hRs, hRf, hRl⟩ := hC
  have hn : npc = pc + 1 := hn
  subst hn
  simp only [am_ins] at h
  split at h
  · split at h
    · rename_i k lst ci fs hG hV
      obtain ⟨hk3, hk6, hci, hin, h⟩ := h
      intro ad H locs ls hrel hn0 hw hnd hL hcs
      have hlt : (_ : Int32).toNatClampNeg < lst.length := Nat.lt_of_not_le fun z => hin (Or.inr z)
      have hty : ∃ r : vw_C, (am_ty dA)[k]? = some (dA k, .object r.1) ∧ vwCl[ci]? = some r := by
        subst hci
        match k, hk3, hk6 with
        | 3, _, _ => exact ⟨_, rfl, rfl⟩
        | 4, _, _ => exact ⟨_, rfl, rfl⟩
        | 5, _, _ => exact ⟨_, rfl, rfl⟩
      obtain ⟨r, hty, hr⟩ := hty
      exact va_astq hx hb hK hw.1 hw.2.1 hw.2.2 _ k _ ci (am_cw_get hG) hty (am_cw_get hV) hr hin hd (fun H1 locs1 h1 h2 h3 => hm _ _ _ _ _ _ h ad H1 locs1 ls hrel (by rw [List.length_set]; exact hn0) ⟨by rw [← am_set_R hlt]; exact h1, by rw [← am_set_R hlt]; exact h2, h3⟩ hnd hL hcs)
    · exact h.elim
  · exact h.elim

theorem am_i_arraylength (hC : am_Ctx p R s m args meth c dC dI dA d M) {P0 : am_P} (hm : ∀ pc L st G nc ns, P0 pc L st G nc ns → am_W p l e R s m args below meth c dC dI dA M A H0 ad0 n0 QW pc L st G nc ns) {C : am_C} {Q : Option Value → am_G → Prop} {X : am_P} {pc npc a b t u pos : Nat} {cv : Int32} {cl : Int64} {L : am_L} {st : List Value} {G : am_G} {nc ns : Nat} (hd : decode (am_mb M) pc = .ok (.arraylength, am_len (.arraylength) (npc - pc))) (hn : npc = pc + am_len (.arraylength) (npc - pc)) (hok : am_okX MT M pc (.arraylength) a b t u pos cv cl = true) (h : am_ins C M none Q X P0 pc (.arraylength) npc a b t u cv cl L st G nc ns) : am_W p l e R s m args below meth c dC dI dA M A H0 ad0 n0 QW pc L st G nc ns := by
  obtain ⟨hx, hb, hml, hown, hts, hini, hK, hKX, hRc, hRs, hRf, hRl⟩ := hC
  have hn : npc = pc + 1 := hn
  subst hn
  simp only [am_ins] at h
  split at h
  · split at h
    · rename_i k n f hG
      obtain ⟨hk, h⟩ := h
      intro ad H locs ls hrel hn0 hw hnd hL hcs
      have hty : ∃ ty, (am_ty dA)[k]? = some (dA k, ty) := by
        match k, hk with
        | 0, _ => exact ⟨_, rfl⟩
        | 1, _ => exact ⟨_, rfl⟩
        | 2, _ => exact ⟨_, rfl⟩
      obtain ⟨ty, hty⟩ := hty
      exact va_alen hx hb hK hw.1 _ k (am_cw_get hG) hty rfl hd (hm _ _ _ _ _ _ h ad H locs ls hrel hn0 hw hnd hL hcs)
    · rename_i hG
      intro ad H locs ls hrel hn0 hw hnd hL hcs
      exact va_alen hx hb hK hw.1 _ 1 (am_cw_get hG) rfl rfl hd (hm _ _ _ _ _ _ h ad H locs ls hrel hn0 hw hnd hL hcs)
    · rename_i k lst hG
      obtain ⟨hk3, hk6, h⟩ := h
      intro ad H locs ls hrel hn0 hw hnd hL hcs
      have hty : ∃ ty, (am_ty dA)[k]? = some (dA k, ty) := by
        match k, hk3, hk6 with
        | 3, _, _ => exact ⟨_, rfl⟩
        | 4, _, _ => exact ⟨_, rfl⟩
        | 5, _, _ => exact ⟨_, rfl⟩
      obtain ⟨ty, hty⟩ := hty
      exact va_alen hx hb hK hw.1 _ k (am_cw_get hG) hty rfl hd (hm _ _ _ _ _ _ h ad H locs ls hrel hn0 hw hnd hL hcs)
    · exact h.elim
  · exact h.elim

theorem am_i_new {idx : Nat} (hC : am_Ctx p R s m args meth c dC dI dA d M) {P0 : am_P} (hm : ∀ pc L st G nc ns, P0 pc L st G nc ns → am_W p l e R s m args below meth c dC dI dA M A H0 ad0 n0 QW pc L st G nc ns) {C : am_C} {Q : Option Value → am_G → Prop} {X : am_P} {pc npc a b t u pos : Nat} {cv : Int32} {cl : Int64} {L : am_L} {st : List Value} {G : am_G} {nc ns : Nat} (hd : decode (am_mb M) pc = .ok (.new idx, am_len (.new idx) (npc - pc))) (hn : npc = pc + am_len (.new idx) (npc - pc)) (hok : am_okX MT M pc (.new idx) a b t u pos cv cl = true) (h : am_ins C M scr Q X P0 pc (.new idx) npc a b t u cv cl L st G nc ns) (hA : ∀ q, H0.size ≤ q → A q) (ht : t = 0) : am_W p l e R s m args below meth c dC dI dA M A H0 ad0 n0 QW pc L st G nc ns := by
  obtain ⟨hx, hb, hml, hown, hts, hini, hK, hKX, hRc, hRs, hRf, hRl⟩ := hC
  have hn : npc = pc + 3 := hn
  subst hn
  match t, ht with
  | 0, _ =>
    simp only [am_okX] at hok
    split at hok
    · rename_i Cn T N hcl
      simp only [Bool.and_eq_true, decide_eq_true_eq] at hok
      obtain ⟨⟨rfl, hcw⟩, hiw⟩ := hok
      simp only [am_ins] at h
      obtain ⟨hc1, hc2, hwf, h⟩ := h
      have hwf2 := hwf
      simp only [am_wf, am_wfc, Bool.and_eq_true, decide_eq_true_eq] at hwf2
      obtain ⟨⟨⟨hwL, hwS⟩, hwG⟩, hbig⟩ := hwf2
      obtain ⟨hin, ty, hty, hnm, hdf⟩ := am_cls_ok hcl
      intro ad H locs ls hrel hn0 hw hnd hL hcs
      refine va_new hx hb hts hin ty hty hown (hts _ (am_at_U hcw rfl)) (hts _ (am_at_U hiw rfl)) (hts _ (am_cls_ini hcl)) hK hw.1 hw.2.1 hw.2.2 hA hcl (fs := am_dfl a) hdf (by rw [hRc]; exact hc1) (by rw [hRs]; exact hc2) hd (fun q H1 h1 h2 h3 => ?_)
      have hxx : ∀ k : Nat, k < G.length ∨ 1000000 ≤ k → va_up ad G.length q k = ad k := fun k hk => by
        simp only [va_up]
        rw [if_neg (by omega)]
      have hk := hm _ _ _ _ _ _ h (va_up ad G.length q) H1 locs ls ⟨fun z => by omega, fun k hk => (hxx k (by omega)).trans (hrel.2 k hk)⟩ (by rw [List.length_append]; omega) (am_Wd_new hwG (by simp only [am_ce, am_dfl_cv]) h1 h2 h3 hbig) hnd (am_LH_ad hxx hwL hL) ⟨hc1, hc2⟩
      refine W.eq ?_ hk
      simp only [List.map_cons, am_cv, am_st_ad hxx hwS, va_up, if_true]
    · cases hok

theorem am_i_newarray {aty : ArrayType} (hC : am_Ctx p R s m args meth c dC dI dA d M) {P0 : am_P} (hm : ∀ pc L st G nc ns, P0 pc L st G nc ns → am_W p l e R s m args below meth c dC dI dA M A H0 ad0 n0 QW pc L st G nc ns) {C : am_C} {Q : Option Value → am_G → Prop} {X : am_P} {pc npc a b t u pos : Nat} {cv : Int32} {cl : Int64} {L : am_L} {st : List Value} {G : am_G} {nc ns : Nat} (hd : decode (am_mb M) pc = .ok (.newarray aty, am_len (.newarray aty) (npc - pc))) (hn : npc = pc + am_len (.newarray aty) (npc - pc)) (hok : am_okX MT M pc (.newarray aty) a b t u pos cv cl = true) (h : am_ins C M scr Q X P0 pc (.newarray aty) npc a b t u cv cl L st G nc ns) (hA : ∀ q, H0.size ≤ q → A q) : am_W p l e R s m args below meth c dC dI dA M A H0 ad0 n0 QW pc L st G nc ns := by
  obtain ⟨hx, hb, hml, hown, hts, hini, hK, hKX, hRc, hRs, hRf, hRl⟩ := hC
  have hn : npc = pc + 2 := hn
  subst hn
  simp only [am_okX, Bool.and_eq_true, decide_eq_true_eq] at hok
  obtain ⟨⟨ha, rfl⟩, hwd⟩ := hok
  simp only [am_ins] at h
  split at h
  · rename_i n st1
    obtain ⟨hneg, hsz, hc1, hc2, hwf, h⟩ := h
    have hwf2 := hwf
    simp only [am_wf, am_wfc, Bool.and_eq_true, decide_eq_true_eq] at hwf2
    obtain ⟨⟨⟨hwL, hwS⟩, hwG⟩, hbig⟩ := hwf2
    intro ad H locs ls hrel hn0 hw hnd hL hcs
    have key : ∀ (a0 : vp_A) (ty : FieldType), newarray.typeOf (am_aty a) = ty → (∀ cA : ClassId, vp_cell cA a0 = arrV cA n.toNatClampNeg (fun _ => defaultValue ty)) → n.toNatClampNeg * componentBytes ty ≤ 536870912 → (∀ ad1 : Nat → Nat, am_ce dA ad1 (am_newa a n.toNatClampNeg) = .inl (dA a, a0)) → W p l e R s m args below meth c H locs nc ns QW (F0 m pc ls ((Value.int n :: st1).map (am_cv ad))) := by
      intro a0 ty hty ha0 hbytes hce
      refine va_newa hx hb (hts _ (am_at_U hwd rfl)) hty hK hw.1 hw.2.1 hw.2.2 hA ha0 hneg rfl hbytes (by rw [hRc]; exact hc1) (by rw [hRs]; exact hc2) hd (fun q cA H1 hK1 h1 h2 h3 => ?_)
      have hcA := am_prim ha hty hK hK1
      subst hcA
      have hxx : ∀ k : Nat, k < G.length ∨ 1000000 ≤ k → va_up ad G.length q k = ad k := fun k hk => by
        simp only [va_up]
        rw [if_neg (by omega)]
      have hk := hm _ _ _ _ _ _ h (va_up ad G.length q) H1 locs ls ⟨fun z => by omega, fun k hk => (hxx k (by omega)).trans (hrel.2 k hk)⟩ (by rw [List.length_append]; omega) (am_Wd_new hwG (hce _) h1 h2 h3 hbig) hnd (am_LH_ad hxx hwL hL) ⟨hc1, hc2⟩
      refine W.eq ?_ hk
      simp only [List.map_cons, am_cv, am_st_ad hxx hwS, va_up, if_true]
    match a, ha with
    | 0, _ => exact key (n.toNatClampNeg, .inl (fun _ => 0)) .int rfl (fun _ => rfl) (by show n.toNatClampNeg * 4 ≤ _; omega) (fun _ => rfl)
    | 1, _ => exact key (n.toNatClampNeg, .inr (.inl (fun _ => 0))) .long rfl (fun _ => rfl) (by show n.toNatClampNeg * 8 ≤ _; omega) (fun _ => rfl)
    | 2, _ => exact key (n.toNatClampNeg, .inl (fun _ => 0)) .boolean rfl (fun _ => rfl) (by show n.toNatClampNeg * 1 ≤ _; omega) (fun _ => rfl)
  · exact h.elim

theorem am_i_anewarray {idx : Nat} (hC : am_Ctx p R s m args meth c dC dI dA d M) {P0 : am_P} (hm : ∀ pc L st G nc ns, P0 pc L st G nc ns → am_W p l e R s m args below meth c dC dI dA M A H0 ad0 n0 QW pc L st G nc ns) {C : am_C} {Q : Option Value → am_G → Prop} {X : am_P} {pc npc a b t u pos : Nat} {cv : Int32} {cl : Int64} {L : am_L} {st : List Value} {G : am_G} {nc ns : Nat} (hd : decode (am_mb M) pc = .ok (.anewarray idx, am_len (.anewarray idx) (npc - pc))) (hn : npc = pc + am_len (.anewarray idx) (npc - pc)) (hok : am_okX MT M pc (.anewarray idx) a b t u pos cv cl = true) (h : am_ins C M scr Q X P0 pc (.anewarray idx) npc a b t u cv cl L st G nc ns) (hA : ∀ q, H0.size ≤ q → A q) : am_W p l e R s m args below meth c dC dI dA M A H0 ad0 n0 QW pc L st G nc ns := by
  obtain ⟨hx, hb, hml, hown, hts, hini, hK, hKX, hRc, hRs, hRf, hRl⟩ := hC
  have hn : npc = pc + 3 := hn
  subst hn
  simp only [am_okX, Bool.and_eq_true, decide_eq_true_eq] at hok
  obtain ⟨⟨ha3, ha6⟩, hok⟩ := hok
  split at hok
  · rename_i Cn T N hcl
    simp only [am_ins] at h
    split at h
    · rename_i n st1
      obtain ⟨hneg, hsz, hc1, hc2, hwf, h⟩ := h
      have hwf2 := hwf
      simp only [am_wf, am_wfc, Bool.and_eq_true, decide_eq_true_eq] at hwf2
      obtain ⟨⟨⟨hwL, hwS⟩, hwG⟩, hbig⟩ := hwf2
      have hty : (am_ty dA)[a]? = some (dA a, .object Cn) ∧ va_AO Cn s := by
        match a, ha3, ha6 with
        | 3, _, _ => cases hcl; exact ⟨rfl, hKX.2.1⟩
        | 4, _, _ => cases hcl; exact ⟨rfl, hKX.2.2.1⟩
        | 5, _, _ => cases hcl; exact ⟨rfl, hKX.2.2.2⟩
      intro ad H locs ls hrel hn0 hw hnd hL hcs
      refine va_newq hx hb hown (hts _ (am_at_U hok rfl)) hty.2 hK hw.1 hw.2.1 hw.2.2 hA hneg rfl (by omega) (by rw [hRc]; exact hc1) (by rw [hRs]; exact hc2) hd (fun q cA H1 hK1 h1 h2 h3 => ?_)
      have hcA := am_obj hty.1 hK hK1
      subst hcA
      have hce : am_ce dA (va_up ad G.length q) (.inr (.inr (.inl (a, List.replicate n.toNatClampNeg none)))) = .inl (dA a, n.toNatClampNeg, .inr (.inr (.inr (.inr (fun _ => none))))) := by
        simp only [am_ce, List.length_replicate]
        congr 7
        funext j
        rw [List.getD_eq_getElem?_getD, List.getElem?_replicate]
        split <;> rfl
      have hxx : ∀ k : Nat, k < G.length ∨ 1000000 ≤ k → va_up ad G.length q k = ad k := fun k hk => by
        simp only [va_up]
        rw [if_neg (by omega)]
      have hk := hm _ _ _ _ _ _ h (va_up ad G.length q) H1 locs ls ⟨fun z => by omega, fun k hk => (hxx k (by omega)).trans (hrel.2 k hk)⟩ (by rw [List.length_append]; omega) (am_Wd_new hwG hce h1 h2 h3 hbig) hnd (am_LH_ad hxx hwL hL) ⟨hc1, hc2⟩
      refine W.eq ?_ hk
      simp only [List.map_cons, am_cv, am_st_ad hxx hwS, va_up, if_true]
    · exact h.elim
  · cases hok

theorem am_i_mmax {idx : Nat} (hC : am_Ctx p R s m args meth c dC dI dA d M) {P0 : am_P} (hm : ∀ pc L st G nc ns, P0 pc L st G nc ns → am_W p l e R s m args below meth c dC dI dA M A H0 ad0 n0 QW pc L st G nc ns) {C : am_C} {Q : Option Value → am_G → Prop} {X : am_P} {pc npc a b t u pos : Nat} {cv : Int32} {cl : Int64} {L : am_L} {st : List Value} {G : am_G} {nc ns : Nat} (hd : decode (am_mb M) pc = .ok (.invokestatic idx, am_len (.invokestatic idx) (npc - pc))) (hn : npc = pc + am_len (.invokestatic idx) (npc - pc)) (hok : am_okX MT M pc (.invokestatic idx) a b t u pos cv cl = true) (h : am_ins C M scr Q X P0 pc (.invokestatic idx) npc a b t u cv cl L st G nc ns) (ht : t = 6) : am_W p l e R s m args below meth c dC dI dA M A H0 ad0 n0 QW pc L st G nc ns := by
  obtain ⟨hx, hb, hml, hown, hts, hini, hK, hKX, hRc, hRs, hRf, hRl⟩ := hC
  have hn : npc = pc + 3 := hn
  subst hn
  subst ht
  simp only [am_okX] at hok
  simp only [am_ins] at h
  split at h
  · obtain ⟨hcat, h⟩ := h
    intro ad H locs ls hrel hn0 hw hnd hL hcs
    exact va_mmax hx hb (hml.trans hL.2.1.symm) hown (hts _ (am_at_U hok rfl)) (hts _ am_w_maxs) (hts _ am_w_mi) (hts _ am_w_maxc) (by omega) (by rw [am_catsum]; omega) (by rw [hRc]; exact hcs.1) (by rw [hRs]; exact hcs.2) hd (hm _ _ _ _ _ _ h ad H locs ls hrel hn0 hw hnd hL hcs)
  · exact h.elim

theorem am_i_mmin {idx : Nat} (hC : am_Ctx p R s m args meth c dC dI dA d M) {P0 : am_P} (hm : ∀ pc L st G nc ns, P0 pc L st G nc ns → am_W p l e R s m args below meth c dC dI dA M A H0 ad0 n0 QW pc L st G nc ns) {C : am_C} {Q : Option Value → am_G → Prop} {X : am_P} {pc npc a b t u pos : Nat} {cv : Int32} {cl : Int64} {L : am_L} {st : List Value} {G : am_G} {nc ns : Nat} (hd : decode (am_mb M) pc = .ok (.invokestatic idx, am_len (.invokestatic idx) (npc - pc))) (hn : npc = pc + am_len (.invokestatic idx) (npc - pc)) (hok : am_okX MT M pc (.invokestatic idx) a b t u pos cv cl = true) (h : am_ins C M scr Q X P0 pc (.invokestatic idx) npc a b t u cv cl L st G nc ns) (ht : t = 7) : am_W p l e R s m args below meth c dC dI dA M A H0 ad0 n0 QW pc L st G nc ns := by
  obtain ⟨hx, hb, hml, hown, hts, hini, hK, hKX, hRc, hRs, hRf, hRl⟩ := hC
  have hn : npc = pc + 3 := hn
  subst hn
  subst ht
  simp only [am_okX] at hok
  simp only [am_ins] at h
  split at h
  · obtain ⟨hcat, h⟩ := h
    intro ad H locs ls hrel hn0 hw hnd hL hcs
    exact va_mmin hx hb (hml.trans hL.2.1.symm) hown (hts _ (am_at_U hok rfl)) (hts _ am_w_mins) (hts _ am_w_mi) (hts _ am_w_minc) (by omega) (by rw [am_catsum]; omega) (by rw [hRc]; exact hcs.1) (by rw [hRs]; exact hcs.2) hd (hm _ _ _ _ _ _ h ad H locs ls hrel hn0 hw hnd hL hcs)
  · exact h.elim

theorem am_i_mabs {idx : Nat} (hC : am_Ctx p R s m args meth c dC dI dA d M) {P0 : am_P} (hm : ∀ pc L st G nc ns, P0 pc L st G nc ns → am_W p l e R s m args below meth c dC dI dA M A H0 ad0 n0 QW pc L st G nc ns) {C : am_C} {Q : Option Value → am_G → Prop} {X : am_P} {pc npc a b t u pos : Nat} {cv : Int32} {cl : Int64} {L : am_L} {st : List Value} {G : am_G} {nc ns : Nat} (hd : decode (am_mb M) pc = .ok (.invokestatic idx, am_len (.invokestatic idx) (npc - pc))) (hn : npc = pc + am_len (.invokestatic idx) (npc - pc)) (hok : am_okX MT M pc (.invokestatic idx) a b t u pos cv cl = true) (h : am_ins C M scr Q X P0 pc (.invokestatic idx) npc a b t u cv cl L st G nc ns) (ht : t = 8) : am_W p l e R s m args below meth c dC dI dA M A H0 ad0 n0 QW pc L st G nc ns := by
  obtain ⟨hx, hb, hml, hown, hts, hini, hK, hKX, hRc, hRs, hRf, hRl⟩ := hC
  have hn : npc = pc + 3 := hn
  subst hn
  subst ht
  simp only [am_okX] at hok
  simp only [am_ins] at h
  split at h
  · obtain ⟨hcat, h⟩ := h
    intro ad H locs ls hrel hn0 hw hnd hL hcs
    exact va_mabs hx hb (hml.trans hL.2.1.symm) hown (hts _ (am_at_U hok rfl)) (hts _ am_w_abss) (hts _ am_w_mi) (hts _ am_w_absc) (by omega) (by rw [am_catsum]; omega) (by rw [hRc]; exact hcs.1) (by rw [hRs]; exact hcs.2) hd (hm _ _ _ _ _ _ h ad H locs ls hrel hn0 hw hnd hL hcs)
  · exact h.elim

theorem am_i_mmaxl {idx : Nat} (hC : am_Ctx p R s m args meth c dC dI dA d M) {P0 : am_P} (hm : ∀ pc L st G nc ns, P0 pc L st G nc ns → am_W p l e R s m args below meth c dC dI dA M A H0 ad0 n0 QW pc L st G nc ns) {C : am_C} {Q : Option Value → am_G → Prop} {X : am_P} {pc npc a b t u pos : Nat} {cv : Int32} {cl : Int64} {L : am_L} {st : List Value} {G : am_G} {nc ns : Nat} (hd : decode (am_mb M) pc = .ok (.invokestatic idx, am_len (.invokestatic idx) (npc - pc))) (hn : npc = pc + am_len (.invokestatic idx) (npc - pc)) (hok : am_okX MT M pc (.invokestatic idx) a b t u pos cv cl = true) (h : am_ins C M scr Q X P0 pc (.invokestatic idx) npc a b t u cv cl L st G nc ns) (ht : t = 9) : am_W p l e R s m args below meth c dC dI dA M A H0 ad0 n0 QW pc L st G nc ns := by
  obtain ⟨hx, hb, hml, hown, hts, hini, hK, hKX, hRc, hRs, hRf, hRl⟩ := hC
  have hn : npc = pc + 3 := hn
  subst hn
  subst ht
  simp only [am_okX] at hok
  simp only [am_ins] at h
  split at h
  · obtain ⟨hcat, h⟩ := h
    intro ad H locs ls hrel hn0 hw hnd hL hcs
    exact va_mmax_long hx hb (hml.trans hL.2.1.symm) hown (hts _ (am_at_U hok rfl)) (hts _ am_w_maxls) (hts _ am_w_mi) (hts _ am_w_maxlc) (by omega) (by rw [am_catsum]; omega) (by rw [hRc]; exact hcs.1) (by rw [hRs]; exact hcs.2) hd (hm _ _ _ _ _ _ h ad H locs ls hrel hn0 hw hnd hL hcs)
  · exact h.elim

theorem am_i_mabsl {idx : Nat} (hC : am_Ctx p R s m args meth c dC dI dA d M) {P0 : am_P} (hm : ∀ pc L st G nc ns, P0 pc L st G nc ns → am_W p l e R s m args below meth c dC dI dA M A H0 ad0 n0 QW pc L st G nc ns) {C : am_C} {Q : Option Value → am_G → Prop} {X : am_P} {pc npc a b t u pos : Nat} {cv : Int32} {cl : Int64} {L : am_L} {st : List Value} {G : am_G} {nc ns : Nat} (hd : decode (am_mb M) pc = .ok (.invokestatic idx, am_len (.invokestatic idx) (npc - pc))) (hn : npc = pc + am_len (.invokestatic idx) (npc - pc)) (hok : am_okX MT M pc (.invokestatic idx) a b t u pos cv cl = true) (h : am_ins C M scr Q X P0 pc (.invokestatic idx) npc a b t u cv cl L st G nc ns) (ht : t = 10) : am_W p l e R s m args below meth c dC dI dA M A H0 ad0 n0 QW pc L st G nc ns := by
  obtain ⟨hx, hb, hml, hown, hts, hini, hK, hKX, hRc, hRs, hRf, hRl⟩ := hC
  have hn : npc = pc + 3 := hn
  subst hn
  subst ht
  simp only [am_okX] at hok
  simp only [am_ins] at h
  split at h
  · obtain ⟨hcat, h⟩ := h
    intro ad H locs ls hrel hn0 hw hnd hL hcs
    exact va_mabs_long hx hb (hml.trans hL.2.1.symm) hown (hts _ (am_at_U hok rfl)) (hts _ am_w_absls) (hts _ am_w_mi) (hts _ am_w_abslc) (by omega) (by rw [am_catsum]; omega) (by rw [hRc]; exact hcs.1) (by rw [hRs]; exact hcs.2) hd (hm _ _ _ _ _ _ h ad H locs ls hrel hn0 hw hnd hL hcs)
  · exact h.elim

theorem am_i_acopy {idx : Nat} (hC : am_Ctx p R s m args meth c dC dI dA d M) {P0 : am_P} (hm : ∀ pc L st G nc ns, P0 pc L st G nc ns → am_W p l e R s m args below meth c dC dI dA M A H0 ad0 n0 QW pc L st G nc ns) {C : am_C} {Q : Option Value → am_G → Prop} {X : am_P} {pc npc a b t u pos : Nat} {cv : Int32} {cl : Int64} {L : am_L} {st : List Value} {G : am_G} {nc ns : Nat} (hd : decode (am_mb M) pc = .ok (.invokestatic idx, am_len (.invokestatic idx) (npc - pc))) (hn : npc = pc + am_len (.invokestatic idx) (npc - pc)) (hok : am_okX MT M pc (.invokestatic idx) a b t u pos cv cl = true) (h : am_ins C M scr Q X P0 pc (.invokestatic idx) npc a b t u cv cl L st G nc ns) (ht : t = 11) : am_W p l e R s m args below meth c dC dI dA M A H0 ad0 n0 QW pc L st G nc ns := by
  obtain ⟨hx, hb, hml, hown, hts, hini, hK, hKX, hRc, hRs, hRf, hRl⟩ := hC
  have hn : npc = pc + 3 := hn
  subst hn
  subst ht
  simp only [am_okX] at hok
  simp only [am_ins] at h
  split at h
  · unfold am_cpy at h
    obtain ⟨hp1, hp2, hp3, hcat, h⟩ := h
    split at h
    · rename_i t0 n0' f t1 n1 g hG0 hG1
      obtain ⟨rfl, rfl, hb0, hb1, h⟩ := h
      intro ad H locs ls hrel hn0 hw hnd hL hcs
      exact va_copyi hx hb (hml.trans hL.2.1.symm) hown (hts _ (am_at_U hok rfl)) (hts _ am_w_an) (hts _ am_w_as) (hts _ am_w_ai) hK hw.1 hw.2.1 hw.2.2 _ _ 0 0 (am_cw_get hG0) (am_cw_get hG1) rfl rfl rfl hp1 hp2 hp3 hb0 hb1 (fun _ _ => rfl) (by omega) (by rw [am_catsum]; simp only [nativeFrameWords]; split <;> omega) hd (fun H1 locs1 h1 h2 h3 => hm _ _ _ _ _ _ h ad H1 locs1 ls hrel (by rw [List.length_set]; exact hn0) ⟨by rw [← am_cw_set]; exact h1, by rw [← am_cw_set]; exact h2, h3⟩ hnd hL hcs)
    · rename_i n0' f n1 g hG0 hG1
      obtain ⟨hb0, hb1, h⟩ := h
      intro ad H locs ls hrel hn0 hw hnd hL hcs
      exact va_copyl hx hb (hml.trans hL.2.1.symm) hown (hts _ (am_at_U hok rfl)) (hts _ am_w_an) (hts _ am_w_as) (hts _ am_w_ai) hK hw.1 hw.2.1 hw.2.2 _ _ 1 1 (am_cw_get hG0) (am_cw_get hG1) rfl rfl rfl hp1 hp2 hp3 hb0 hb1 (fun _ _ => rfl) (by omega) (by rw [am_catsum]; simp only [nativeFrameWords]; split <;> omega) hd (fun H1 locs1 h1 h2 h3 => hm _ _ _ _ _ _ h ad H1 locs1 ls hrel (by rw [List.length_set]; exact hn0) ⟨by rw [← am_cw_set]; exact h1, by rw [← am_cw_set]; exact h2, h3⟩ hnd hL hcs)
    · exact h.elim
  · exact h.elim

theorem am_i_oinit {idx : Nat} (hC : am_Ctx p R s m args meth c dC dI dA d M) {P0 : am_P} (hm : ∀ pc L st G nc ns, P0 pc L st G nc ns → am_W p l e R s m args below meth c dC dI dA M A H0 ad0 n0 QW pc L st G nc ns) {C : am_C} {Q : Option Value → am_G → Prop} {X : am_P} {pc npc a b t u pos : Nat} {cv : Int32} {cl : Int64} {L : am_L} {st : List Value} {G : am_G} {nc ns : Nat} (hd : decode (am_mb M) pc = .ok (.invokespecial idx, am_len (.invokespecial idx) (npc - pc))) (hn : npc = pc + am_len (.invokespecial idx) (npc - pc)) (hok : am_okX MT M pc (.invokespecial idx) a b t u pos cv cl = true) (h : am_ins C M scr Q X P0 pc (.invokespecial idx) npc a b t u cv cl L st G nc ns) (ht : t = 5) : am_W p l e R s m args below meth c dC dI dA M A H0 ad0 n0 QW pc L st G nc ns := by
  obtain ⟨hx, hb, hml, hown, hts, hini, hK, hKX, hRc, hRs, hRf, hRl⟩ := hC
  have hn : npc = pc + 3 := hn
  subst hn
  subst ht
  simp only [am_okX] at hok
  simp only [am_ins] at h
  split at h
  · obtain ⟨hcat, h⟩ := h
    intro ad H locs ls hrel hn0 hw hnd hL hcs
    refine W.objInit hx hb hown (hts _ (am_at_U hok rfl)) (hts _ am_w_oi) (hts _ am_w_oc) rfl (hL.2.1.trans hml.symm) rfl hd (by omega) ?_ ?_
    · rw [am_catsum]
      show 2 * 0 + _ + 12 ≤ _
      omega
    · exact hm _ _ _ _ _ _ h ad H locs ls hrel hn0 hw hnd hL hcs
  · exact h.elim

end AMS
