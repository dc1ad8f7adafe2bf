/-! A refusing method of the class throws; a helper of the law catches. -/
abbrev nse : String := "java/util/NoSuchElementException"
abbrev xnm : List String := ["java/lang/RuntimeException", "java/lang/Exception"]
def xB : List Jvm.Cond := [.castable nse nse, .declares ⟨"java/lang/RuntimeException", "<init>", "()V"⟩, .declares ⟨"java/lang/Exception", "<init>", "()V"⟩, .declares ⟨"java/lang/Throwable", "<init>", "()V"⟩]
theorem xB_tab : ∀ w ∈ xB, w.onTables = true := by decide +kernel
theorem xB_warm {s U : State} (hW : s.WarmedH U.vm) (h : ∀ w ∈ xB, va_Nw w s) : ∀ w ∈ xB, va_Nw w U := fun w hw => by
  have h9 := h w hw
  simp only [xB, List.mem_cons, List.not_mem_nil, or_false] at hw
  rcases hw with rfl | rfl | rfl | rfl
  · exact va_Nw.warmC hW h9
  · exact va_Nw.warmD hW h9
  · exact va_Nw.warmD hW h9
  · exact va_Nw.warmD hW h9
theorem xB_same {u U : State} (hv : u.vm = U.vm) (h : ∀ w ∈ xB, va_Nw w u) : ∀ w ∈ xB, va_Nw w U := fun w hw => va_Nw.same (xB_tab w hw) hv (h w hw)
theorem xB_use {s : State} {args : Array Value} (h : ∀ w ∈ xB, va_Nw w s) : ∀ w ∈ xB, w.before args s = true := fun w hw => va_Nw.use (xB_tab w hw) (h w hw)
def xZ (A : Nat → Prop) (U : State) (H : Heap) : Prop := vx_Zq Bundle.tN "UNASSIGNED_STACK" Bundle.steD A U H ∧ vx_Zq Bundle.tN "SUPPRESSED_SENTINEL" Bundle.listD A U H ∧ ∀ w ∈ xB, va_Nw w U
theorem xZ_warm {A : Nat → Prop} {s U : State} {H : Heap} (hW : s.WarmedH U.vm) (h : xZ A s H) : xZ A U H := ⟨h.1.moved hW.alike, h.2.1.moved hW.alike, xB_warm hW h.2.2⟩
theorem xZ_same {A : Nat → Prop} {u U : State} {H : Heap} (hv : U.vm = u.vm) (h : xZ A u H) : xZ A U H := by
  have ha : u.vm.Alike U.vm := by rw [hv]; exact Vm.Alike.refl _
  exact ⟨h.1.moved ha, h.2.1.moved ha, xB_same hv.symm h.2.2⟩
theorem xZ_kept {A : Nat → Prop} {U : State} {H H1 : Heap} (h : xZ A U H) (hq : ∀ a : Nat, a < H.size → ¬ A a → H1[a]? = H[a]?) : xZ A U H1 := ⟨h.1.kept hq, h.2.1.kept hq, h.2.2⟩
theorem xZ_narrow {A B : Nat → Prop} {U : State} {H : Heap} (h : xZ A U H) (hAB : ∀ q, B q → A q) : xZ B U H := ⟨h.1.narrow hAB, h.2.1.narrow hAB, h.2.2⟩
def xPc (dC : Nat → ClassId) (dI : Nat → Nat → Nat) (dA : Nat → ClassId) (As : List Value) (G : am_G) (ad : Nat → Nat) (sz : Nat) : Array Value → State → Prop := va_Pc (As.map (am_cv ad)) (fun U => U.heap.size = sz ∧ va_P (dC, dI) vwCl (am_cw dA ad G) U.heap ∧ va_K (dC, dI) vwCl (am_ty dA) U ∧ va_D (fun _ => True) (am_cw dA ad G) ∧ am_KX U ∧ am_SX ad (va_A (am_cw dA ad G) sz) U U.heap ∧ xZ (va_A (am_cw dA ad G) sz) U U.heap)
theorem xBlind {dC : Nat → ClassId} {dI : Nat → Nat → Nat} {dA : Nat → ClassId} {As : List Value} {G : am_G} {ad : Nat → Nat} {sz : Nat} : FrameBlind (xPc dC dI dA As G ad sz) := by
  intro a U g mk q
  obtain ⟨q0, q1, qP, qK, qD, qX, qS, qZ⟩ := q
  exact ⟨q0, q1, qP, va_K.moved (u := U) (U := U.calling g mk a) (Vm.Alike.refl U.vm) qK, qD, am_KX_same (u := U) (U := U.calling g mk a) rfl qX, am_SX_same (u := U) (U := U.calling g mk a) rfl qS, xZ_same (u := U) (U := U.calling g mk a) rfl qZ⟩
section XM
variable {p : Program} {l : Launch} {e : Env} {R : Room} {s : State} {m : MethodId} {args : Array Value} {below : List Frame} {meth : Method} {c : Code} {dC : Nat → ClassId} {dI : Nat → Nat → Nat} {dA : Nat → ClassId} {d : Nat} {M : am_M} {A : Nat → Prop} {H0 : Heap} {ad0 : Nat → Nat} {n0 : Nat} {QW : State → Prop} {MT : Nat → Option am_M}
theorem xpre {H : Heap} {ad : Nat → Nat} {G : am_G} {locs : List Loc} {As : List Value} (hC : am_Ctx p R s m args meth c dC dI dA d M) (hA : ∀ q, H0.size ≤ q → A q) (hSX : am_SX ad0 A s H0) (hXZ : xZ A s H0) (hrel : am_Rel (am_mc M) n0 ad0 ad) (hw : am_Wd dC dI dA A H0 ad G H locs) : ∀ U : State, U.heap = H → s.WarmedH U.vm → xPc dC dI dA As G ad H.size (As.map (am_cv ad)).toArray U := by
  intro U hU hW
  obtain ⟨b0, b1, b2, b3, b4, b5, b6⟩ := am_preS (As := As) hC hA hSX hrel hw U hU hW
  have hF : ∀ q, va_A (am_cw dA ad G) H.size q → A q := fun q h => by
    rcases h with ⟨k, e2, h⟩ | h
    · exact hw.2.1.2 k (q, e2) h
    · exact hA q (Nat.le_trans hw.2.2.1 h)
  refine ⟨b0, b1, b2, b3, b4, b5, b6, ?_⟩
  rw [hU]
  exact xZ_warm hW (xZ_narrow (xZ_kept hXZ hw.2.2.2.1) hF)
end XM
/-- a method of the class that throws, and changes nothing -/
def xMetT (l : Launch) (dC : Nat → ClassId) (dI : Nat → Nat → Nat) (dA : Nat → ClassId) (d : Nat) (M : am_M) (As : List Value) (G : am_G) : Prop := ∀ (ad : Nat → Nat) (sz : Nat), vx_Met l (am_my M) (am_ws M) (am_rm d M) (xPc dC dI dA As G ad sz) (va_Qi (fun (_ : Int32) (_ : Unit) => False) (fun _ _ => True) (va_A (am_cw dA ad G) sz)) (vx_X (fun _ : Unit => True) (fun E _ t => E = nse ∧ ∃ ad1 : Nat → Nat, am_Rel 1 G.length ad ad1 ∧ va_P (dC, dI) vwCl (am_cw dA ad1 G) t.heap ∧ va_D (va_A (am_cw dA ad G) sz) (am_cw dA ad1 G)) (va_A (am_cw dA ad G) sz)) 1 6 (va_A (am_cw dA ad G) sz)
theorem xgood : ∀ w ∈ (vx_at0 RX10 153 nse xnm).filter goodWord, w ∈ lw_tbl := by decide +kernel
theorem xbad : ∀ w ∈ (vx_at0 RX10 153 nse xnm).filter (fun w => !goodWord w), w ∈ xB := by decide +kernel
theorem xot : ∀ w ∈ Jvm.Cond.classLink RX10 151 nse :: Jvm.Cond.initialized nse :: vx_at0 RX10 153 nse xnm, vx_ot w = true := by decide +kernel
theorem xgoodU : ∀ w ∈ (vx_at0 RX10 153 nse xnm).filter goodWord, w ∈ am_U := fun w hw => List.mem_filter.mpr ⟨xgood w hw, (List.mem_filter.mp hw).2⟩
theorem xfit : Bundle.fit nse = true ∧ ∀ n ∈ xnm, Bundle.fit n = true := by decide +kernel
theorem xthrow {l : Launch} (hl : l.stackTraces = false) {dC : Nat → ClassId} {dI : Nat → Nat → Nat} {dA : Nat → ClassId} {MT : Nat → Option am_M} (hTX : am_TX l dC dI dA MT) (d : Nat) {dz : Nat} (hsC : am_sC l dC dI dA MT d (am_Call MT dz)) {M : am_M} (hok : am_okM M = true) (hT : am_okT MT M = true) (hmc : am_mc M = 1) (hms : am_ms M = 6) (hcl : (am_my M).cls = RX10) {As : List Value} {G : am_G} (hlen : (am_ent As).length ≤ am_mL M) (hlong : ∀ v ∈ As, v.category = 2 → ∃ x, v = .long x) {q : Nat}
    (d0 : decode (am_mb M) q = .ok (.new 151, 3)) (d3 : decode (am_mb M) (q + 3) = .ok (.dup, 1)) (d4 : decode (am_mb M) (q + 4) = .ok (.invokespecial 153, 3)) (d7 : decode (am_mb M) (q + 7) = .ok (.athrow, 1))
    (hE : am_Ex (am_Call MT dz) M none (fun _ _ => False) (fun pc _ st G1 nc ns => q = pc ∧ [] = st ∧ G = G1 ∧ 0 = nc ∧ 0 = ns) 0 (am_entL (am_mL M) As) [] G 0 0) : xMetT l dC dI dA d M As G := by
  obtain ⟨hcode, hinit, hpl, hmh, hvh, hmL, hks⟩ := am_okM_ok hok
  intro ad sz
  refine vx_ofW (cc := am_mb M) (maxL := am_mL M) (ret := am_mr M) hpl rfl ?_
  intro p e s m args below meth c s₁ B hml htab hv
  obtain ⟨rfl, hsz, hP, hK, hD0, hKX, hSX, hXZ⟩ := hv
  have hx := B.exec
  have hb := B.bytes
  have hr := B.returns
  have hts0 := atoms_spec (ws := am_ws M) B.pre
  have hts : ∀ w ∈ am_U, w.before ((As.map (am_cv ad)).toArray) s = true := fun w hw => hts0 w (List.mem_cons_of_mem _ hw)
  have hown : s.vm.findClass (am_my M).cls = some m.cls := findClass_of_methodNamed B.named
  have hlocks := B.notSynchronized
  have hin : (am_my M).name = "<init>" → meth.name = "<init>" := fun z => (name_of_methodNamed B.named B.method).1.trans z
  subst hsz
  have hD := hD0.self (sz := s.heap.size)
  have hA : ∀ q : Nat, s.heap.size ≤ q → va_A (am_cw dA ad G) s.heap.size q := fun q h => Or.inr h
  have hC : am_Ctx p (am_rm d M) s m ((As.map (am_cv ad)).toArray) meth c dC dI dA d M := ⟨hx, hb, hml, hown, hts, hin, hK, hKX, rfl, rfl, Nat.le_refl _, Nat.le_refl _⟩
  rw [hcl] at hown
  have key := hE (am_W p l e (am_rm d M) s m ((As.map (am_cv ad)).toArray) below meth c dC dI dA M (va_A (am_cw dA ad G) s.heap.size) s.heap ad G.length (vx_MQ below (va_Qi (fun (_ : Int32) (_ : Unit) => False) (fun _ _ => True) (va_A (am_cw dA ad G) s.heap.size)) (vx_X (fun _ : Unit => True) (fun E _ t => E = nse ∧ ∃ ad1 : Nat → Nat, am_Rel 1 G.length ad ad1 ∧ va_P (dC, dI) vwCl (am_cw dA ad1 G) t.heap ∧ va_D (va_A (am_cw dA ad G) s.heap.size) (am_cw dA ad1 G)) (va_A (am_cw dA ad G) s.heap.size)) ((As.map (am_cv ad)).toArray) s 1 6 (va_A (am_cw dA ad G) s.heap.size)))
    (fun P0 hle pc L st G1 nc ns hstep => am_stepS hC hle hT hTX hsC hA hSX
      (fun pc L st G1 nc ns idx hX hdec => by
        obtain ⟨h1, h2, h3, h4, h5⟩ := hX
        subst h1; subst h2; subst h3; subst h4; subst h5
        intro ad1 H locs ls hrel hn0 hw hnd hL hcs
        refine vx_throw0 (own := RX10) (cls := nse) (names := xnm) (ik := 151) (ic := 153) hx hb hl hown xfit.1 xfit.2 (hts _ (am_at_U (pos := 1093) (by decide +kernel) rfl)) (hts _ (am_at_U (pos := 98) (by decide +kernel) rfl)) (vx_hat (fun w hw => hts w (xgoodU w hw)) xbad (xB_use hXZ.2.2)) xot hXZ.1 hXZ.2.1 hw.2.2 (hL.2.1.trans hml.symm) d0 d3 d4 d7 (fun x hx => (htab x hx).elim) ?_ ?_ ?_ ?_ hlocks ?_ (fun z hz => hw.2.2.2.2 z hz) (Nat.le_refl 1) (Nat.le_refl 6)
        · show 2 + 3 < d + 40
          omega
        · show 0 + (13 * (2 + 1) + 42) ≤ 80 * d + 2000
          omega
        · show 0 + 1 ≤ am_mc M
          omega
        · show 0 + 6 ≤ am_ms M
          omega
        · intro t hvm hz hq
          rw [hmc] at hrel
          refine ⟨(), trivial, ⟨rfl, ad1, hrel, hw.1.kept (fun k q hk => hq q.1 (hw.1 k q hk).lt), hw.2.1⟩, Nat.le_trans hw.2.2.1 hz, fun a ha hn => ?_⟩
          rw [hq a (Nat.lt_of_lt_of_le ha hw.2.2.1)]
          exact hw.2.2.2.1 a ha hn)
      (fun _ _ _ _ _ _ hq => hq.elim) (fun _ _ _ _ _ _ hq => hq.elim) (fun _ _ _ _ _ hq => hq.elim) hstep)
  rw [lg_entry_eq]
  refine key ad s.heap [] _ ⟨fun _ => rfl, fun _ _ => rfl⟩ (Nat.le_refl _) ⟨hP, hD, va_S.rf⟩ ?_ (am_entry ad hlen) ⟨Nat.zero_le _, Nat.zero_le _⟩
  intro i v hi hc
  exact hlong v (am_ent_mem As i v (am_entL_get hi)) hc
/-- a helper of the law -/
abbrev hp_ws (M : am_M) (hh : List (Nat × Nat × Nat × Nat)) : List Jvm.Cond := Jvm.Cond.codeWith (am_my M) (am_mb M) (am_mL M) (am_mr M) hh :: am_U
def hp_Met (l : Launch) (dC : Nat → ClassId) (dI : Nat → Nat → Nat) (dA : Nat → ClassId) (d : Nat) (M : am_M) (hh : List (Nat × Nat × Nat × Nat)) (As : List Value) (G : am_G) (post : Option Value → am_G → Prop) : Prop := ∀ (ad : Nat → Nat) (sz : Nat), Met l (am_my M) (hp_ws M hh) (am_rm d M) (xPc dC dI dA As G ad sz) (am_Qc dC dI dA M post G ad sz) (am_mc M) (am_ms M) (va_A (am_cw dA ad G) sz)
/-- it runs to its end -/
theorem hp_run {l : Launch} {dC : Nat → ClassId} {dI : Nat → Nat → Nat} {dA : Nat → ClassId} {MT : Nat → Option am_M} (hTX : am_TX l dC dI dA MT) (d : Nat) {d0 : Nat} (hsC : am_sC l dC dI dA MT d (am_Call MT d0)) {M : am_M} (hpl : plainName (am_my M).cls = true) (hT : am_okT MT M = true) {hh : List (Nat × Nat × Nat × Nat)} {As : List Value} {G : am_G} {post : Option Value → am_G → Prop} (hlen : (am_ent As).length ≤ am_mL M) (hlong : ∀ v ∈ As, v.category = 2 → ∃ x, v = .long x)
    (hE : am_Ex (am_Call MT d0) M none post (fun _ _ _ _ _ _ => False) 0 (am_entL (am_mL M) As) [] G 0 0) : hp_Met l dC dI dA d M hh As G post := by
  intro ad sz
  refine va_MetW (cc := am_mb M) (maxL := am_mL M) (ret := am_mr M) (hh := hh) hpl rfl ?_
  intro p e s m args below meth c s₁ B hml hv
  obtain ⟨rfl, hsz, hP, hK, hD0, hKX, hSX, hXZ⟩ := hv
  have hx := B.exec
  have hb := B.bytes
  have hr := B.returns
  have hts0 := atoms_spec (ws := hp_ws M hh) B.pre
  have hts : ∀ w ∈ am_U, w.before ((As.map (am_cv ad)).toArray) s = true := fun w hw => hts0 w (List.mem_cons_of_mem _ hw)
  have hown : s.vm.findClass (am_my M).cls = some m.cls := findClass_of_methodNamed B.named
  have hlocks := B.notSynchronized
  have hin : (am_my M).name = "<init>" → meth.name = "<init>" := fun z => (name_of_methodNamed B.named B.method).1.trans z
  subst hsz
  have hD := hD0.self (sz := s.heap.size)
  have hA : ∀ q : Nat, s.heap.size ≤ q → va_A (am_cw dA ad G) s.heap.size q := fun q h => Or.inr h
  have hC : am_Ctx p (am_rm d M) s m ((As.map (am_cv ad)).toArray) meth c dC dI dA d M := ⟨hx, hb, hml, hown, hts, hin, hK, hKX, rfl, rfl, Nat.le_refl _, Nat.le_refl _⟩
  have key := hE (am_W p l e (am_rm d M) s m ((As.map (am_cv ad)).toArray) below meth c dC dI dA M (va_A (am_cw dA ad G) s.heap.size) s.heap ad G.length (MQ below (am_Qc dC dI dA M post G ad s.heap.size) ((As.map (am_cv ad)).toArray) s (am_mc M) (am_ms M) (va_A (am_cw dA ad G) s.heap.size)))
    (fun P0 hle pc L st G1 nc ns hstep => am_stepS hC hle hT hTX hsC hA hSX (fun _ _ _ _ _ _ _ z => z.elim)
      (fun pc L x G2 nc ns hq hmr hd => by
        intro ad1 H locs ls hrel hn0 hw hnd hL hcs
        refine W.widen hcs.1 hcs.2 ?_
        rcases hmr with hmr | ⟨hmr, hx01⟩
        · refine W.iret hx hb (hr.trans hmr) (fun t ht _ => ?_) (fun q hq => hw.2.2.2.2 q hq) hd hlocks
          unfold am_Qc
          rw [hmr]
          exact ⟨⟨x, (G2, ad1), rfl, hq, by rw [ht]; exact hw.1, hw.2.1, hn0, hrel⟩, hw.2.2.F ht⟩
        · refine W.zret hx hb (hr.trans hmr) (am_nb hx01).1 (fun t ht _ => ?_) (fun q hq => hw.2.2.2.2 q hq) hd hlocks
          unfold am_Qc
          rw [hmr]
          exact ⟨⟨x, (G2, ad1), rfl, hq, by rw [ht]; exact hw.1, hw.2.1, hn0, hrel⟩, hw.2.2.F ht⟩)
      (fun pc L x G2 nc ns hq hmr hd => by
        intro ad1 H locs ls hrel hn0 hw hnd hL hcs
        refine W.widen hcs.1 hcs.2 ?_
        refine W.lret hx hb (hr.trans hmr) (fun t ht _ => ?_) (fun q hq => hw.2.2.2.2 q hq) hd hlocks
        unfold am_Qc
        rw [hmr]
        exact ⟨⟨x, (G2, ad1), rfl, hq, by rw [ht]; exact hw.1, hw.2.1, hn0, hrel⟩, hw.2.2.F ht⟩)
      (fun pc L G2 nc ns hq hmr hd => by
        intro ad1 H locs ls hrel hn0 hw hnd hL hcs
        refine W.widen hcs.1 hcs.2 ?_
        refine W.vret hx hb (hr.trans hmr) (fun t ht _ => ?_) (fun q hq => hw.2.2.2.2 q hq) hd hlocks
        unfold am_Qc
        rw [hmr]
        exact ⟨⟨(G2, ad1), rfl, hq, by rw [ht]; exact hw.1, hw.2.1, hn0, hrel⟩, hw.2.2.F ht⟩)
      hstep)
  rw [lg_entry_eq]
  refine key ad s.heap [] _ ⟨fun _ => rfl, fun _ _ => rfl⟩ (Nat.le_refl _) ⟨hP, hD, va_S.rf⟩ ?_ (am_entry ad hlen) ⟨Nat.zero_le _, Nat.zero_le _⟩
  intro i v hi hc
  exact hlong v (am_ent_mem As i v (am_entL_get hi)) hc
/-- the class throws under it, it catches and answers 1 -/
theorem hp_catch {l : Launch} {dC : Nat → ClassId} {dI : Nat → Nat → Nat} {dA : Nat → ClassId} {MT : Nat → Option am_M} (hTX : am_TX l dC dI dA MT) (d : Nat) {d0 : Nat} (hsC : am_sC l dC dI dA MT d (am_Call MT d0)) {M M2 : am_M} (hpl : plainName (am_my M).cls = true) (hT : am_okT MT M = true) (hRL : (am_my M).cls = RL) (hmc : am_mc M = 1) (hms : am_ms M = 6) (hmr : am_mr M = some .int) {hh : List (Nat × Nat × Nat × Nat)} (hcw : Jvm.Cond.codeWith (am_my M) (am_mb M) (am_mL M) (am_mr M) hh ∈ am_U) {As As2 rest : List Value} {G : am_G} {q q2 idx o i w : Nat} {fs : List Value} {x : ExceptionTableEntry} (hlen : (am_ent As).length ≤ am_mL M) (hlong : ∀ v ∈ As, v.category = 2 → ∃ x, v = .long x)
    (hd : decode (am_mb M) q = .ok (.invokevirtual idx, 3)) (hok2 : am_okM M2 = true) (hkd2 : am_kd M2 = 1) (hlk : Jvm.Cond.methodLink RL idx (am_my M2) ∈ am_U) (hmc2 : am_mc M2 = 1) (hms2 : am_ms M2 = 6) (hnp : am_mp M2 = As2.length + 1) (hG : G[o]? = some (.inr (.inr (.inr (am_mk M2, fs))))) (hThrow : ∃ d2, d2 + 1 ≤ d ∧ xMetT l dC dI dA d2 M2 (.ref o :: As2) G)
    (hht : tableOf hh = [x]) (hcov : covers x q = true) (hct : x.catchType = 13) (hhp : x.handlerPc = q2) (hi : i < am_mL M) (hst : (w = 1 ∧ ∃ k : Fin 4, k.val = i ∧ decode (am_mb M) q2 = .ok (.astore_n k, 1)) ∨ (w = 2 ∧ decode (am_mb M) q2 = .ok (.astore i, 2))) (e1 : decode (am_mb M) (q2 + w) = .ok (.iconst 1, 1)) (e2 : decode (am_mb M) (q2 + w + 1) = .ok (.ireturn, 1)) (hcat : (rest.map fun v => v.category).sum ≤ 8) {post : Option Value → am_G → Prop} (hpost : post (some (.int 1)) G)
    (hE : am_Ex (am_Call MT d0) M none (fun _ _ => False) (fun pc _ st G1 nc ns => q = pc ∧ As2.reverse ++ .ref o :: rest = st ∧ G = G1 ∧ 0 = nc ∧ 0 = ns) 0 (am_entL (am_mL M) As) [] G 0 0) : hp_Met l dC dI dA d M hh As G post := by
  intro ad sz
  refine va_MetW (cc := am_mb M) (maxL := am_mL M) (ret := am_mr M) (hh := hh) hpl rfl ?_
  intro p e s m args below meth c s₁ B hml hv
  obtain ⟨rfl, hsz, hP, hK, hD0, hKX, hSX, hXZ⟩ := hv
  have hx := B.exec
  have hb := B.bytes
  have hr := B.returns
  have hts0 := atoms_spec (ws := hp_ws M hh) B.pre
  have hts : ∀ w ∈ am_U, w.before ((As.map (am_cv ad)).toArray) s = true := fun w hw => hts0 w (List.mem_cons_of_mem _ hw)
  have hown : s.vm.findClass (am_my M).cls = some m.cls := findClass_of_methodNamed B.named
  have hlocks := B.notSynchronized
  have hin : (am_my M).name = "<init>" → meth.name = "<init>" := fun z => (name_of_methodNamed B.named B.method).1.trans z
  have htab := (vx_table (x := am_my M) B (hts _ hcw)).trans hht
  subst hsz
  have hD := hD0.self (sz := s.heap.size)
  have hA : ∀ q : Nat, s.heap.size ≤ q → va_A (am_cw dA ad G) s.heap.size q := fun q h => Or.inr h
  have hC : am_Ctx p (am_rm d M) s m ((As.map (am_cv ad)).toArray) meth c dC dI dA d M := ⟨hx, hb, hml, hown, hts, hin, hK, hKX, rfl, rfl, Nat.le_refl _, Nat.le_refl _⟩
  obtain ⟨d2, hd2, hThrow⟩ := hThrow
  obtain ⟨hcode2, hinit2, hpl2, hmh2, hvh2, hmL2, hks2⟩ := am_okM_ok hok2
  rw [hkd2] at hks2
  replace hks2 := ((hks2.resolve_left (fun x => absurd x.1 (by decide))).resolve_right (fun x => absurd x.1 (by decide))).2
  obtain ⟨hinst, hsel, hpar, -, hcl⟩ := hks2
  have key := hE (am_W p l e (am_rm d M) s m ((As.map (am_cv ad)).toArray) below meth c dC dI dA M (va_A (am_cw dA ad G) s.heap.size) s.heap ad G.length (MQ below (am_Qc dC dI dA M post G ad s.heap.size) ((As.map (am_cv ad)).toArray) s (am_mc M) (am_ms M) (va_A (am_cw dA ad G) s.heap.size)))
    (fun P0 hle pc L st G1 nc ns hstep => am_stepS hC hle hT hTX hsC hA hSX
      (fun pc L st G1 nc ns idx2 hX hdec => by
        obtain ⟨h1, h2, h3, h4, h5⟩ := hX
        subst h1; subst h2; subst h3; subst h4; subst h5
        intro ad1 H locs ls hrel hn0 hw hnd hL hcs
        have hvc : ∃ q, vwCl[am_mk M2]? = some q ∧ q.1 = (am_my M2).cls := by
          cases hq : vwCl[am_mk M2]? with
          | none => rw [hq] at hcl; cases hcl
          | some q => rw [hq] at hcl; exact ⟨q, rfl, Option.some.inj hcl⟩
        obtain ⟨q9, hq1, hq2⟩ := hvc
        have hrecv := va_recv hK hw.1 hq1 (am_cw_get (ad := ad1) (dA := dA) hG)
        rw [hq2] at hrecv
        have hpre := xpre (As := .ref o :: As2) hC hA hSX hXZ hrel hw
        have hF : ∀ q, va_A (am_cw dA ad1 G) H.size q → va_A (am_cw dA ad G) s.heap.size q := fun q h => by
          rcases h with ⟨k, e9, h⟩ | h
          · exact hw.2.1.2 k (q, e9) h
          · exact hA q (Nat.le_trans hw.2.2.1 h)
        have hown2 : s.vm.findClass RL = some m.cls := by
          rw [← hRL]
          exact hown
        refine vx_calli (vx_runV (As := As2.map (am_cv ad1)) (rest := rest.map (am_cv ad1)) (b := ad1 o) ⟨hx, hb, hml, hown2, hts⟩ (hThrow ad1 H.size) (cwV As2.length hts (fun w h3 => by
            rcases List.mem_append.mp h3 with h3 | h3
            · simp only [List.mem_cons, List.not_mem_nil, or_false] at h3
              rcases h3 with rfl | rfl | rfl | rfl
              · exact am_good hlk
              · exact am_good hinst
              · exact am_good hsel
              · exact am_good hinit2
            · exact am_goodws M2 hok2 w h3) rfl hmc2 hms2 ⟨rfl, hmh2, hvh2, by rw [hpar, hnp]; rfl⟩ (am_hR hC hd2 hmL2)) ⟨xBlind, hrecv, hpre⟩ rfl (by rw [List.length_map]) hL.2.1 (by
              rw [List.map_append, List.map_reverse]
              rfl) (lv_room (by rw [am_catsum]; exact hcat)) hd (by
              show 0 + 1 ≤ am_mc M ∧ 0 + 6 ≤ am_ms M
              omega)) hw.2.2 (fun q _ h => hF q h) hF (fun q _ h => hF q h) (fun E ce q8 u t H1 locs1 ht hvm hu hBX hz hk hS1 hcell hcv hcls => ?_) (fun r u t H1 locs1 ht hvm hpost => hpost.elim)
        obtain ⟨rfl, ad2, hrel2, hP2, hD2⟩ := hBX
        refine vx_catch (name := nse) hown2 [] x [] htab (fun z hz => nomatch hz) hcov (by rw [hct]; decide) (by rw [hct]; exact hts _ (am_at_U (pos := 1088) (by decide +kernel) rfl)) (va_Nw.use rfl (hXZ.2.2 _ List.mem_cons_self)) hcell hcv hcls ?_
        rw [hhp]
        have tail : ∀ ls2 : Array Slot, W p l e (am_rm d M) s m ((As.map (am_cv ad)).toArray) below meth c H1 locs1 (0 + 1) (0 + 6) (MQ below (am_Qc dC dI dA M post G ad s.heap.size) ((As.map (am_cv ad)).toArray) s (am_mc M) (am_ms M) (va_A (am_cw dA ad G) s.heap.size)) (F0 m (q2 + w) ls2 []) := fun ls2 => by
          refine lv_iconst (v := 1) hx hb e1 (by decide) ?_
          rw [hmc, hms]
          refine W.iret hx hb (hr.trans hmr) (fun t9 ht9 _ => ?_) (fun q hq => hS1.2.2 q hq) e2 hlocks
          unfold am_Qc
          rw [hmr]
          refine ⟨⟨1, (G, ad2), rfl, hpost, ?_, hD2.weaken (fun k q _ h => hF q.1 h), Nat.le_refl _, ?_⟩, hS1.F ht9⟩
          · rw [ht9, ← ht]
            exact hP2
          · rw [hmc]
            exact ⟨fun z => (by cases z), fun k hk => (hrel2.2 k hk).trans (hrel.2 k hk)⟩
        rcases hst with ⟨rfl, k, hk9, hdk⟩ | ⟨rfl, hdk⟩
        · exact lv_astore_n hx hb hdk hk9 hL.2 hi rfl (fun ls2 _ => tail ls2)
        · exact lv_astore hx hb hdk hL.2 hi rfl (fun ls2 _ => tail ls2))
      (fun _ _ _ _ _ _ hq => hq.elim) (fun _ _ _ _ _ _ hq => hq.elim) (fun _ _ _ _ _ hq => hq.elim) hstep)
  rw [lg_entry_eq]
  refine key ad s.heap [] _ ⟨fun _ => rfl, fun _ _ => rfl⟩ (Nat.le_refl _) ⟨hP, hD, va_S.rf⟩ ?_ (am_entry ad hlen) ⟨Nat.zero_le _, Nat.zero_le _⟩
  intro i v hi hc
  exact hlong v (am_ent_mem As i v (am_entL_get hi)) hc
