/-! CALLS, and the whole: what comes to its end in the abstract machine does so in the machine. -/
theorem am_lnk_ok {MT : Nat → Option am_M} {own : String} {idx a b t u pos : Nat} (h : am_lnk MT own idx a b t u pos = true) : ∃ M2, MT a = some M2 ∧ b = am_mp M2 ∧ ((t = 0 ∧ am_kd M2 = 1 ∧ u = am_mk M2 ∧ Jvm.Cond.methodLink own idx (am_my M2) ∈ am_U ∧ am_mc M2 = 0 ∧ am_ms M2 = 0) ∨ (t = 1 ∧ am_kd M2 = 0 ∧ Jvm.Cond.methodLink own idx (am_my M2) ∈ am_U ∧ am_mc M2 = 0 ∧ am_ms M2 = 0) ∨ (t = 2 ∧ am_kd M2 = 0 ∧ Jvm.Cond.methodLinkNest own idx (am_my M2) RX10 ∈ am_nest ∧ am_mc M2 = 0 ∧ am_ms M2 = 0) ∨ (t = 3 ∧ am_kd M2 = 2 ∧ Jvm.Cond.methodLink own idx (am_my M2) ∈ am_U ∧ am_mc M2 = u / 1000000 ∧ am_ms M2 = u % 1000000) ∨ (t = 4 ∧ am_kd M2 = 2 ∧ Jvm.Cond.methodLinkNest own idx (am_my M2) RX10 ∈ am_nest ∧ am_mc M2 = u / 1000000 ∧ am_ms M2 = u % 1000000)) := by
  unfold am_lnk at h
  split at h
  · rename_i M2 hM
    rw [Bool.and_eq_true, decide_eq_true_eq] at h
    obtain ⟨hb, h⟩ := h
    refine ⟨M2, hM, hb, ?_⟩
    have hn : ∀ {w : Jvm.Cond}, am_at pos w = true → (match w with
      | .methodLinkNest _ _ _ _ => true
      | _ => false) = true → w ∈ am_nest := fun hw hg => List.mem_filter.mpr ⟨List.mem_of_getElem? (of_decide_eq_true hw), hg⟩
    split at h
    · simp only [Bool.and_eq_true, decide_eq_true_eq] at h
      exact Or.inl ⟨rfl, h.1.1.1.1, h.1.1.1.2, am_at_U h.1.1.2 rfl, h.1.2, h.2⟩
    · simp only [Bool.and_eq_true, decide_eq_true_eq] at h
      exact Or.inr (Or.inl ⟨rfl, h.1.1.1, am_at_U h.1.1.2 rfl, h.1.2, h.2⟩)
    · simp only [Bool.and_eq_true, decide_eq_true_eq] at h
      exact Or.inr (Or.inr (Or.inl ⟨rfl, h.1.1.1, hn h.1.1.2 rfl, h.1.2, h.2⟩))
    · simp only [Bool.and_eq_true, decide_eq_true_eq] at h
      exact Or.inr (Or.inr (Or.inr (Or.inl ⟨rfl, h.1.1.1, am_at_U h.1.1.2 rfl, h.1.2, h.2⟩)))
    · simp only [Bool.and_eq_true, decide_eq_true_eq] at h
      exact Or.inr (Or.inr (Or.inr (Or.inr ⟨rfl, h.1.1.1, hn h.1.1.2 rfl, h.1.2, h.2⟩)))
    · cases h
  · cases h
/-- what a callee's words are -/
theorem am_okM_ok {M : am_M} (h : am_okM M = true) : Jvm.Cond.code (am_my M) (am_mb M) (am_mL M) (am_mr M) ∈ am_U ∧ Jvm.Cond.initialized (am_my M).cls ∈ am_U ∧ plainName (am_my M).cls = true ∧ (am_my M).cls ≠ "java/lang/invoke/MethodHandle" ∧ (am_my M).cls ≠ "java/lang/invoke/VarHandle" ∧ am_mL M ≤ 40 ∧
    ((am_kd M = 0 ∧ Jvm.Cond.static (am_my M) ∈ am_U ∧ (parseMethodDescriptor (am_my M).desc).map (fun d => d.parameters.length) = some (am_mp M)) ∨
     (am_kd M = 1 ∧ Jvm.Cond.instanceMethod (am_my M) ∈ am_U ∧ Jvm.Cond.selects (am_my M).cls (am_my M) (am_my M) ∈ am_U ∧ (parseMethodDescriptor (am_my M).desc).map (fun d => d.parameters.length) = some (am_mp M - 1) ∧ 1 ≤ am_mp M ∧ (vwCl[am_mk M]?).map (fun q => q.1) = some (am_my M).cls) ∨
     (am_kd M = 2 ∧ Jvm.Cond.instanceMethod (am_my M) ∈ am_U ∧ (parseMethodDescriptor (am_my M).desc).map (fun d => d.parameters.length) = some (am_mp M - 1) ∧ 1 ≤ am_mp M ∧ (am_my M).name = "<init>" ∧ am_mr M = none)) := by
  unfold am_okM at h
  unfold am_kd
  split at h
  · rename_i p0 p1 p2 p3 k hw
    simp only [Bool.and_eq_true, decide_eq_true_eq] at h
    obtain ⟨⟨⟨⟨⟨⟨h1, h2⟩, h3⟩, h4⟩, h5⟩, h6⟩, h7⟩ := h
    refine ⟨am_at_U h1 rfl, am_at_U h2 rfl, h3, h4, h5, h6, ?_⟩
    split at h7
    · simp only [Bool.and_eq_true, decide_eq_true_eq] at h7
      exact Or.inl ⟨rfl, am_at_U h7.1.1 rfl, h7.1.2⟩
    · simp only [Bool.and_eq_true, decide_eq_true_eq] at h7
      exact Or.inr (Or.inl ⟨rfl, am_at_U h7.1.1.1.1 rfl, am_at_U h7.1.1.1.2 rfl, h7.1.1.2, h7.1.2, h7.2⟩)
    · simp only [Bool.and_eq_true, decide_eq_true_eq] at h7
      exact Or.inr (Or.inr ⟨rfl, am_at_U h7.1.1.1.1 rfl, h7.1.1.1.2, h7.1.1.2, h7.1.2, h7.2⟩)
    · cases h7
  · cases h
theorem am_take {st : List Value} {b : Nat} {v : Value} (hb : 1 ≤ b) (h : st[b - 1]? = some v) : (st.take b).reverse = v :: (st.take (b - 1)).reverse ∧ st = st.take (b - 1) ++ v :: st.drop b := by
  obtain ⟨k, rfl⟩ : ∃ k, b = k + 1 := ⟨b - 1, by omega⟩
  simp only [Nat.add_sub_cancel] at h ⊢
  have hk : k < st.length := (List.getElem?_eq_some_iff.mp h).1
  have hv : st[k] = v := (List.getElem?_eq_some_iff.mp h).2
  constructor
  · rw [List.take_succ_eq_append_getElem hk, List.reverse_append, hv]
    rfl
  · conv => lhs; rw [← List.take_append_drop k st]
    rw [List.drop_eq_getElem_cons hk, hv]
section AMS
variable {p : Program} {l : Launch} {e : Env} {R : Room} {s : State} {m : MethodId} {args : Array Value} {below : List Frame} {meth : Method} {c : Code} {dC : Nat → ClassId} {dI : Nat → Nat → Nat} {dA : Nat → ClassId} {d : Nat} {M : am_M} {A : Nat → Prop} {H0 : Heap} {ad0 : Nat → Nat} {n0 : Nat} {QW : State → Prop} {MT : Nat → Option am_M} {scr : Option (Nat × (Nat → Int32))}
theorem am_hR {d2 : Nat} {M2 : am_M} (hC : am_Ctx p R s m args meth c dC dI dA d M) (hd2 : d2 + 1 ≤ d) (hL : am_mL M2 ≤ 40) : (am_rm d2 M2).frames + 1 ≤ R.frames ∧ 8 + (am_mL M2 + 11) + (am_rm d2 M2).locals ≤ R.locals := by
  obtain ⟨-, -, -, -, -, -, -, -, -, -, h1, h2⟩ := hC
  simp only [am_rm]
  omega
theorem am_goodws (M2 : am_M) (h : am_okM M2 = true) : GoodIn am_U (am_ws M2) := by
  intro w hw
  rcases List.mem_cons.mp hw with rfl | hw
  · exact am_good (am_okM_ok h).1
  · exact am_good hw
/-- behind a call -/
theorem am_done {M2 : am_M} {post : Option Value → am_G → Prop} {ad : Nat → Nat} {G : am_G} {H : Heap} {locs : List Loc} {ls : Array Slot} {pc nc ns : Nat} {st0 rest : List Value} {a' : Array Value} (hA : ∀ q, H0.size ≤ q → A q)
    (hr : va_Run p l e R s m args below meth c H locs nc ns (am_mc M2) (am_ms M2) (F0 m pc ls st0) rest (am_Qc dC dI dA M2 post G ad H.size a') (va_A (am_cw dA ad G) H.size)) (hw : am_Wd dC dI dA A H0 ad G H locs)
    (kk : ∀ (r : Option Value) (G1 : am_G) (ad1 : Nat → Nat) (H1 : Heap) (locs1 : List Loc), post r G1 → (∀ f : Nat → Nat, r.map (am_cv f) = r) → am_Rel (am_mc M2) G.length ad ad1 → G.length ≤ G1.length → am_Wd dC dI dA A H0 ad1 G1 H1 locs1 → W p l e R s m args below meth c H1 locs1 (nc + am_mc M2) (ns + am_ms M2) QW (F0 m (pc + 3) ls (am_psh r rest))) :
    W p l e R s m args below meth c H locs nc ns QW (F0 m pc ls st0) := by
  have hF : ∀ q, va_A (am_cw dA ad G) H.size q → A q := fun q h => by
    rcases h with ⟨k, e2, h⟩ | h
    · exact hw.2.1.2 k (q, e2) h
    · exact hA q (Nat.le_trans hw.2.2.1 h)
  unfold am_Qc at hr
  cases hmr : am_mr M2 with
  | none =>
    rw [hmr] at hr
    exact va_callv hr hw.2.2 (fun q _ h => hF q h) hF (fun u t H1 locs1 ht _ hp hB _ _ hS1 => by
      obtain ⟨b1, b2, b3, b4⟩ := hB
      rw [ht] at b1
      exact kk none u.1 u.2 H1 locs1 hp (fun _ => rfl) b4 b3 ⟨b1, b2.weaken (fun k q _ h => hF q.1 h), hS1⟩)
  | some ty =>
   rw [hmr] at hr
   cases ty with
   | long =>
    exact va_calll hr hw.2.2 (fun q _ h => hF q h) hF (fun r u t H1 locs1 ht _ hp hB _ _ hS1 => by
      obtain ⟨b1, b2, b3, b4⟩ := hB
      rw [ht] at b1
      exact kk (some (.long r)) u.1 u.2 H1 locs1 hp (fun _ => rfl) b4 b3 ⟨b1, b2.weaken (fun k q _ h => hF q.1 h), hS1⟩)
   | _ =>
    exact va_calli hr hw.2.2 (fun q _ h => hF q h) hF (fun r u t H1 locs1 ht _ hp hB _ _ hS1 => by
      obtain ⟨b1, b2, b3, b4⟩ := hB
      rw [ht] at b1
      exact kk (some (.int r)) u.1 u.2 H1 locs1 hp (fun _ => rfl) b4 b3 ⟨b1, b2.weaken (fun k q _ h => hF q.1 h), hS1⟩)
theorem am_psh_cv {r : Option Value} {st : List Value} {ad : Nat → Nat} (h : ∀ f : Nat → Nat, r.map (am_cv f) = r) : (am_psh r st).map (am_cv ad) = am_psh r (st.map (am_cv ad)) := by
  cases r with
  | none => rfl
  | some v =>
    have := Option.some.inj (h ad)
    simp only [am_psh, List.map_cons, this]
/-- the calls' predicate is sound at launch l -/
def am_sC (l : Launch) (dC : Nat → ClassId) (dI : Nat → Nat → Nat) (dA : Nat → ClassId) (MT : Nat → Option am_M) (d : Nat) (C : am_C) : Prop := ∀ (mi : Nat) (As : List Value) (G : am_G) (post : Option Value → am_G → Prop), C mi As G post → ∃ (M2 : am_M) (d2 : Nat), MT mi = some M2 ∧ d2 + 1 ≤ d ∧ am_okM M2 = true ∧ am_Met l dC dI dA d2 M2 As G post
theorem am_preS {H : Heap} {ad : Nat → Nat} {G : am_G} {locs : List Loc} {As : List Value} (hC : am_Ctx p R s m args meth c dC dI dA d M) (hA : ∀ q, H0.size ≤ q → A q) (hSX : am_SX ad0 A s H0) (hrel : am_Rel (am_mc M) n0 ad0 ad) (hw : am_Wd dC dI dA A H0 ad G H locs) : ∀ U : State, U.heap = H → s.WarmedH U.vm → am_Pc dC dI dA As G ad H.size (As.map (am_cv ad)).toArray U := by
  obtain ⟨-, -, -, -, -, -, hK, hKX, -⟩ := hC
  intro U hU hW
  have hF : ∀ q, va_A (am_cw dA ad G) H.size q → A q := fun q h => by
    rcases h with ⟨k, e2, h⟩ | h
    · exact hw.2.1.2 k (q, e2) h
    · exact hA q (Nat.le_trans hw.2.2.1 h)
  have hs := am_SX_warm hW (am_SX_narrow (am_SX_kept (am_SX_ad hSX (fun k hk => hrel.2 k (Or.inr hk))) hw.2.2.2.1) hF)
  exact ⟨rfl, by rw [hU], by rw [hU]; exact hw.1, va_K.moved hW.alike hK, hw.2.1.weaken (fun _ _ _ _ => trivial), am_KX_warm hW hKX, by rw [hU]; exact hs⟩

theorem am_i_invV {idx : Nat} (hC : am_Ctx p R s m args meth c dC dI dA d M) {P0 : am_P} (hm : ∀ pc L st G nc ns, P0 pc L st G nc ns → am_W p l e R s m args below meth c dC dI dA M A H0 ad0 n0 QW pc L st G nc ns) {C : am_C} {Q : Option Value → am_G → Prop} {X : am_P} {pc npc a b t u pos : Nat} {cv : Int32} {cl : Int64} {L : am_L} {st : List Value} {G : am_G} {nc ns : Nat} (hd : decode (am_mb M) pc = .ok (.invokevirtual idx, am_len (.invokevirtual idx) (npc - pc))) (hn : npc = pc + am_len (.invokevirtual idx) (npc - pc)) (hok : am_okX MT M pc (.invokevirtual idx) a b t u pos cv cl = true) (h : am_ins C M scr Q X P0 pc (.invokevirtual idx) npc a b t u cv cl L st G nc ns) (hsC : am_sC l dC dI dA MT d C) (hA : ∀ q, H0.size ≤ q → A q) (hSX : am_SX ad0 A s H0) (ht : t = 0) : am_W p l e R s m args below meth c dC dI dA M A H0 ad0 n0 QW pc L st G nc ns := by
  obtain ⟨hx, hb, hml, hown, hts, hini, hK, hKX, hRc, hRs, hRf, hRl⟩ := hC
  have hn : npc = pc + 3 := hn
  subst hn
  have hCC : am_Ctx p R s m args meth c dC dI dA d M := ⟨hx, hb, hml, hown, hts, hini, hK, hKX, hRc, hRs, hRf, hRl⟩
  subst ht
  simp only [am_okX] at hok
  obtain ⟨M2, hMT, rfl, hor⟩ := am_lnk_ok hok
  replace hor := (hor.resolve_right (by rintro (x | x | x | x) <;> exact absurd x.1 (by decide))).2
  simp only [am_ins] at h
  obtain ⟨hkd, rfl, hlk, hmc, hms⟩ := hor
  obtain ⟨hrv, hlen0, hcat, post, hc, hk⟩ := h
  obtain ⟨M2', d2, hMT', hd2, hokM, hMet⟩ := hsC _ _ _ _ hc
  cases hMT.symm.trans hMT'
  obtain ⟨hcode, hinit, hpl, hmh, hvh, hmL, hks⟩ := am_okM_ok hokM
  rw [hkd] at hks
  replace hks := ((hks.resolve_left (fun x => absurd x.1 (by decide))).resolve_right (fun x => absurd x.1 (by decide))).2
  obtain ⟨hinst, hsel, hpar, hnp, hcl⟩ := hks
  unfold am_rcv at hrv
  split at hrv
  · rename_i o hst
    split at hrv
    · rename_i ci fs hG
      subst hrv
      obtain ⟨e1, e2⟩ := am_take hnp hst
      rw [e1] at hMet
      have hMT := hMet
      intro ad H locs ls hrel hn0 hw hnd hL hcs
      have hvc : ∃ q, vwCl[am_mk M2]? = some q ∧ q.1 = (am_my M2).cls := by
        cases hq : vwCl[am_mk M2]? with
        | none => rw [hq] at hcl; cases hcl
        | some q => rw [hq] at hcl; exact ⟨q, rfl, Option.some.inj hcl⟩
      obtain ⟨q, hq1, hq2⟩ := hvc
      have hrecv := va_recv hK hw.1 hq1 (am_cw_get (ad := ad) (dA := dA) hG)
      rw [hq2] at hrecv
      have hpre := am_preS (As := .ref o :: (st.take (am_mp M2 - 1)).reverse) hCC hA hSX hrel hw
      exact am_done hA (va_runV (As := ((st.take (am_mp M2 - 1)).reverse).map (am_cv ad)) (rest := (st.drop (am_mp M2)).map (am_cv ad)) (b := ad o) ⟨hx, hb, hml, hown, hts⟩ (hMet ad H.size) (cwV (am_mp M2 - 1) hts (fun w h3 => by
          rcases List.mem_append.mp h3 with h3 | h3
          · simp only [List.mem_cons, List.not_mem_nil, or_false] at h3
            rcases h3 with rfl | rfl | rfl | rfl
            · exact am_good hlk
            · exact am_good hinst
            · exact am_good hsel
            · exact am_good hinit
          · exact am_goodws M2 hokM w h3) rfl rfl rfl ⟨rfl, hmh, hvh, hpar⟩ (am_hR hCC hd2 hmL)) ⟨am_blind, hrecv, hpre⟩ rfl (by rw [List.length_map, List.length_reverse, List.length_take]; omega) hL.2.1 (by
            show st.map (am_cv ad) = _
            conv => lhs; rw [e2]
            simp [am_cv]) (lv_room (by rw [am_catsum]; exact hcat)) hd (by rw [hmc, hms, hRc, hRs]; exact hcs)) hw (fun r G1 ad1 H1 locs1 hp hr1 hrel1 hlen hw1 => by
        rw [hmc, hms]
        have had : ad1 = ad := hrel1.1 hmc
        subst had
        refine W.eq ?_ (hm _ _ _ _ _ _ (hk r G1 hp) ad1 H1 locs1 ls hrel (Nat.le_trans hn0 hlen) hw1 hnd hL hcs)
        rw [am_psh_cv hr1])
    · exact hrv.elim
  · exact hrv.elim

theorem am_i_invS {idx : Nat} (hC : am_Ctx p R s m args meth c dC dI dA d M) {P0 : am_P} (hm : ∀ pc L st G nc ns, P0 pc L st G nc ns → am_W p l e R s m args below meth c dC dI dA M A H0 ad0 n0 QW pc L st G nc ns) {C : am_C} {Q : Option Value → am_G → Prop} {X : am_P} {pc npc a b t u pos : Nat} {cv : Int32} {cl : Int64} {L : am_L} {st : List Value} {G : am_G} {nc ns : Nat} (hd : decode (am_mb M) pc = .ok (.invokestatic idx, am_len (.invokestatic idx) (npc - pc))) (hn : npc = pc + am_len (.invokestatic idx) (npc - pc)) (hok : am_okX MT M pc (.invokestatic idx) a b t u pos cv cl = true) (h : am_ins C M scr Q X P0 pc (.invokestatic idx) npc a b t u cv cl L st G nc ns) (hsC : am_sC l dC dI dA MT d C) (hA : ∀ q, H0.size ≤ q → A q) (hSX : am_SX ad0 A s H0) (ht : t = 1) : am_W p l e R s m args below meth c dC dI dA M A H0 ad0 n0 QW pc L st G nc ns := by
  obtain ⟨hx, hb, hml, hown, hts, hini, hK, hKX, hRc, hRs, hRf, hRl⟩ := hC
  have hn : npc = pc + 3 := hn
  subst hn
  have hCC : am_Ctx p R s m args meth c dC dI dA d M := ⟨hx, hb, hml, hown, hts, hini, hK, hKX, hRc, hRs, hRf, hRl⟩
  subst ht
  simp only [am_okX] at hok
  obtain ⟨M2, hMT, rfl, hor⟩ := am_lnk_ok hok
  replace hor := ((hor.resolve_left (fun x => absurd x.1 (by decide))).resolve_right (by rintro (x | x | x) <;> exact absurd x.1 (by decide))).2
  simp only [am_ins] at h
  obtain ⟨hkd, hlk, hmc, hms⟩ := hor
  obtain ⟨hlen0, hcat, post, hc, hk⟩ := h
  obtain ⟨M2', d2, hMT', hd2, hokM, hMet⟩ := hsC _ _ _ _ hc
  cases hMT.symm.trans hMT'
  obtain ⟨hcode, hinit, hpl, hmh, hvh, hmL, hks⟩ := am_okM_ok hokM
  rw [hkd] at hks
  replace hks := (hks.resolve_right (by rintro (x | x) <;> exact absurd x.1 (by decide))).2
  obtain ⟨hstat, hpar⟩ := hks
  intro ad H locs ls hrel hn0 hw hnd hL hcs
  have hpre := am_preS (As := (st.take (am_mp M2)).reverse) hCC hA hSX hrel hw
  have hstk : st.map (am_cv ad) = (((st.take (am_mp M2)).reverse).map (am_cv ad)).reverse ++ (st.drop (am_mp M2)).map (am_cv ad) := by
    rw [← List.map_reverse, List.reverse_reverse, ← List.map_append, List.take_append_drop]
  exact am_done hA (va_runS (As := ((st.take (am_mp M2)).reverse).map (am_cv ad)) (rest := (st.drop (am_mp M2)).map (am_cv ad)) ⟨hx, hb, hml, hown, hts⟩ (hMet ad H.size) (va_cwS (am_mp M2) hts (fun w h3 => by
      rcases List.mem_append.mp h3 with h3 | h3
      · simp only [List.mem_cons, List.not_mem_nil, or_false] at h3
        rcases h3 with rfl | rfl | rfl
        · exact am_good hlk
        · exact am_good hstat
        · exact am_good hinit
      · exact am_goodws M2 hokM w h3) rfl rfl rfl ⟨hmh, hvh, hpar⟩ (am_hR hCC hd2 hmL)) ⟨am_blind, hpre⟩ rfl (by rw [List.length_map, List.length_reverse, List.length_take]; omega) hL.2.1 hstk (lv_room (by rw [am_catsum]; exact hcat)) hd (by rw [hmc, hms, hRc, hRs]; exact hcs)) hw (fun r G1 ad1 H1 locs1 hp hr1 hrel1 hlen hw1 => by
    rw [hmc, hms]
    have had : ad1 = ad := hrel1.1 hmc
    subst had
    refine W.eq ?_ (hm _ _ _ _ _ _ (hk r G1 hp) ad1 H1 locs1 ls hrel (Nat.le_trans hn0 hlen) hw1 hnd hL hcs)
    rw [am_psh_cv hr1])

theorem am_i_invSN {idx : Nat} (hC : am_Ctx p R s m args meth c dC dI dA d M) {P0 : am_P} (hm : ∀ pc L st G nc ns, P0 pc L st G nc ns → am_W p l e R s m args below meth c dC dI dA M A H0 ad0 n0 QW pc L st G nc ns) {C : am_C} {Q : Option Value → am_G → Prop} {X : am_P} {pc npc a b t u pos : Nat} {cv : Int32} {cl : Int64} {L : am_L} {st : List Value} {G : am_G} {nc ns : Nat} (hd : decode (am_mb M) pc = .ok (.invokestatic idx, am_len (.invokestatic idx) (npc - pc))) (hn : npc = pc + am_len (.invokestatic idx) (npc - pc)) (hok : am_okX MT M pc (.invokestatic idx) a b t u pos cv cl = true) (h : am_ins C M scr Q X P0 pc (.invokestatic idx) npc a b t u cv cl L st G nc ns) (hsC : am_sC l dC dI dA MT d C) (hA : ∀ q, H0.size ≤ q → A q) (hSX : am_SX ad0 A s H0) (ht : t = 2) : am_W p l e R s m args below meth c dC dI dA M A H0 ad0 n0 QW pc L st G nc ns := by
  obtain ⟨hx, hb, hml, hown, hts, hini, hK, hKX, hRc, hRs, hRf, hRl⟩ := hC
  have hn : npc = pc + 3 := hn
  subst hn
  have hCC : am_Ctx p R s m args meth c dC dI dA d M := ⟨hx, hb, hml, hown, hts, hini, hK, hKX, hRc, hRs, hRf, hRl⟩
  subst ht
  simp only [am_okX] at hok
  obtain ⟨M2, hMT, rfl, hor⟩ := am_lnk_ok hok
  replace hor := (((hor.resolve_left (fun x => absurd x.1 (by decide))).resolve_left (fun x => absurd x.1 (by decide))).resolve_right (by rintro (x | x) <;> exact absurd x.1 (by decide))).2
  simp only [am_ins] at h
  obtain ⟨hkd, hlk, hmc, hms⟩ := hor
  obtain ⟨hlen0, hcat, post, hc, hk⟩ := h
  obtain ⟨M2', d2, hMT', hd2, hokM, hMet⟩ := hsC _ _ _ _ hc
  cases hMT.symm.trans hMT'
  obtain ⟨hcode, hinit, hpl, hmh, hvh, hmL, hks⟩ := am_okM_ok hokM
  rw [hkd] at hks
  replace hks := (hks.resolve_right (by rintro (x | x) <;> exact absurd x.1 (by decide))).2
  obtain ⟨hstat, hpar⟩ := hks
  intro ad H locs ls hrel hn0 hw hnd hL hcs
  have hpre := am_preS (As := (st.take (am_mp M2)).reverse) hCC hA hSX hrel hw
  have hstk : st.map (am_cv ad) = (((st.take (am_mp M2)).reverse).map (am_cv ad)).reverse ++ (st.drop (am_mp M2)).map (am_cv ad) := by
    rw [← List.map_reverse, List.reverse_reverse, ← List.map_append, List.take_append_drop]
  exact am_done hA (va_runSN (As := ((st.take (am_mp M2)).reverse).map (am_cv ad)) (rest := (st.drop (am_mp M2)).map (am_cv ad)) ⟨hx, hb, hml, hown, hts⟩ (hMet ad H.size) ⟨va_cnB (am_mp M2) hts (am_goodws M2 hokM) rfl rfl rfl (hKX.1 _ hlk) (hts _ hinit) ⟨hmh, hvh, hpar⟩ (am_hR hCC hd2 hmL), hts _ hstat, trivial⟩ ⟨am_blind, hpre⟩ rfl (by rw [List.length_map, List.length_reverse, List.length_take]; omega) hL.2.1 hstk (lv_room (by rw [am_catsum]; exact hcat)) hd (by rw [hmc, hms, hRc, hRs]; exact hcs)) hw (fun r G1 ad1 H1 locs1 hp hr1 hrel1 hlen hw1 => by
    rw [hmc, hms]
    have had : ad1 = ad := hrel1.1 hmc
    subst had
    refine W.eq ?_ (hm _ _ _ _ _ _ (hk r G1 hp) ad1 H1 locs1 ls hrel (Nat.le_trans hn0 hlen) hw1 hnd hL hcs)
    rw [am_psh_cv hr1])

theorem am_i_invI {idx : Nat} (hC : am_Ctx p R s m args meth c dC dI dA d M) {P0 : am_P} (hm : ∀ pc L st G nc ns, P0 pc L st G nc ns → am_W p l e R s m args below meth c dC dI dA M A H0 ad0 n0 QW pc L st G nc ns) {C : am_C} {Q : Option Value → am_G → Prop} {X : am_P} {pc npc a b t u pos : Nat} {cv : Int32} {cl : Int64} {L : am_L} {st : List Value} {G : am_G} {nc ns : Nat} (hd : decode (am_mb M) pc = .ok (.invokespecial idx, am_len (.invokespecial idx) (npc - pc))) (hn : npc = pc + am_len (.invokespecial idx) (npc - pc)) (hok : am_okX MT M pc (.invokespecial idx) a b t u pos cv cl = true) (h : am_ins C M scr Q X P0 pc (.invokespecial idx) npc a b t u cv cl L st G nc ns) (hsC : am_sC l dC dI dA MT d C) (hA : ∀ q, H0.size ≤ q → A q) (hSX : am_SX ad0 A s H0) (ht : t = 3) : am_W p l e R s m args below meth c dC dI dA M A H0 ad0 n0 QW pc L st G nc ns := by
  obtain ⟨hx, hb, hml, hown, hts, hini, hK, hKX, hRc, hRs, hRf, hRl⟩ := hC
  have hn : npc = pc + 3 := hn
  subst hn
  have hCC : am_Ctx p R s m args meth c dC dI dA d M := ⟨hx, hb, hml, hown, hts, hini, hK, hKX, hRc, hRs, hRf, hRl⟩
  subst ht
  simp only [am_okX] at hok
  obtain ⟨M2, hMT, rfl, hor⟩ := am_lnk_ok hok
  replace hor := ((((hor.resolve_left (fun x => absurd x.1 (by decide))).resolve_left (fun x => absurd x.1 (by decide))).resolve_left (fun x => absurd x.1 (by decide))).resolve_right (fun x => absurd x.1 (by decide))).2
  simp only [am_ins] at h
  obtain ⟨hkd, hlk, hmc, hms⟩ := hor
  obtain ⟨hrcv, hlen0, hcat, hwf, hc1, hc2, post, hc, hk⟩ := h
  simp only [am_wfc, Bool.and_eq_true] at hwf
  obtain ⟨hwL, hwS⟩ := hwf
  obtain ⟨M2', d2, hMT', hd2, hokM, hMet⟩ := hsC _ _ _ _ hc
  cases hMT.symm.trans hMT'
  obtain ⟨hcode, hinit, hpl, hmh, hvh, hmL, hks⟩ := am_okM_ok hokM
  rw [hkd] at hks
  replace hks := ((hks.resolve_left (fun x => absurd x.1 (by decide))).resolve_left (fun x => absurd x.1 (by decide))).2
  obtain ⟨hinst, hpar, hnp, hnm, hret⟩ := hks
  have hst : ∃ o, st[am_mp M2 - 1]? = some (.ref o) := by
    unfold am_rcR at hrcv
    split at hrcv
    · rename_i o ho
      exact ⟨o, ho⟩
    · exact hrcv.elim
  obtain ⟨o, hst⟩ := hst
  obtain ⟨e1, e2⟩ := am_take hnp hst
  rw [e1] at hMet
  intro ad H locs ls hrel hn0 hw hnd hL hcs
  have hpre := am_preS (As := .ref o :: (st.take (am_mp M2 - 1)).reverse) hCC hA hSX hrel hw
  have hstk : st.map (am_cv ad) = (((st.take (am_mp M2 - 1)).reverse).map (am_cv ad)).reverse ++ .ref (ad o) :: (st.drop (am_mp M2)).map (am_cv ad) := by
    conv => lhs; rw [e2]
    simp [am_cv]
  exact am_done hA (va_runI (As := ((st.take (am_mp M2 - 1)).reverse).map (am_cv ad)) (rest := (st.drop (am_mp M2)).map (am_cv ad)) (b := ad o) ⟨hx, hb, hml, hown, hts⟩ (hMet ad H.size) (cwI (am_mp M2 - 1) hts (am_goodws M2 hokM) (by rw [am_ws, hret]) rfl rfl (hts _ hinit) (hts _ hlk) (hts _ hinst) hnm ⟨hmh, hvh, hpar⟩ (am_hR hCC hd2 hmL)) ⟨am_blind, hpre⟩ rfl (by rw [List.length_map, List.length_reverse, List.length_take]; omega) hL.2.1 hstk (lv_room (by rw [am_catsum]; exact hcat)) hd (by rw [hmc, hms, hRc, hRs]; exact ⟨hc1, hc2⟩)) hw (fun r G1 ad1 H1 locs1 hp hr1 hrel1 hlen hw1 => by
      have hxx := hrel1.2
      have h6 := hk r G1 hp
      rw [hmc, hms]
      have hk2 := hm _ _ _ _ _ _ h6 ad1 H1 locs1 ls ⟨fun z => by
        have z1 := hrel.1 z
        have z2 := hrel1.1 (by omega)
        rw [z2, z1], fun k hk => (hxx k (by omega)).trans (hrel.2 k hk)⟩ (Nat.le_trans hn0 hlen) hw1 hnd (am_LH_ad hxx hwL hL) ⟨hc1, hc2⟩
      refine W.eq ?_ hk2
      rw [am_psh_cv hr1, am_st_ad hxx hwS])

theorem am_i_invIN {idx : Nat} (hC : am_Ctx p R s m args meth c dC dI dA d M) {P0 : am_P} (hm : ∀ pc L st G nc ns, P0 pc L st G nc ns → am_W p l e R s m args below meth c dC dI dA M A H0 ad0 n0 QW pc L st G nc ns) {C : am_C} {Q : Option Value → am_G → Prop} {X : am_P} {pc npc a b t u pos : Nat} {cv : Int32} {cl : Int64} {L : am_L} {st : List Value} {G : am_G} {nc ns : Nat} (hd : decode (am_mb M) pc = .ok (.invokespecial idx, am_len (.invokespecial idx) (npc - pc))) (hn : npc = pc + am_len (.invokespecial idx) (npc - pc)) (hok : am_okX MT M pc (.invokespecial idx) a b t u pos cv cl = true) (h : am_ins C M scr Q X P0 pc (.invokespecial idx) npc a b t u cv cl L st G nc ns) (hsC : am_sC l dC dI dA MT d C) (hA : ∀ q, H0.size ≤ q → A q) (hSX : am_SX ad0 A s H0) (ht : t = 4) : am_W p l e R s m args below meth c dC dI dA M A H0 ad0 n0 QW pc L st G nc ns := by
  obtain ⟨hx, hb, hml, hown, hts, hini, hK, hKX, hRc, hRs, hRf, hRl⟩ := hC
  have hn : npc = pc + 3 := hn
  subst hn
  have hCC : am_Ctx p R s m args meth c dC dI dA d M := ⟨hx, hb, hml, hown, hts, hini, hK, hKX, hRc, hRs, hRf, hRl⟩
  subst ht
  simp only [am_okX] at hok
  obtain ⟨M2, hMT, rfl, hor⟩ := am_lnk_ok hok
  replace hor := ((((hor.resolve_left (fun x => absurd x.1 (by decide))).resolve_left (fun x => absurd x.1 (by decide))).resolve_left (fun x => absurd x.1 (by decide))).resolve_left (fun x => absurd x.1 (by decide))).2
  simp only [am_ins] at h
  obtain ⟨hkd, hlk, hmc, hms⟩ := hor
  obtain ⟨hrcv, hlen0, hcat, hwf, hc1, hc2, post, hc, hk⟩ := h
  simp only [am_wfc, Bool.and_eq_true] at hwf
  obtain ⟨hwL, hwS⟩ := hwf
  obtain ⟨M2', d2, hMT', hd2, hokM, hMet⟩ := hsC _ _ _ _ hc
  cases hMT.symm.trans hMT'
  obtain ⟨hcode, hinit, hpl, hmh, hvh, hmL, hks⟩ := am_okM_ok hokM
  rw [hkd] at hks
  replace hks := ((hks.resolve_left (fun x => absurd x.1 (by decide))).resolve_left (fun x => absurd x.1 (by decide))).2
  obtain ⟨hinst, hpar, hnp, hnm, hret⟩ := hks
  have hst : ∃ o, st[am_mp M2 - 1]? = some (.ref o) := by
    unfold am_rcR at hrcv
    split at hrcv
    · rename_i o ho
      exact ⟨o, ho⟩
    · exact hrcv.elim
  obtain ⟨o, hst⟩ := hst
  obtain ⟨e1, e2⟩ := am_take hnp hst
  rw [e1] at hMet
  intro ad H locs ls hrel hn0 hw hnd hL hcs
  have hpre := am_preS (As := .ref o :: (st.take (am_mp M2 - 1)).reverse) hCC hA hSX hrel hw
  have hstk : st.map (am_cv ad) = (((st.take (am_mp M2 - 1)).reverse).map (am_cv ad)).reverse ++ .ref (ad o) :: (st.drop (am_mp M2)).map (am_cv ad) := by
    conv => lhs; rw [e2]
    simp [am_cv]
  exact am_done hA (va_runIN (As := ((st.take (am_mp M2 - 1)).reverse).map (am_cv ad)) (rest := (st.drop (am_mp M2)).map (am_cv ad)) (b := ad o) ⟨hx, hb, hml, hown, hts⟩ (hMet ad H.size) ⟨va_cnB (am_mp M2 - 1) hts (am_goodws M2 hokM) (by rw [am_ws, hret]) rfl rfl (hKX.1 _ hlk) (hts _ hinit) ⟨hmh, hvh, hpar⟩ (am_hR hCC hd2 hmL), hnm, hts _ hinst⟩ ⟨am_blind, hpre⟩ rfl (by rw [List.length_map, List.length_reverse, List.length_take]; omega) hL.2.1 hstk (lv_room (by rw [am_catsum]; exact hcat)) hd (by rw [hmc, hms, hRc, hRs]; exact ⟨hc1, hc2⟩)) hw (fun r G1 ad1 H1 locs1 hp hr1 hrel1 hlen hw1 => by
      have hxx := hrel1.2
      have h6 := hk r G1 hp
      rw [hmc, hms]
      have hk2 := hm _ _ _ _ _ _ h6 ad1 H1 locs1 ls ⟨fun z => by
        have z1 := hrel.1 z
        have z2 := hrel1.1 (by omega)
        rw [z2, z1], fun k hk => (hxx k (by omega)).trans (hrel.2 k hk)⟩ (Nat.le_trans hn0 hlen) hw1 hnd (am_LH_ad hxx hwL hL) ⟨hc1, hc2⟩
      refine W.eq ?_ hk2
      rw [am_psh_cv hr1, am_st_ad hxx hwS])

end AMS
