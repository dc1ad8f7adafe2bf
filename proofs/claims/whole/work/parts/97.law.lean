/-! The law over its script. -/
theorem am_ins_scr {C : am_C} {M : am_M} {z : Nat × (Nat → Int32)} {Q : Option Value → am_G → Prop} {X P : am_P} {pc : Nat} {i : Instr} {npc a b t u : Nat} {cv : Int32} {cl : Int64} {L : am_L} {st : List Value} {G : am_G} {nc ns : Nat} (h1 : i ≠ .iaload) (h2 : i ≠ .arraylength) : am_ins C M (some z) Q X P pc i npc a b t u cv cl L st G nc ns = am_ins C M none Q X P pc i npc a b t u cv cl L st G nc ns := by
  cases i <;> first | rfl | exact absurd rfl h1 | exact absurd rfl h2
section LAWS
variable {p : Program} {l : Launch} {e : Env} {R : Room} {s : State} {m : MethodId} {args : Array Value} {below : List Frame} {meth : Method} {c : Code} {dC : Nat → ClassId} {dI : Nat → Nat → Nat} {dA : Nat → ClassId} {d : Nat} {M : am_M} {A : Nat → Prop} {ad0 : Nat → Nat} {n0 : Nat} {QW : State → Prop} {MT : Nat → Option am_M} {C : am_C} {Q : Option Value → am_G → Prop} {N : Nat} {xs : Nat → Int32} {bx : Nat}
theorem law_sound (hC : am_Ctx p R s m args meth c dC dI dA d M) (hT : am_okT MT M = true) (hTX : am_TX l dC dI dA MT) (hsC : am_sC l dC dI dA MT d C) (hA : ∀ q, s.heap.size ≤ q → A q) (hSX : am_SX ad0 A s s.heap) (hxX : va_X bx N xs s s.heap) (hbl : bx < s.heap.size) (hbA : ¬ A bx) (hbad : ad0 2000000 = bx)
    (hri : ∀ pc L x G nc ns, Q (some (.int x)) G → (am_mr M = some .int ∨ (am_mr M = some .boolean ∧ (x = 0 ∨ x = 1))) → decode (am_mb M) pc = .ok (.ireturn, 1) → am_W p l e R s m args below meth c dC dI dA M A s.heap ad0 n0 QW pc L [.int x] G nc ns)
    (hrl : ∀ pc L x G nc ns, Q (some (.long x)) G → am_mr M = some .long → decode (am_mb M) pc = .ok (.lreturn, 1) → am_W p l e R s m args below meth c dC dI dA M A s.heap ad0 n0 QW pc L [.long x] G nc ns)
    (hrv : ∀ pc L G nc ns, Q none G → am_mr M = none → decode (am_mb M) pc = .ok (.return_, 1) → am_W p l e R s m args below meth c dC dI dA M A s.heap ad0 n0 QW pc L [] G nc ns)
    {pc : Nat} {L : am_L} {st : List Value} {G : am_G} {nc ns : Nat} (h : am_Ex C M (some (N, xs)) Q (am_W p l e R s m args below meth c dC dI dA M A s.heap ad0 n0 QW) pc L st G nc ns) : am_W p l e R s m args below meth c dC dI dA M A s.heap ad0 n0 QW pc L st G nc ns := by
  refine h _ (fun P0 hm pc L st G nc ns h => ?_)
  unfold am_step at h
  split at h
  · exact h.elim
  · rename_i pc' i npc a b t u pos cv cl he
    by_cases h1 : i = .iaload
    · subst h1
      obtain ⟨hok, hpc⟩ := am_lk_ok hT he
      simp only [am_okI, Bool.and_eq_true, decide_eq_true_eq] at hok
      obtain ⟨⟨hd, hn⟩, hok⟩ := hok
      have hpc : pc' = pc := hpc
      subst hpc
      have hn : npc = pc' + 1 := hn
      subst hn
      simp only [am_ins] at h
      split at h
      · obtain ⟨rfl, hv, hk⟩ := h
        intro ad H locs ls hrel hn0 hw hnd hL hcs
        have e1 : ad 2000000 = bx := (hrel.2 2000000 (Or.inr (by decide))).trans hbad
        have k := hm _ _ _ _ _ _ hk ad H locs ls hrel hn0 hw hnd hL hcs
        simp only [List.map_cons, am_cv, e1] at k ⊢
        exact va_sld hC.1 hC.2.1 hxX hbl hbA hw.2.2 hv hd k
      · exact h.elim
    · by_cases h2 : i = .arraylength
      · subst h2
        obtain ⟨hok, hpc⟩ := am_lk_ok hT he
        simp only [am_okI, Bool.and_eq_true, decide_eq_true_eq] at hok
        obtain ⟨⟨hd, hn⟩, hok⟩ := hok
        have hpc : pc' = pc := hpc
        subst hpc
        have hn : npc = pc' + 1 := hn
        subst hn
        simp only [am_ins] at h
        split at h
        · obtain ⟨rfl, hk⟩ := h
          intro ad H locs ls hrel hn0 hw hnd hL hcs
          have e1 : ad 2000000 = bx := (hrel.2 2000000 (Or.inr (by decide))).trans hbad
          have k := hm _ _ _ _ _ _ hk ad H locs ls hrel hn0 hw hnd hL hcs
          simp only [List.map_cons, am_cv, e1] at k ⊢
          exact va_slen hC.1 hC.2.1 hxX hbl hbA hw.2.2 hd k
        · exact h.elim
      · rw [am_ins_scr h1 h2] at h
        exact am_stepS hC hm hT hTX hsC hA hSX (fun _ _ _ _ _ _ _ z _ => z) hri hrl hrv (by
          unfold am_step
          rw [he]
          exact h)
end LAWS
section LAWH
variable {p : Program} {l : Launch} {e : Env} {R : Room} {s : State} {m : MethodId} {args : Array Value} {below : List Frame} {meth : Method} {c : Code} {dC : Nat → ClassId} {dI : Nat → Nat → Nat} {dA : Nat → ClassId} {A : Nat → Prop} {ad0 : Nat → Nat} {n0 : Nat} {QW : State → Prop} {Q : Option Value → am_G → Prop} {N : Nat} {xs : Nat → Int32} {scr : Option (Nat × (Nat → Int32))}
/-- behind a call of the law that makes cells -/
theorem law_behind {M2 : am_M} {post : Option Value → am_G → Prop} {ad : Nat → Nat} {H : Heap} {locs : List Loc} {ls : Array Slot} {pc nc ns : Nat} {L : am_L} {G : am_G} {st0 : List Value} {a' : Array Value} (hA : ∀ q, s.heap.size ≤ q → A q)
    (hs : ∀ pc L st G nc ns, am_Ex (am_Call am_MT 750) mmL_law scr Q (am_W p l e R s m args below meth c dC dI dA mmL_law A s.heap ad0 n0 QW) pc L st G nc ns → am_W p l e R s m args below meth c dC dI dA mmL_law A s.heap ad0 n0 QW pc L st G nc ns)
    (hwL : am_wfc G.length L [] = true) (hc1 : nc + am_mc M2 ≤ 601024) (hc2 : ns + am_ms M2 ≤ 7293034) (k : ∀ r G1, post r G1 → am_Ex (am_Call am_MT 750) mmL_law scr Q (am_W p l e R s m args below meth c dC dI dA mmL_law A s.heap ad0 n0 QW) (pc + 3) L (am_psh r []) G1 (nc + am_mc M2) (ns + am_ms M2))
    (hrel : am_Rel (am_mc mmL_law) n0 ad0 ad) (hn0 : n0 ≤ G.length) (hw : am_Wd dC dI dA A s.heap ad G H locs) (hnd : am_nod L) (hL : am_LH ls (am_mL mmL_law) L ad)
    (hr : va_Run p l e R s m args below meth c H locs nc ns (am_mc M2) (am_ms M2) (F0 m pc ls st0) [] (am_Qc dC dI dA M2 post G ad H.size a') (va_A (am_cw dA ad G) H.size)) : W p l e R s m args below meth c H locs nc ns QW (F0 m pc ls st0) := by
  simp only [am_wfc, Bool.and_eq_true] at hwL
  exact am_done hA hr hw (fun r G1 ad1 H1 locs1 hp hr1 hrel1 hlen hw1 => by
    have hxx := hrel1.2
    have hk2 := hs _ _ _ _ _ _ (k r G1 hp) ad1 H1 locs1 ls ⟨fun z => absurd z (by decide), fun k hk => (hxx k (by omega)).trans (hrel.2 k hk)⟩ (Nat.le_trans hn0 hlen) hw1 hnd (am_LH_ad hxx hwL.1 hL) ⟨hc1, hc2⟩
    refine W.eq ?_ hk2
    rw [am_psh_cv hr1]
    rfl)
theorem law_help {d : Nat} (hC : am_Ctx p R s m args meth c dC dI dA d mmL_law) (hd : 761 ≤ d) (hA : ∀ q, s.heap.size ≤ q → A q) (hSX : am_SX ad0 A s s.heap) (hXZ : xZ A s s.heap)
    (hs : ∀ pc L st G nc ns, am_Ex (am_Call am_MT 750) mmL_law scr Q (am_W p l e R s m args below meth c dC dI dA mmL_law A s.heap ad0 n0 QW) pc L st G nc ns → am_W p l e R s m args below meth c dC dI dA mmL_law A s.heap ad0 n0 QW pc L st G nc ns)
    {M2 : am_M} {hh : List (Nat × Nat × Nat × Nat)} {As : List Value} {S : am_S} {post : Option Value → am_G → Prop} {idx pc n : Nat} (hMet : hp_Met l dC dI dA 760 M2 hh As (am_H S) post) (hn : As.length = n) (hcw : Jvm.Cond.codeWith (am_my M2) (am_mb M2) (am_mL M2) (am_mr M2) hh ∈ am_U) (hmc2 : am_mc M2 = 1) (hms2 : am_ms M2 = 6) (hlk : Jvm.Cond.methodLink RL idx (am_my M2) ∈ am_U) (hst : Jvm.Cond.static (am_my M2) ∈ am_U) (hini : Jvm.Cond.initialized (am_my M2).cls ∈ am_U) (hy : (am_my M2).cls ≠ "java/lang/invoke/MethodHandle" ∧ (am_my M2).cls ≠ "java/lang/invoke/VarHandle" ∧ (parseMethodDescriptor (am_my M2).desc).map (fun d => d.parameters.length) = some n) (hmL2 : am_mL M2 ≤ 40) (hdec : decode code pc = .ok (.invokestatic idx, 3)) : LwH scr Q (am_W p l e R s m args below meth c dC dI dA mmL_law A s.heap ad0 n0 QW) pc As.reverse S post := by
  intro L nc ns hwL h1 h2 k ad H locs ls hrel hn0 hw hnd hL hcs
  have hpre := xpre (As := As) hC hA hSX hXZ hrel hw
  have hR := am_hR (d2 := 760) (M2 := M2) hC hd hmL2
  obtain ⟨hx, hb, hml, hown, hts, hini0, hK, hKX, hRc, hRs, hRf, hRl⟩ := hC
  refine law_behind (M2 := M2) (post := post) hA hs hwL (by rw [hmc2]; exact h1) (by rw [hms2]; exact h2) (fun r G1 hp => by rw [hmc2, hms2]; exact k r G1 hp) hrel hn0 hw hnd hL (vx_runSW (own := RL) (hh := hh) (As := As.map (am_cv ad)) (rest := []) ⟨hx, hb, hml, hown, hts⟩ (hMet ad H.size) (vx_cwSW n hts (fun w h3 => by
      rcases List.mem_append.mp h3 with h3 | h3
      · simp only [List.mem_cons, List.not_mem_nil, or_false] at h3
        rcases h3 with rfl | rfl | rfl
        · exact am_good hlk
        · exact am_good hst
        · exact am_good hini
      · rcases List.mem_cons.mp h3 with rfl | h3
        · exact am_good hcw
        · exact am_good h3) rfl rfl rfl hy hR) ⟨xBlind, hpre⟩ rfl (by rw [List.length_map]; exact hn) hL.2.1 (by rw [List.map_reverse, List.append_nil]) (lv_room (Nat.zero_le _)) hdec (by rw [hmc2, hms2, hRc, hRs]; exact ⟨h1, h2⟩))
theorem law_keep {d : Nat} (hC : am_Ctx p R s m args meth c dC dI dA d mmL_law) (hd : 750 ≤ d) (hTX : am_TX l dC dI dA am_MT) (hA : ∀ q, s.heap.size ≤ q → A q) (hSX : am_SX ad0 A s s.heap)
    (hs : ∀ pc L st G nc ns, am_Ex (am_Call am_MT 750) mmL_law scr Q (am_W p l e R s m args below meth c dC dI dA mmL_law A s.heap ad0 n0 QW) pc L st G nc ns → am_W p l e R s m args below meth c dC dI dA mmL_law A s.heap ad0 n0 QW pc L st G nc ns) : LwC scr Q (am_W p l e R s m args below meth c dC dI dA mmL_law A s.heap ad0 n0 QW) := by
  intro L S nc ns v r P hwL h1 h2 hc k ad H locs ls hrel hn0 hw hnd hL hcs
  obtain ⟨post, hcall, hpost⟩ := hc
  obtain ⟨M2, hM2, hok2, hMet⟩ := am_sound am_MT_ok hTX 749 _ _ _ _ hcall
  have hM9 : M2 = mmX10_keep := (Option.some.inj ((show am_MT iX10_keep = some mmX10_keep from rfl).symm.trans hM2)).symm
  subst hM9
  have hR := am_hR (d2 := 749) (M2 := mmX10_keep) hC hd (by decide)
  have hpre := am_preS (As := [.ref 0, .int v]) hC hA hSX hrel hw
  obtain ⟨hx, hb, hml, hown, hts, hini0, hK, hKX, hRc, hRs, hRf, hRl⟩ := hC
  obtain ⟨hcode, hinit, hpl, hmh, hvh, hmL2, hks2⟩ := am_okM_ok hok2
  replace hks2 := ((hks2.resolve_left (fun x => absurd x.1 (by decide +kernel))).resolve_right (fun x => absurd x.1 (by decide +kernel))).2
  obtain ⟨hinst, hsel, hpar, hnp, hcl⟩ := hks2
  have hG : (am_H S)[0]? = some (.inr (.inr (.inr (10, (List.range (am_fkl 10).length).map (am_fv S 10 0))))) := by
    rw [am_H_get (q := (10, 0)) rfl (by decide), am_ck_O (by decide)]
  have hvc : ∃ q, vwCl[10]? = some q ∧ q.1 = (am_my mmX10_keep).cls := by
    have hcl : (vwCl[10]?).map (fun q => q.1) = some (am_my mmX10_keep).cls := hcl
    cases hq : vwCl[10]? with
    | none => rw [hq] at hcl; cases hcl
    | some q => rw [hq] at hcl; exact ⟨q, rfl, Option.some.inj hcl⟩
  obtain ⟨q, hq1, hq2⟩ := hvc
  have hrecv := va_recv hK hw.1 hq1 (am_cw_get (ad := ad) (dA := dA) hG)
  rw [hq2] at hrecv
  refine law_behind (M2 := mmX10_keep) (post := post) hA hs hwL h1 h2 (fun r1 G1 hp => ?_) hrel hn0 hw hnd hL (va_runV (own := RL) (As := [.int v]) (rest := []) (b := ad 0) ⟨hx, hb, hml, hown, hts⟩ (hMet ad H.size) (cwV 1 hts (fun w h3 => by
      rcases List.mem_append.mp h3 with h3 | h3
      · simp only [List.mem_cons, List.not_mem_nil, or_false] at h3
        rcases h3 with rfl | rfl | rfl | rfl
        · exact am_good (am_at_U (pos := 1063) (by decide +kernel) rfl)
        · exact am_good hinst
        · exact am_good hsel
        · exact am_good hinit
      · exact am_goodws mmX10_keep hok2 w h3) rfl rfl rfl ⟨rfl, hmh, hvh, hpar⟩ hR) ⟨am_blind, hrecv, hpre⟩ rfl rfl hL.2.1 rfl (lv_room (Nat.zero_le _)) (show decode code 1943 = .ok (.invokevirtual 214, 3) by decide +kernel) (by rw [hRc, hRs]; exact ⟨h1, h2⟩))
  obtain ⟨rfl, T, rfl, hT⟩ := hpost r1 G1 hp
  exact k T hT
end LAWH
