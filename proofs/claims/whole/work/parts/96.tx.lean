/-! The class's calls of the constants' own methods. -/
section TXS
theorem tx_cl {x : Int32} (h : ¬ x < 0) : nI x.toNatClampNeg = x := by
  have h0 : 0 ≤ x := Int32.not_lt.mp h
  exact (nI_cl h0).symm
theorem tx_big {x : Int32} (h0 : 0 ≤ x) (h1 : x < 65536) : ∃ k, k < 65536 ∧ x = nI k := by
  refine ⟨x.toNatClampNeg, ?_, nI_cl h0⟩
  have e : x = nI x.toNatClampNeg := nI_cl h0
  have h2 := Int32.lt_iff_toInt_lt.mp h1
  have h0 : (0 : Int32).toInt ≤ x.toInt := Int32.le_iff_toInt_le.mp h0
  have h3 : (x.toInt.toNat : Int) = x.toInt := Int.toNat_of_nonneg h0
  have h5 : x.toNatClampNeg = x.toInt.toNat := rfl
  have h4 : (65536 : Int32).toInt = 65536 := by decide
  omega
theorem tx_o {mc n0 : Nat} {ad0 ad : Nat → Nat} (hrel : am_Rel mc n0 ad0 ad) (h2 : ∀ i, i < 2 → ad0 (1000010 + i) = ad0 (1000000 + i)) {o : Nat} (h : 1000000 ≤ o) (ho : o < 1000012) : ∃ i, i < 10 ∧ ad o = ad0 (1000000 + i) ∧ am_str (o - 1000000) = am_str i := by
  have e := hrel.2 o (Or.inr h)
  obtain ⟨k, rfl⟩ := Nat.exists_eq_add_of_le h
  rw [Nat.add_sub_cancel_left]
  by_cases hk : k < 10
  · exact ⟨k, hk, e, rfl⟩
  · obtain ⟨j, rfl⟩ := Nat.exists_eq_add_of_le (Nat.le_of_not_lt hk)
    have hj : j < 2 := by omega
    refine ⟨j, by omega, ?_, ?_⟩
    · rw [e, ← h2 j hj, ← Nat.add_assoc]
    · match j, hj with
      | 0, _ => rfl
      | 1, _ => rfl
theorem tx_pre {adK adV : Nat → Nat} {A : Nat → Prop} {s : State} {H : Heap} {locs : List Loc} (hA : ∀ q, s.heap.size ≤ q → A q) (h : jS adK adV A s s.heap) (hS : va_S A s.heap H locs) {av : List Value} : ∀ U : State, U.heap = H → s.WarmedH U.vm → jPc adK adV H.size av av.toArray U := by
  intro U hU hW
  refine ⟨rfl, by rw [hU], jS_moved hW.alike ?_⟩
  rw [hU]
  have hn : ∀ q, jA H.size q → A q := fun q h => hA q (Nat.le_trans hS.1 h)
  exact ⟨(h.1.kept hS.2.1).narrow hn, (h.2.1.kept hS.2.1).narrow hn, (h.2.2.kept hS.2.1).narrow hn⟩
theorem tx_len {l : Launch} {p : Program} {e : Env} {R : Room} {s : State} {m : MethodId} {args : Array Value} {below : List Frame} {meth : Method} {c : Code} {dC : Nat → ClassId} {dI : Nat → Nat → Nat} {dA : Nat → ClassId} {d : Nat} {M : am_M} {A : Nat → Prop} {ad0 : Nat → Nat} {n0 : Nat} {QW : State → Prop} {P0 : am_P} {pc : Nat} {L : am_L} {st : List Value} {G : am_G} {nc ns idx o : Nat} (hC : am_Ctx p R s m args meth c dC dI dA d M) (hm : ∀ pc L st G nc ns, P0 pc L st G nc ns → am_W p l e R s m args below meth c dC dI dA M A s.heap ad0 n0 QW pc L st G nc ns) (hA : ∀ q, s.heap.size ≤ q → A q) (hSX : am_SX ad0 A s s.heap) (hd : decode (am_mb M) pc = .ok (.invokevirtual idx, 3)) (hlk : Jvm.Cond.methodLink (am_my M).cls idx yJ0_length_8abf5 ∈ am_U) (h1 : 1000000 ≤ o) (h2 : o < 1000012) (hcat : (st.map fun v => v.category).sum ≤ 8) (hk : P0 (pc + 3) L (.int (nI (am_str (o - 1000000)).length) :: st) G nc ns) : am_W p l e R s m args below meth c dC dI dA M A s.heap ad0 n0 QW pc L (.ref o :: st) G nc ns := by
  obtain ⟨hx, hb, hml, hown, hts, hini, hK, hKX, hRc, hRs, hRf, hRl⟩ := hC
  obtain ⟨⟨adV, s1⟩, s2, s3, s4, s5⟩ := hSX
  intro ad H locs ls hrel hn0 hw hnd hL hcs
  obtain ⟨i, hi, e1, e2⟩ := tx_o hrel s2 h1 h2
  rw [e2] at hk
  have J := j_J0_length_8abf5 l (fun i => ad0 (1000000 + i)) adV H.size hi
  have hS := hw.2.2
  refine va_calli (st0 := .ref (ad o) :: st.map (am_cv ad)) (va_runV (As := []) (rest := st.map (am_cv ad)) (b := ad0 (1000000 + i)) ⟨hx, hb, hml, hown, hts⟩ J (cwV 0 hts (j_goodV hlk (am_at_U (pos := 536) (w := .instanceMethod yJ0_length_8abf5) (by decide +kernel) rfl) (am_at_U (pos := 537) (w := .selects RJ0 yJ0_length_8abf5 yJ0_length_8abf5) (by decide +kernel) rfl) (am_at_U (pos := 89) (w := .initialized RJ0) (by decide +kernel) rfl) (am_at_U (pos := 538) (w := .code yJ0_length_8abf5 cJ0_length_8abf5 1 (some .int)) (by decide +kernel) rfl)) rfl rfl rfl (by decide +kernel) ⟨Nat.le_trans (by show _ ≤ 40; decide) (Nat.le_trans (Nat.le_add_left 40 d) hRf), Nat.le_trans (by show _ ≤ 2000; decide) (Nat.le_trans (Nat.le_add_left 2000 (80 * d)) hRl)⟩) ⟨jBlind, vk_recv (adK := fun i => ad0 (1000000 + i)) s1 hi hS, tx_pre hA ⟨s1, s4, s5⟩ hS⟩ rfl rfl hL.2.1 (by rw [e1]; rfl) (lv_room (by rw [am_catsum]; exact hcat)) hd (by rw [hRc, hRs]; exact hcs)) hS (fun q _ h => hA q (Nat.le_trans hS.1 h)) (fun q h => hA q (Nat.le_trans hS.1 h)) (fun r u t H1 locs1 ht hvm hp hB hz hk9 hS1 => ?_)
  subst hp
  exact hm _ _ _ _ _ _ hk ad H1 locs1 ls hrel hn0 ⟨hw.1.kept (fun k q hq => hk9 q.1 (hw.1 k q hq).lt (fun z => absurd (hw.1 k q hq).lt (Nat.not_lt.mpr z))), hw.2.1, hS1⟩ hnd hL hcs
theorem tx_char {l : Launch} {p : Program} {e : Env} {R : Room} {s : State} {m : MethodId} {args : Array Value} {below : List Frame} {meth : Method} {c : Code} {dC : Nat → ClassId} {dI : Nat → Nat → Nat} {dA : Nat → ClassId} {d : Nat} {M : am_M} {A : Nat → Prop} {ad0 : Nat → Nat} {n0 : Nat} {QW : State → Prop} {P0 : am_P} {pc : Nat} {L : am_L} {st : List Value} {G : am_G} {nc ns idx o : Nat} {x : Int32} (hC : am_Ctx p R s m args meth c dC dI dA d M) (hm : ∀ pc L st G nc ns, P0 pc L st G nc ns → am_W p l e R s m args below meth c dC dI dA M A s.heap ad0 n0 QW pc L st G nc ns) (hA : ∀ q, s.heap.size ≤ q → A q) (hSX : am_SX ad0 A s s.heap) (hd : decode (am_mb M) pc = .ok (.invokevirtual idx, 3)) (hlk : Jvm.Cond.methodLink (am_my M).cls idx yJ0_charAt_5068e ∈ am_U) (h1 : 1000000 ≤ o) (h2 : o < 1000012) (hx1 : vp_in x (am_str (o - 1000000)).length) (hcat : (st.map fun v => v.category).sum ≤ 8) (hk : P0 (pc + 3) L (.int (nI ((am_str (o - 1000000)).getD x.toNatClampNeg 0)) :: st) G nc ns) : am_W p l e R s m args below meth c dC dI dA M A s.heap ad0 n0 QW pc L (.int x :: .ref o :: st) G nc ns := by
  obtain ⟨hx, hb, hml, hown, hts, hini, hK, hKX, hRc, hRs, hRf, hRl⟩ := hC
  obtain ⟨⟨adV, s1⟩, s2, s3, s4, s5⟩ := hSX
  intro ad H locs ls hrel hn0 hw hnd hL hcs
  obtain ⟨i, hi, e1, e2⟩ := tx_o hrel s2 h1 h2
  rw [e2] at hk hx1
  have hlt : x.toNatClampNeg < (am_str i).length := Nat.not_le.mp fun q => hx1 (Or.inr q)
  have J := j_J0_charAt_5068e l (fun i => ad0 (1000000 + i)) adV H.size hi hlt
  have hxe : nI x.toNatClampNeg = x := tx_cl (fun q => hx1 (Or.inl q))
  rw [hxe] at J
  have hS := hw.2.2
  refine va_calli (st0 := .int x :: .ref (ad o) :: st.map (am_cv ad)) (va_runV (As := [.int x]) (rest := st.map (am_cv ad)) (b := ad0 (1000000 + i)) ⟨hx, hb, hml, hown, hts⟩ J (cwV 1 hts (j_goodV hlk (am_at_U (pos := 1270) (w := .instanceMethod yJ0_charAt_5068e) (by decide +kernel) rfl) (am_at_U (pos := 1271) (w := .selects RJ0 yJ0_charAt_5068e yJ0_charAt_5068e) (by decide +kernel) rfl) (am_at_U (pos := 89) (w := .initialized RJ0) (by decide +kernel) rfl) (am_at_U (pos := 1272) (w := .code yJ0_charAt_5068e cJ0_charAt_5068e 2 (some .char)) (by decide +kernel) rfl)) rfl rfl rfl (by decide +kernel) ⟨Nat.le_trans (by show _ ≤ 40; decide) (Nat.le_trans (Nat.le_add_left 40 d) hRf), Nat.le_trans (by show _ ≤ 2000; decide) (Nat.le_trans (Nat.le_add_left 2000 (80 * d)) hRl)⟩) ⟨jBlind, vk_recv (adK := fun i => ad0 (1000000 + i)) s1 hi hS, tx_pre hA ⟨s1, s4, s5⟩ hS⟩ rfl rfl hL.2.1 (by rw [e1]; rfl) (lv_room (by rw [am_catsum]; exact hcat)) hd (by rw [hRc, hRs]; exact hcs)) hS (fun q _ h => hA q (Nat.le_trans hS.1 h)) (fun q h => hA q (Nat.le_trans hS.1 h)) (fun r u t H1 locs1 ht hvm hp hB hz hk9 hS1 => ?_)
  subst hp
  exact hm _ _ _ _ _ _ hk ad H1 locs1 ls hrel hn0 ⟨hw.1.kept (fun k q hq => hk9 q.1 (hw.1 k q hq).lt (fun z => absurd (hw.1 k q hq).lt (Nat.not_lt.mpr z))), hw.2.1, hS1⟩ hnd hL hcs
theorem tx_idx {l : Launch} {p : Program} {e : Env} {R : Room} {s : State} {m : MethodId} {args : Array Value} {below : List Frame} {meth : Method} {c : Code} {dC : Nat → ClassId} {dI : Nat → Nat → Nat} {dA : Nat → ClassId} {d : Nat} {M : am_M} {A : Nat → Prop} {ad0 : Nat → Nat} {n0 : Nat} {QW : State → Prop} {P0 : am_P} {pc : Nat} {L : am_L} {st : List Value} {G : am_G} {nc ns idx o : Nat} {x : Int32} (hC : am_Ctx p R s m args meth c dC dI dA d M) (hm : ∀ pc L st G nc ns, P0 pc L st G nc ns → am_W p l e R s m args below meth c dC dI dA M A s.heap ad0 n0 QW pc L st G nc ns) (hA : ∀ q, s.heap.size ≤ q → A q) (hSX : am_SX ad0 A s s.heap) (hd : decode (am_mb M) pc = .ok (.invokevirtual idx, 3)) (hlk : Jvm.Cond.methodLink (am_my M).cls idx yJ0_indexOf_0f7a4 ∈ am_U) (h1 : 1000000 ≤ o) (h2 : o < 1000012) (hx1 : 0 ≤ x) (hx2 : x < 65536) (hcat : (st.map fun v => v.category).sum ≤ 8) (hk : P0 (pc + 3) L (.int (am_ixo (am_str (o - 1000000)) x 0) :: st) G nc ns) : am_W p l e R s m args below meth c dC dI dA M A s.heap ad0 n0 QW pc L (.int x :: .ref o :: st) G nc ns := by
  obtain ⟨hx, hb, hml, hown, hts, hini, hK, hKX, hRc, hRs, hRf, hRl⟩ := hC
  obtain ⟨⟨adV, s1⟩, s2, s3, s4, s5⟩ := hSX
  intro ad H locs ls hrel hn0 hw hnd hL hcs
  obtain ⟨i, hi, e1, e2⟩ := tx_o hrel s2 h1 h2
  rw [e2] at hk
  obtain ⟨k, hk6, hxk⟩ := tx_big hx1 hx2
  have J := j_J0_indexOf_0f7a4 l (fun i => ad0 (1000000 + i)) adV H.size hi hk6
  rw [← hxk] at J
  have hS := hw.2.2
  refine va_calli (st0 := .int x :: .ref (ad o) :: st.map (am_cv ad)) (va_runV (As := [.int x]) (rest := st.map (am_cv ad)) (b := ad0 (1000000 + i)) ⟨hx, hb, hml, hown, hts⟩ J (cwV 1 hts (j_goodV hlk (am_at_U (pos := 522) (w := .instanceMethod yJ0_indexOf_0f7a4) (by decide +kernel) rfl) (am_at_U (pos := 523) (w := .selects RJ0 yJ0_indexOf_0f7a4 yJ0_indexOf_0f7a4) (by decide +kernel) rfl) (am_at_U (pos := 89) (w := .initialized RJ0) (by decide +kernel) rfl) (am_at_U (pos := 524) (w := .code yJ0_indexOf_0f7a4 cJ0_indexOf_0f7a4 2 (some .int)) (by decide +kernel) rfl)) rfl rfl rfl (by decide +kernel) ⟨Nat.le_trans (by show _ ≤ 40; decide) (Nat.le_trans (Nat.le_add_left 40 d) hRf), Nat.le_trans (by show _ ≤ 2000; decide) (Nat.le_trans (Nat.le_add_left 2000 (80 * d)) hRl)⟩) ⟨jBlind, vk_recv (adK := fun i => ad0 (1000000 + i)) s1 hi hS, tx_pre hA ⟨s1, s4, s5⟩ hS⟩ rfl rfl hL.2.1 (by rw [e1]; rfl) (lv_room (by rw [am_catsum]; exact hcat)) hd (by rw [hRc, hRs]; exact hcs)) hS (fun q _ h => hA q (Nat.le_trans hS.1 h)) (fun q h => hA q (Nat.le_trans hS.1 h)) (fun r u t H1 locs1 ht hvm hp hB hz hk9 hS1 => ?_)
  subst hp
  exact hm _ _ _ _ _ _ hk ad H1 locs1 ls hrel hn0 ⟨hw.1.kept (fun k q hq => hk9 q.1 (hw.1 k q hq).lt (fun z => absurd (hw.1 k q hq).lt (Nat.not_lt.mpr z))), hw.2.1, hS1⟩ hnd hL hcs
end TXS
theorem am_TXp {l : Launch} {dC : Nat → ClassId} {dI : Nat → Nat → Nat} {dA : Nat → ClassId} {MT : Nat → Option am_M} : am_TX l dC dI dA MT := by
  intro p e R s m args below meth c d M A ad0 n0 QW C Q X P0 pc npc a b t u pos cv cl L st G nc ns idx hC hm hA hSX hd hn hok ht h
  subst hn
  rcases ht with rfl | rfl | rfl
  · simp only [am_ins] at h
    split at h
    · obtain ⟨h1, h2, hcat, hk⟩ := h
      exact tx_len hC hm hA hSX hd (am_at_U (w := .methodLink (am_my M).cls idx yJ0_length_8abf5) hok rfl) h1 h2 hcat hk
    · exact h.elim
  · simp only [am_ins] at h
    split at h
    · obtain ⟨h1, h2, hx1, hcat, hk⟩ := h
      exact tx_char hC hm hA hSX hd (am_at_U (w := .methodLink (am_my M).cls idx yJ0_charAt_5068e) hok rfl) h1 h2 hx1 hcat hk
    · exact h.elim
  · simp only [am_ins] at h
    split at h
    · obtain ⟨h1, h2, hx1, hx2, hcat, hk⟩ := h
      exact tx_idx hC hm hA hSX hd (am_at_U (w := .methodLink (am_my M).cls idx yJ0_indexOf_0f7a4) hok rfl) h1 h2 hx1 hx2 hcat hk
    · exact h.elim
