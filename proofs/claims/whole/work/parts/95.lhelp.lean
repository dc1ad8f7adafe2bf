/-! The law's helpers, from their own bodies: the class answers, or throws. -/
theorem hp_same {l : Launch} {dC : Nat → ClassId} {dI : Nat → Nat → Nat} {dA : Nat → ClassId} {d : Nat} {a1 : MethodName} {a2 : ByteArray} {a3 : Nat} {a4 : Option FieldType} {a5 a6 : Nat} {r r' : Nat × Nat × List Nat × List (Nat × List am_I)} {hh : List (Nat × Nat × Nat × Nat)} {As : List Value} {G : am_G} {post : Option Value → am_G → Prop} (h : hp_Met l dC dI dA d (a1, a2, a3, a4, a5, a6, r) hh As G post) : hp_Met l dC dI dA d (a1, a2, a3, a4, a5, a6, r') hh As G post := h
theorem hn_does {S : am_S} (R : RM S) (p w : Int32) (h : hasP S p ∧ 0 ≤ w ∧ w ≤ 1) : am_Ex (am_Call am_MT 750) mmL_does none (HpO Value.int Int32.toInt64 iX11_does [.ref 97, .int p, .int w] S) (fun _ _ _ _ _ _ => False) 0 (am_entL (am_mL mmL_does) [.ref 0, .int p, .int w, .ref 130]) [] (am_H S) 0 0 := by
  obtain ⟨x, P, hA, hB⟩ := jo_does (d := 50) R p w h
  refine r_aload_n rfl rfl ?_
  refine r_iconst rfl ?_
  refine r_aload_n rfl rfl ?_
  refine r_iload_n rfl rfl ?_
  refine r_iload_n rfl rfl ?_
  refine r_callVX rfl hA rfl rfl rfl (by decide) rfl (am_cnt rfl) (fun T hT => ?_)
  obtain ⟨Q1, hQ, hU⟩ := hB T hT
  refine r_i2l rfl ?_
  refine r_last rfl rfl (by decide) (by decide) (by decide) ?_
  refine r_goto rfl ?_
  refine r_iconst rfl ?_
  refine r_iret rfl rfl ?_
  exact Or.inl ⟨rfl, x, _, rfl, Q1, hQ, hU⟩
theorem ht_does {S : am_S} (p w : Int32) : am_Ex (am_Call am_MT 750) mmL_doesX none (fun _ _ => False) (xst 5 [.int w, .int p, .ref 0, .int 0, .ref 130] (am_H S)) 0 (am_entL (am_mL mmL_doesX) [.ref 0, .int p, .int w, .ref 130]) [] (am_H S) 0 0 := by
  refine r_aload_n rfl rfl ?_
  refine r_iconst rfl ?_
  refine r_aload_n rfl rfl ?_
  refine r_iload_n rfl rfl ?_
  refine r_iload_n rfl rfl ?_
  exact r_virtX rfl ⟨rfl, rfl, rfl, rfl, rfl⟩
theorem hp_does {l : Launch} (hl : l.stackTraces = false) {dC : Nat → ClassId} {dI : Nat → Nat → Nat} {dA : Nat → ClassId} (hTX : am_TX l dC dI dA am_MT) (hsC : ∀ d, 750 ≤ d → am_sC l dC dI dA am_MT d (am_Call am_MT 750)) {S : am_S} (R : RM S) (p w : Int32) : hp_Met l dC dI dA 760 mmL_does hhL_does [.ref 0, .int p, .int w, .ref 130] (am_H S) (HpO Value.int Int32.toInt64 iX11_does [.ref 97, .int p, .int w] S) := by
  have hlong : ∀ v ∈ ([.ref 0, .int p, .int w, .ref 130] : List Value), v.category = 2 → ∃ x, v = .long x := fun v hv h => by
    simp only [List.mem_cons, List.not_mem_nil, or_false] at hv
    rcases hv with rfl | rfl | rfl | rfl <;> cases h
  have hlong2 : ∀ v ∈ ([.ref 0, .int p, .int w] : List Value), v.category = 2 → ∃ x, v = .long x := fun v hv h => by
    simp only [List.mem_cons, List.not_mem_nil, or_false] at hv
    rcases hv with rfl | rfl | rfl <;> cases h
  by_cases h : hasP S p ∧ 0 ≤ w ∧ w ≤ 1
  · exact hp_run hTX 760 (hsC 760 (by decide)) (by decide +kernel) okL_does (Nat.le_of_ble_eq_true rfl) hlong (hn_does R p w h)
  · have hG : (am_H S)[0]? = some (.inr (.inr (.inr (am_mk (mmT mmX10_does), (List.range (am_fkl 10).length).map (am_fv S 10 0))))) := by
      rw [am_H_get (q := (10, 0)) rfl (by decide), am_ck_O (by decide)]
      rfl
    have hthr : xMetT l dC dI dA 755 (mmT mmX10_does) [.ref 0, .int p, .int w] (am_H S) := xthrow hl hTX 755 (hsC 755 (by decide)) okT_does.1 okT_does.2 rfl rfl rfl (Nat.le_of_ble_eq_true rfl) hlong2 (q := 20) (by decide +kernel) (by decide +kernel) (by decide +kernel) (by decide +kernel) (tx_does h)
    have hlk : Jvm.Cond.methodLink RL 7 (am_my (mmT mmX10_does)) ∈ am_U := am_at_U (pos := 1089) (by decide +kernel) rfl
    have hcw : Jvm.Cond.codeWith (am_my mmL_doesX) (am_mb mmL_doesX) (am_mL mmL_doesX) (am_mr mmL_doesX) hhL_does ∈ am_U := am_at_U (pos := 1087) (by decide +kernel) rfl
    have hpost : HpO Value.int Int32.toInt64 iX11_does [.ref 97, .int p, .int w] S (some (.int 1)) (am_H S) := Or.inr ⟨rfl, rfl, _, _, cx_T (no_does (d := 50) R h), fun U hU => by subst hU; exact thr_rm R⟩
    have h1 : plainName (am_my mmL_doesX).cls = true := by decide +kernel
    have h2 : decode (am_mb mmL_doesX) 5 = .ok (.invokevirtual 7, 3) := by decide +kernel
    have h3 : decode (am_mb mmL_doesX) 13 = .ok (.astore 4, 2) := by decide +kernel
    have h4 : decode (am_mb mmL_doesX) (13 + 2) = .ok (.iconst 1, 1) := by decide +kernel
    have h5 : decode (am_mb mmL_doesX) (13 + 2 + 1) = .ok (.ireturn, 1) := by decide +kernel
    have hc : hp_Met l dC dI dA 760 mmL_doesX hhL_does [.ref 0, .int p, .int w, .ref 130] (am_H S) (HpO Value.int Int32.toInt64 iX11_does [.ref 97, .int p, .int w] S) := hp_catch (M := mmL_doesX) (M2 := mmT mmX10_does) (q := 5) (q2 := 13) (idx := 7) (o := 0) (i := 4) (w := 2) (rest := [.int 0, .ref 130]) (As2 := [.int p, .int w]) (x := ⟨0, 10, 13, 13⟩) hTX 760 (hsC 760 (by decide)) h1 okL_doesX rfl rfl rfl rfl hcw (Nat.le_of_ble_eq_true rfl) hlong h2 okT_does.1 rfl hlk rfl rfl rfl hG ⟨755, by decide, hthr⟩ rfl (by decide) rfl rfl (by decide) (Or.inr ⟨rfl, h3⟩) h4 h5 (by decide) hpost (ht_does p w)
    exact hp_same hc
theorem hn_go {S : am_S} (R : RM S) (m : Int32) (h : 0 ≤ m ∧ m ≤ 199) : am_Ex (am_Call am_MT 750) mmL_go none (HpO Value.int Int32.toInt64 iX11_go [.ref 97, .int m] S) (fun _ _ _ _ _ _ => False) 0 (am_entL (am_mL mmL_go) [.ref 0, .int m, .ref 130]) [] (am_H S) 0 0 := by
  obtain ⟨x, P, hA, hB⟩ := jo_go (d := 50) R m h
  refine r_aload_n rfl rfl ?_
  refine r_iconst rfl ?_
  refine r_aload_n rfl rfl ?_
  refine r_iload_n rfl rfl ?_
  refine r_callVX rfl hA rfl rfl rfl (by decide) rfl (am_cnt rfl) (fun T hT => ?_)
  obtain ⟨Q1, hQ, hU⟩ := hB T hT
  refine r_i2l rfl ?_
  refine r_last rfl rfl (by decide) (by decide) (by decide) ?_
  refine r_goto rfl ?_
  refine r_iconst rfl ?_
  refine r_iret rfl rfl ?_
  exact Or.inl ⟨rfl, x, _, rfl, Q1, hQ, hU⟩
theorem ht_go {S : am_S} (m : Int32) : am_Ex (am_Call am_MT 750) mmL_goX none (fun _ _ => False) (xst 4 [.int m, .ref 0, .int 0, .ref 130] (am_H S)) 0 (am_entL (am_mL mmL_goX) [.ref 0, .int m, .ref 130]) [] (am_H S) 0 0 := by
  refine r_aload_n rfl rfl ?_
  refine r_iconst rfl ?_
  refine r_aload_n rfl rfl ?_
  refine r_iload_n rfl rfl ?_
  exact r_virtX rfl ⟨rfl, rfl, rfl, rfl, rfl⟩
theorem hp_go {l : Launch} (hl : l.stackTraces = false) {dC : Nat → ClassId} {dI : Nat → Nat → Nat} {dA : Nat → ClassId} (hTX : am_TX l dC dI dA am_MT) (hsC : ∀ d, 750 ≤ d → am_sC l dC dI dA am_MT d (am_Call am_MT 750)) {S : am_S} (R : RM S) (m : Int32) : hp_Met l dC dI dA 760 mmL_go hhL_go [.ref 0, .int m, .ref 130] (am_H S) (HpO Value.int Int32.toInt64 iX11_go [.ref 97, .int m] S) := by
  have hlong : ∀ v ∈ ([.ref 0, .int m, .ref 130] : List Value), v.category = 2 → ∃ x, v = .long x := fun v hv h => by
    simp only [List.mem_cons, List.not_mem_nil, or_false] at hv
    rcases hv with rfl | rfl | rfl <;> cases h
  have hlong2 : ∀ v ∈ ([.ref 0, .int m] : List Value), v.category = 2 → ∃ x, v = .long x := fun v hv h => by
    simp only [List.mem_cons, List.not_mem_nil, or_false] at hv
    rcases hv with rfl | rfl <;> cases h
  by_cases h : 0 ≤ m ∧ m ≤ 199
  · exact hp_run hTX 760 (hsC 760 (by decide)) (by decide +kernel) okL_go (Nat.le_of_ble_eq_true rfl) hlong (hn_go R m h)
  · have hG : (am_H S)[0]? = some (.inr (.inr (.inr (am_mk (mmT mmX10_go), (List.range (am_fkl 10).length).map (am_fv S 10 0))))) := by
      rw [am_H_get (q := (10, 0)) rfl (by decide), am_ck_O (by decide)]
      rfl
    have hthr : xMetT l dC dI dA 755 (mmT mmX10_go) [.ref 0, .int m] (am_H S) := xthrow hl hTX 755 (hsC 755 (by decide)) okT_go.1 okT_go.2 rfl rfl rfl (Nat.le_of_ble_eq_true rfl) hlong2 (q := 11) (by decide +kernel) (by decide +kernel) (by decide +kernel) (by decide +kernel) (tx_go h)
    have hlk : Jvm.Cond.methodLink RL 15 (am_my (mmT mmX10_go)) ∈ am_U := am_at_U (pos := 1160) (by decide +kernel) rfl
    have hcw : Jvm.Cond.codeWith (am_my mmL_goX) (am_mb mmL_goX) (am_mL mmL_goX) (am_mr mmL_goX) hhL_go ∈ am_U := am_at_U (pos := 1159) (by decide +kernel) rfl
    have hpost : HpO Value.int Int32.toInt64 iX11_go [.ref 97, .int m] S (some (.int 1)) (am_H S) := Or.inr ⟨rfl, rfl, _, _, cx_T (no_go (d := 50) h), fun U hU => by subst hU; exact thr_rm R⟩
    have h1 : plainName (am_my mmL_goX).cls = true := by decide +kernel
    have h2 : decode (am_mb mmL_goX) 4 = .ok (.invokevirtual 15, 3) := by decide +kernel
    have h3 : decode (am_mb mmL_goX) 12 = .ok (.astore_n 3, 1) := by decide +kernel
    have h4 : decode (am_mb mmL_goX) (12 + 1) = .ok (.iconst 1, 1) := by decide +kernel
    have h5 : decode (am_mb mmL_goX) (12 + 1 + 1) = .ok (.ireturn, 1) := by decide +kernel
    have hc : hp_Met l dC dI dA 760 mmL_goX hhL_go [.ref 0, .int m, .ref 130] (am_H S) (HpO Value.int Int32.toInt64 iX11_go [.ref 97, .int m] S) := hp_catch (M := mmL_goX) (M2 := mmT mmX10_go) (q := 4) (q2 := 12) (idx := 15) (o := 0) (i := 3) (w := 1) (rest := [.int 0, .ref 130]) (As2 := [.int m]) (x := ⟨0, 9, 12, 13⟩) hTX 760 (hsC 760 (by decide)) h1 okL_goX rfl rfl rfl rfl hcw (Nat.le_of_ble_eq_true rfl) hlong h2 okT_go.1 rfl hlk rfl rfl rfl hG ⟨755, by decide, hthr⟩ rfl (by decide) rfl rfl (by decide) (Or.inl ⟨rfl, 3, rfl, h3⟩) h4 h5 (by decide) hpost (ht_go m)
    exact hp_same hc
theorem hn_place {S : am_S} (R : RM S) (m : Int32) (h : 0 ≤ m ∧ m ≤ gI S 54 0) : am_Ex (am_Call am_MT 750) mmL_place none (HpO Value.int Int32.toInt64 iX11_place [.ref 97, .int m] S) (fun _ _ _ _ _ _ => False) 0 (am_entL (am_mL mmL_place) [.ref 0, .int m, .ref 130]) [] (am_H S) 0 0 := by
  obtain ⟨x, P, hA, hB⟩ := jo_place (d := 50) R m h
  refine r_aload_n rfl rfl ?_
  refine r_iconst rfl ?_
  refine r_aload_n rfl rfl ?_
  refine r_iload_n rfl rfl ?_
  refine r_callVX rfl hA rfl rfl rfl (by decide) rfl (am_cnt rfl) (fun T hT => ?_)
  obtain ⟨Q1, hQ, hU⟩ := hB T hT
  refine r_i2l rfl ?_
  refine r_last rfl rfl (by decide) (by decide) (by decide) ?_
  refine r_goto rfl ?_
  refine r_iconst rfl ?_
  refine r_iret rfl rfl ?_
  exact Or.inl ⟨rfl, x, _, rfl, Q1, hQ, hU⟩
theorem ht_place {S : am_S} (m : Int32) : am_Ex (am_Call am_MT 750) mmL_placeX none (fun _ _ => False) (xst 4 [.int m, .ref 0, .int 0, .ref 130] (am_H S)) 0 (am_entL (am_mL mmL_placeX) [.ref 0, .int m, .ref 130]) [] (am_H S) 0 0 := by
  refine r_aload_n rfl rfl ?_
  refine r_iconst rfl ?_
  refine r_aload_n rfl rfl ?_
  refine r_iload_n rfl rfl ?_
  exact r_virtX rfl ⟨rfl, rfl, rfl, rfl, rfl⟩
theorem hp_place {l : Launch} (hl : l.stackTraces = false) {dC : Nat → ClassId} {dI : Nat → Nat → Nat} {dA : Nat → ClassId} (hTX : am_TX l dC dI dA am_MT) (hsC : ∀ d, 750 ≤ d → am_sC l dC dI dA am_MT d (am_Call am_MT 750)) {S : am_S} (R : RM S) (m : Int32) : hp_Met l dC dI dA 760 mmL_place hhL_place [.ref 0, .int m, .ref 130] (am_H S) (HpO Value.int Int32.toInt64 iX11_place [.ref 97, .int m] S) := by
  have hlong : ∀ v ∈ ([.ref 0, .int m, .ref 130] : List Value), v.category = 2 → ∃ x, v = .long x := fun v hv h => by
    simp only [List.mem_cons, List.not_mem_nil, or_false] at hv
    rcases hv with rfl | rfl | rfl <;> cases h
  have hlong2 : ∀ v ∈ ([.ref 0, .int m] : List Value), v.category = 2 → ∃ x, v = .long x := fun v hv h => by
    simp only [List.mem_cons, List.not_mem_nil, or_false] at hv
    rcases hv with rfl | rfl <;> cases h
  by_cases h : 0 ≤ m ∧ m ≤ gI S 54 0
  · exact hp_run hTX 760 (hsC 760 (by decide)) (by decide +kernel) okL_place (Nat.le_of_ble_eq_true rfl) hlong (hn_place R m h)
  · have hG : (am_H S)[0]? = some (.inr (.inr (.inr (am_mk (mmT mmX10_place), (List.range (am_fkl 10).length).map (am_fv S 10 0))))) := by
      rw [am_H_get (q := (10, 0)) rfl (by decide), am_ck_O (by decide)]
      rfl
    have hthr : xMetT l dC dI dA 755 (mmT mmX10_place) [.ref 0, .int m] (am_H S) := xthrow hl hTX 755 (hsC 755 (by decide)) okT_place.1 okT_place.2 rfl rfl rfl (Nat.le_of_ble_eq_true rfl) hlong2 (q := 15) (by decide +kernel) (by decide +kernel) (by decide +kernel) (by decide +kernel) (tx_place h)
    have hlk : Jvm.Cond.methodLink RL 19 (am_my (mmT mmX10_place)) ∈ am_U := am_at_U (pos := 1167) (by decide +kernel) rfl
    have hcw : Jvm.Cond.codeWith (am_my mmL_placeX) (am_mb mmL_placeX) (am_mL mmL_placeX) (am_mr mmL_placeX) hhL_place ∈ am_U := am_at_U (pos := 1166) (by decide +kernel) rfl
    have hpost : HpO Value.int Int32.toInt64 iX11_place [.ref 97, .int m] S (some (.int 1)) (am_H S) := Or.inr ⟨rfl, rfl, _, _, cx_T (no_place (d := 50) R h), fun U hU => by subst hU; exact thr_rm R⟩
    have h1 : plainName (am_my mmL_placeX).cls = true := by decide +kernel
    have h2 : decode (am_mb mmL_placeX) 4 = .ok (.invokevirtual 19, 3) := by decide +kernel
    have h3 : decode (am_mb mmL_placeX) 12 = .ok (.astore_n 3, 1) := by decide +kernel
    have h4 : decode (am_mb mmL_placeX) (12 + 1) = .ok (.iconst 1, 1) := by decide +kernel
    have h5 : decode (am_mb mmL_placeX) (12 + 1 + 1) = .ok (.ireturn, 1) := by decide +kernel
    have hc : hp_Met l dC dI dA 760 mmL_placeX hhL_place [.ref 0, .int m, .ref 130] (am_H S) (HpO Value.int Int32.toInt64 iX11_place [.ref 97, .int m] S) := hp_catch (M := mmL_placeX) (M2 := mmT mmX10_place) (q := 4) (q2 := 12) (idx := 19) (o := 0) (i := 3) (w := 1) (rest := [.int 0, .ref 130]) (As2 := [.int m]) (x := ⟨0, 9, 12, 13⟩) hTX 760 (hsC 760 (by decide)) h1 okL_placeX rfl rfl rfl rfl hcw (Nat.le_of_ble_eq_true rfl) hlong h2 okT_place.1 rfl hlk rfl rfl rfl hG ⟨755, by decide, hthr⟩ rfl (by decide) rfl rfl (by decide) (Or.inl ⟨rfl, 3, rfl, h3⟩) h4 h5 (by decide) hpost (ht_place m)
    exact hp_same hc
theorem hn_was {S : am_S} (R : RM S) (p m w : Int32) (h : hasP S p ∧ (0 ≤ m ∧ m ≤ gI S 54 0 - 1) ∧ 0 ≤ w ∧ w ≤ 3) : am_Ex (am_Call am_MT 750) mmL_was none (HpO Value.int Int32.toInt64 iX11_was [.ref 97, .int p, .int m, .int w] S) (fun _ _ _ _ _ _ => False) 0 (am_entL (am_mL mmL_was) [.ref 0, .int p, .int m, .int w, .ref 130]) [] (am_H S) 0 0 := by
  obtain ⟨x, P, hA, hB⟩ := jo_was (d := 50) R p m w h
  refine r_aload rfl rfl ?_
  refine r_iconst rfl ?_
  refine r_aload_n rfl rfl ?_
  refine r_iload_n rfl rfl ?_
  refine r_iload_n rfl rfl ?_
  refine r_iload_n rfl rfl ?_
  refine r_callVX rfl hA rfl rfl rfl (by decide) rfl (am_cnt rfl) (fun T hT => ?_)
  obtain ⟨Q1, hQ, hU⟩ := hB T hT
  refine r_i2l rfl ?_
  refine r_last rfl rfl (by decide) (by decide) (by decide) ?_
  refine r_goto rfl ?_
  refine r_iconst rfl ?_
  refine r_iret rfl rfl ?_
  exact Or.inl ⟨rfl, x, _, rfl, Q1, hQ, hU⟩
theorem ht_was {S : am_S} (p m w : Int32) : am_Ex (am_Call am_MT 750) mmL_wasX none (fun _ _ => False) (xst 7 [.int w, .int m, .int p, .ref 0, .int 0, .ref 130] (am_H S)) 0 (am_entL (am_mL mmL_wasX) [.ref 0, .int p, .int m, .int w, .ref 130]) [] (am_H S) 0 0 := by
  refine r_aload rfl rfl ?_
  refine r_iconst rfl ?_
  refine r_aload_n rfl rfl ?_
  refine r_iload_n rfl rfl ?_
  refine r_iload_n rfl rfl ?_
  refine r_iload_n rfl rfl ?_
  exact r_virtX rfl ⟨rfl, rfl, rfl, rfl, rfl⟩
theorem hp_was {l : Launch} (hl : l.stackTraces = false) {dC : Nat → ClassId} {dI : Nat → Nat → Nat} {dA : Nat → ClassId} (hTX : am_TX l dC dI dA am_MT) (hsC : ∀ d, 750 ≤ d → am_sC l dC dI dA am_MT d (am_Call am_MT 750)) {S : am_S} (R : RM S) (p m w : Int32) : hp_Met l dC dI dA 760 mmL_was hhL_was [.ref 0, .int p, .int m, .int w, .ref 130] (am_H S) (HpO Value.int Int32.toInt64 iX11_was [.ref 97, .int p, .int m, .int w] S) := by
  have hlong : ∀ v ∈ ([.ref 0, .int p, .int m, .int w, .ref 130] : List Value), v.category = 2 → ∃ x, v = .long x := fun v hv h => by
    simp only [List.mem_cons, List.not_mem_nil, or_false] at hv
    rcases hv with rfl | rfl | rfl | rfl | rfl <;> cases h
  have hlong2 : ∀ v ∈ ([.ref 0, .int p, .int m, .int w] : List Value), v.category = 2 → ∃ x, v = .long x := fun v hv h => by
    simp only [List.mem_cons, List.not_mem_nil, or_false] at hv
    rcases hv with rfl | rfl | rfl | rfl <;> cases h
  by_cases h : hasP S p ∧ (0 ≤ m ∧ m ≤ gI S 54 0 - 1) ∧ 0 ≤ w ∧ w ≤ 3
  · exact hp_run hTX 760 (hsC 760 (by decide)) (by decide +kernel) okL_was (Nat.le_of_ble_eq_true rfl) hlong (hn_was R p m w h)
  · have hG : (am_H S)[0]? = some (.inr (.inr (.inr (am_mk (mmT mmX10_was), (List.range (am_fkl 10).length).map (am_fv S 10 0))))) := by
      rw [am_H_get (q := (10, 0)) rfl (by decide), am_ck_O (by decide)]
      rfl
    have hthr : xMetT l dC dI dA 755 (mmT mmX10_was) [.ref 0, .int p, .int m, .int w] (am_H S) := xthrow hl hTX 755 (hsC 755 (by decide)) okT_was.1 okT_was.2 rfl rfl rfl (Nat.le_of_ble_eq_true rfl) hlong2 (q := 37) (by decide +kernel) (by decide +kernel) (by decide +kernel) (by decide +kernel) (tx_was h)
    have hlk : Jvm.Cond.methodLink RL 22 (am_my (mmT mmX10_was)) ∈ am_U := am_at_U (pos := 1174) (by decide +kernel) rfl
    have hcw : Jvm.Cond.codeWith (am_my mmL_wasX) (am_mb mmL_wasX) (am_mL mmL_wasX) (am_mr mmL_wasX) hhL_was ∈ am_U := am_at_U (pos := 1173) (by decide +kernel) rfl
    have hpost : HpO Value.int Int32.toInt64 iX11_was [.ref 97, .int p, .int m, .int w] S (some (.int 1)) (am_H S) := Or.inr ⟨rfl, rfl, _, _, cx_T (no_was (d := 50) R h), fun U hU => by subst hU; exact thr_rm R⟩
    have h1 : plainName (am_my mmL_wasX).cls = true := by decide +kernel
    have h2 : decode (am_mb mmL_wasX) 7 = .ok (.invokevirtual 22, 3) := by decide +kernel
    have h3 : decode (am_mb mmL_wasX) 15 = .ok (.astore 5, 2) := by decide +kernel
    have h4 : decode (am_mb mmL_wasX) (15 + 2) = .ok (.iconst 1, 1) := by decide +kernel
    have h5 : decode (am_mb mmL_wasX) (15 + 2 + 1) = .ok (.ireturn, 1) := by decide +kernel
    have hc : hp_Met l dC dI dA 760 mmL_wasX hhL_was [.ref 0, .int p, .int m, .int w, .ref 130] (am_H S) (HpO Value.int Int32.toInt64 iX11_was [.ref 97, .int p, .int m, .int w] S) := hp_catch (M := mmL_wasX) (M2 := mmT mmX10_was) (q := 7) (q2 := 15) (idx := 22) (o := 0) (i := 5) (w := 2) (rest := [.int 0, .ref 130]) (As2 := [.int p, .int m, .int w]) (x := ⟨0, 12, 15, 13⟩) hTX 760 (hsC 760 (by decide)) h1 okL_wasX rfl rfl rfl rfl hcw (Nat.le_of_ble_eq_true rfl) hlong h2 okT_was.1 rfl hlk rfl rfl rfl hG ⟨755, by decide, hthr⟩ rfl (by decide) rfl rfl (by decide) (Or.inr ⟨rfl, h3⟩) h4 h5 (by decide) hpost (ht_was p m w)
    exact hp_same hc
theorem hn_row {S : am_S} (R : RM S) (i : Int32) (h : 0 ≤ i ∧ i < gI S 74 1) : am_Ex (am_Call am_MT 750) mmL_row none (HpO Value.long id iX11_row [.ref 97, .int i] S) (fun _ _ _ _ _ _ => False) 0 (am_entL (am_mL mmL_row) [.ref 0, .int i, .ref 130]) [] (am_H S) 0 0 := by
  obtain ⟨x, P, hA, hB⟩ := jo_row (d := 50) R i h
  refine r_aload_n rfl rfl ?_
  refine r_iconst rfl ?_
  refine r_aload_n rfl rfl ?_
  refine r_iload_n rfl rfl ?_
  refine r_callVX rfl hA rfl rfl rfl (by decide) rfl (am_cnt rfl) (fun T hT => ?_)
  obtain ⟨Q1, hQ, hU⟩ := hB T hT
  refine r_last rfl rfl (by decide) (by decide) (by decide) ?_
  refine r_goto rfl ?_
  refine r_iconst rfl ?_
  refine r_iret rfl rfl ?_
  exact Or.inl ⟨rfl, x, _, rfl, Q1, hQ, hU⟩
theorem ht_row {S : am_S} (i : Int32) : am_Ex (am_Call am_MT 750) mmL_rowX none (fun _ _ => False) (xst 4 [.int i, .ref 0, .int 0, .ref 130] (am_H S)) 0 (am_entL (am_mL mmL_rowX) [.ref 0, .int i, .ref 130]) [] (am_H S) 0 0 := by
  refine r_aload_n rfl rfl ?_
  refine r_iconst rfl ?_
  refine r_aload_n rfl rfl ?_
  refine r_iload_n rfl rfl ?_
  exact r_virtX rfl ⟨rfl, rfl, rfl, rfl, rfl⟩
theorem hp_row {l : Launch} (hl : l.stackTraces = false) {dC : Nat → ClassId} {dI : Nat → Nat → Nat} {dA : Nat → ClassId} (hTX : am_TX l dC dI dA am_MT) (hsC : ∀ d, 750 ≤ d → am_sC l dC dI dA am_MT d (am_Call am_MT 750)) {S : am_S} (R : RM S) (i : Int32) : hp_Met l dC dI dA 760 mmL_row hhL_row [.ref 0, .int i, .ref 130] (am_H S) (HpO Value.long id iX11_row [.ref 97, .int i] S) := by
  have hlong : ∀ v ∈ ([.ref 0, .int i, .ref 130] : List Value), v.category = 2 → ∃ x, v = .long x := fun v hv h => by
    simp only [List.mem_cons, List.not_mem_nil, or_false] at hv
    rcases hv with rfl | rfl | rfl <;> cases h
  have hlong2 : ∀ v ∈ ([.ref 0, .int i] : List Value), v.category = 2 → ∃ x, v = .long x := fun v hv h => by
    simp only [List.mem_cons, List.not_mem_nil, or_false] at hv
    rcases hv with rfl | rfl <;> cases h
  by_cases h : 0 ≤ i ∧ i < gI S 74 1
  · exact hp_run hTX 760 (hsC 760 (by decide)) (by decide +kernel) okL_row (Nat.le_of_ble_eq_true rfl) hlong (hn_row R i h)
  · have hG : (am_H S)[0]? = some (.inr (.inr (.inr (am_mk (mmT mmX10_row), (List.range (am_fkl 10).length).map (am_fv S 10 0))))) := by
      rw [am_H_get (q := (10, 0)) rfl (by decide), am_ck_O (by decide)]
      rfl
    have hthr : xMetT l dC dI dA 755 (mmT mmX10_row) [.ref 0, .int i] (am_H S) := xthrow hl hTX 755 (hsC 755 (by decide)) okT_row.1 okT_row.2 rfl rfl rfl (Nat.le_of_ble_eq_true rfl) hlong2 (q := 15) (by decide +kernel) (by decide +kernel) (by decide +kernel) (by decide +kernel) (tx_row h)
    have hlk : Jvm.Cond.methodLink RL 26 (am_my (mmT mmX10_row)) ∈ am_U := am_at_U (pos := 1181) (by decide +kernel) rfl
    have hcw : Jvm.Cond.codeWith (am_my mmL_rowX) (am_mb mmL_rowX) (am_mL mmL_rowX) (am_mr mmL_rowX) hhL_row ∈ am_U := am_at_U (pos := 1180) (by decide +kernel) rfl
    have hpost : HpO Value.long id iX11_row [.ref 97, .int i] S (some (.int 1)) (am_H S) := Or.inr ⟨rfl, rfl, _, _, cx_T (no_row (d := 50) R h), fun U hU => by subst hU; exact thr_rm R⟩
    have h1 : plainName (am_my mmL_rowX).cls = true := by decide +kernel
    have h2 : decode (am_mb mmL_rowX) 4 = .ok (.invokevirtual 26, 3) := by decide +kernel
    have h3 : decode (am_mb mmL_rowX) 11 = .ok (.astore_n 3, 1) := by decide +kernel
    have h4 : decode (am_mb mmL_rowX) (11 + 1) = .ok (.iconst 1, 1) := by decide +kernel
    have h5 : decode (am_mb mmL_rowX) (11 + 1 + 1) = .ok (.ireturn, 1) := by decide +kernel
    have hc : hp_Met l dC dI dA 760 mmL_rowX hhL_row [.ref 0, .int i, .ref 130] (am_H S) (HpO Value.long id iX11_row [.ref 97, .int i] S) := hp_catch (M := mmL_rowX) (M2 := mmT mmX10_row) (q := 4) (q2 := 11) (idx := 26) (o := 0) (i := 3) (w := 1) (rest := [.int 0, .ref 130]) (As2 := [.int i]) (x := ⟨0, 8, 11, 13⟩) hTX 760 (hsC 760 (by decide)) h1 okL_rowX rfl rfl rfl rfl hcw (Nat.le_of_ble_eq_true rfl) hlong h2 okT_row.1 rfl hlk rfl rfl rfl hG ⟨755, by decide, hthr⟩ rfl (by decide) rfl rfl (by decide) (Or.inl ⟨rfl, 3, rfl, h3⟩) h4 h5 (by decide) hpost (ht_row i)
    exact hp_same hc
