/-! The law's helpers, from their own bodies: the class answers, or throws. -/
theorem hn_does {S : am_S} (R : RM S) (p w : Int32) (h : hasP S p ∧ 0 ≤ w ∧ w ≤ 1) : am_Ex (am_Call am_MT 750) mmL_does none (HpO Value.int Int32.toInt64 iX11_does [.ref 97, .int p, .int w] S) (fun _ _ _ _ _ _ => False) 0 (am_entL (am_mL mmL_does) [.ref 0, .int p, .int w, .ref 130]) [] (am_H S) 0 0 := by
  obtain ⟨x, P, hA, hB⟩ := jo_does (d := 50) R p w h
  refine r_aload_n rfl rfl ?_
  refine r_iconst rfl ?_
  refine r_aload_n rfl rfl ?_
  refine r_iload_n rfl rfl ?_
  refine r_iload_n rfl rfl ?_
  refine r_callVX rfl hA rfl rfl rfl (by decide) rfl (am_cnt rfl) (fun T hT => ?_)
  obtain ⟨Q1, hQ, hU⟩ := hB T hT
  refine r_i2l rfl ?_
  refine r_last rfl rfl (by decide) (by decide) (by decide) ?_
  refine r_goto rfl ?_
  refine r_iconst rfl ?_
  refine r_iret rfl rfl ?_
  exact Or.inl ⟨rfl, x, _, rfl, Q1, hQ, hU⟩
theorem ht_does {S : am_S} (p w : Int32) : am_Ex (am_Call am_MT 750) mmL_doesX none (fun _ _ => False) (xst 5 [.int w, .int p, .ref 0, .int 0, .ref 130] (am_H S)) 0 (am_entL (am_mL mmL_doesX) [.ref 0, .int p, .int w, .ref 130]) [] (am_H S) 0 0 := by
  refine r_aload_n rfl rfl ?_
  refine r_iconst rfl ?_
  refine r_aload_n rfl rfl ?_
  refine r_iload_n rfl rfl ?_
  refine r_iload_n rfl rfl ?_
  exact r_virtX rfl ⟨rfl, rfl, rfl, rfl, rfl⟩
theorem hp_does {l : Launch} (hl : l.stackTraces = false) {dC : Nat → ClassId} {dI : Nat → Nat → Nat} {dA : Nat → ClassId} (hTX : am_TX l dC dI dA am_MT) (hsC : ∀ d, 750 ≤ d → am_sC l dC dI dA am_MT d (am_Call am_MT 750)) {S : am_S} (R : RM S) (p w : Int32) : hp_Met l dC dI dA 760 mmL_does hhL_does [.ref 0, .int p, .int w, .ref 130] (am_H S) (HpO Value.int Int32.toInt64 iX11_does [.ref 97, .int p, .int w] S) := by
  have hlong : ∀ v ∈ ([.ref 0, .int p, .int w, .ref 130] : List Value), v.category = 2 → ∃ x, v = .long x := fun v hv h => by
    simp only [List.mem_cons, List.not_mem_nil, or_false] at hv
    rcases hv with rfl | rfl | rfl | rfl <;> cases h
  have hlong2 : ∀ v ∈ ([.ref 0, .int p, .int w] : List Value), v.category = 2 → ∃ x, v = .long x := fun v hv h => by
    simp only [List.mem_cons, List.not_mem_nil, or_false] at hv
    rcases hv with rfl | rfl | rfl <;> cases h
  by_cases h : hasP S p ∧ 0 ≤ w ∧ w ≤ 1
  · exact hp_run hTX 760 (hsC 760 (by decide)) (by decide +kernel) okL_does (by decide) hlong (hn_does R p w h)
  · have hG : (am_H S)[0]? = some (.inr (.inr (.inr (am_mk (mmT mmX10_does), (List.range (am_fkl 10).length).map (am_fv S 10 0))))) := by
      rw [am_H_get (q := (10, 0)) rfl (by decide), am_ck_O (by decide)]
      rfl
    have hc := hp_catch (x := ⟨0,10,13,13⟩) (idx := 7) (q := 5) (q2 := 13) (i := 4) (M2 := mmT mmX10_does) (As2 := [.int p, .int w]) (rest := [.int 0, .ref 130]) (post := (HpO Value.int Int32.toInt64 iX11_does [.ref 97, .int p, .int w] S)) hTX 760 (hsC 760 (by decide)) (by decide +kernel) okL_doesX rfl rfl rfl rfl cwL_does (by decide) hlong
      (by decide +kernel) okT_does.1 rfl (am_at_U (pos := 1089) (by decide +kernel) rfl) rfl rfl rfl hG
      ⟨755, by decide, xthrow hl hTX 755 (hsC 755 (by decide)) okT_does.1 okT_does.2 rfl rfl rfl (by decide) hlong2 (q := 20) (by decide +kernel) (by decide +kernel) (by decide +kernel) (by decide +kernel) (tx_does h)⟩
      rfl (by decide) rfl rfl (by decide) (Or.inr ⟨rfl, by decide +kernel⟩) (by decide +kernel) (by decide +kernel) (by decide)
      (Or.inr ⟨rfl, rfl, _, _, cx_T (no_does (d := 50) R h), fun U hU => by subst hU; exact thr_rm R⟩) (ht_does p w)
    exact hc
theorem hn_go {S : am_S} (R : RM S) (m : Int32) (h : 0 ≤ m ∧ m ≤ 199) : am_Ex (am_Call am_MT 750) mmL_go none (HpO Value.int Int32.toInt64 iX11_go [.ref 97, .int m] S) (fun _ _ _ _ _ _ => False) 0 (am_entL (am_mL mmL_go) [.ref 0, .int m, .ref 130]) [] (am_H S) 0 0 := by
  obtain ⟨x, P, hA, hB⟩ := jo_go (d := 50) R m h
  refine r_aload_n rfl rfl ?_
  refine r_iconst rfl ?_
  refine r_aload_n rfl rfl ?_
  refine r_iload_n rfl rfl ?_
  refine r_callVX rfl hA rfl rfl rfl (by decide) rfl (am_cnt rfl) (fun T hT => ?_)
  obtain ⟨Q1, hQ, hU⟩ := hB T hT
  refine r_i2l rfl ?_
  refine r_last rfl rfl (by decide) (by decide) (by decide) ?_
  refine r_goto rfl ?_
  refine r_iconst rfl ?_
  refine r_iret rfl rfl ?_
  exact Or.inl ⟨rfl, x, _, rfl, Q1, hQ, hU⟩
theorem ht_go {S : am_S} (m : Int32) : am_Ex (am_Call am_MT 750) mmL_goX none (fun _ _ => False) (xst 4 [.int m, .ref 0, .int 0, .ref 130] (am_H S)) 0 (am_entL (am_mL mmL_goX) [.ref 0, .int m, .ref 130]) [] (am_H S) 0 0 := by
  refine r_aload_n rfl rfl ?_
  refine r_iconst rfl ?_
  refine r_aload_n rfl rfl ?_
  refine r_iload_n rfl rfl ?_
  exact r_virtX rfl ⟨rfl, rfl, rfl, rfl, rfl⟩
theorem hp_go {l : Launch} (hl : l.stackTraces = false) {dC : Nat → ClassId} {dI : Nat → Nat → Nat} {dA : Nat → ClassId} (hTX : am_TX l dC dI dA am_MT) (hsC : ∀ d, 750 ≤ d → am_sC l dC dI dA am_MT d (am_Call am_MT 750)) {S : am_S} (R : RM S) (m : Int32) : hp_Met l dC dI dA 760 mmL_go hhL_go [.ref 0, .int m, .ref 130] (am_H S) (HpO Value.int Int32.toInt64 iX11_go [.ref 97, .int m] S) := by
  have hlong : ∀ v ∈ ([.ref 0, .int m, .ref 130] : List Value), v.category = 2 → ∃ x, v = .long x := fun v hv h => by
    simp only [List.mem_cons, List.not_mem_nil, or_false] at hv
    rcases hv with rfl | rfl | rfl <;> cases h
  have hlong2 : ∀ v ∈ ([.ref 0, .int m] : List Value), v.category = 2 → ∃ x, v = .long x := fun v hv h => by
    simp only [List.mem_cons, List.not_mem_nil, or_false] at hv
    rcases hv with rfl | rfl <;> cases h
  by_cases h : 0 ≤ m ∧ m ≤ 199
  · exact hp_run hTX 760 (hsC 760 (by decide)) (by decide +kernel) okL_go (by decide) hlong (hn_go R m h)
  · have hG : (am_H S)[0]? = some (.inr (.inr (.inr (am_mk (mmT mmX10_go), (List.range (am_fkl 10).length).map (am_fv S 10 0))))) := by
      rw [am_H_get (q := (10, 0)) rfl (by decide), am_ck_O (by decide)]
      rfl
    have hc := hp_catch (x := ⟨0,9,12,13⟩) (idx := 15) (q := 4) (q2 := 12) (i := 3) (M2 := mmT mmX10_go) (As2 := [.int m]) (rest := [.int 0, .ref 130]) (post := (HpO Value.int Int32.toInt64 iX11_go [.ref 97, .int m] S)) hTX 760 (hsC 760 (by decide)) (by decide +kernel) okL_goX rfl rfl rfl rfl cwL_go (by decide) hlong
      (by decide +kernel) okT_go.1 rfl (am_at_U (pos := 1160) (by decide +kernel) rfl) rfl rfl rfl hG
      ⟨755, by decide, xthrow hl hTX 755 (hsC 755 (by decide)) okT_go.1 okT_go.2 rfl rfl rfl (by decide) hlong2 (q := 11) (by decide +kernel) (by decide +kernel) (by decide +kernel) (by decide +kernel) (tx_go h)⟩
      rfl (by decide) rfl rfl (by decide) (Or.inl ⟨rfl, ⟨3, by decide⟩, rfl, by decide +kernel⟩) (by decide +kernel) (by decide +kernel) (by decide)
      (Or.inr ⟨rfl, rfl, _, _, cx_T (no_go (d := 50) h), fun U hU => by subst hU; exact thr_rm R⟩) (ht_go m)
    exact hc
theorem hn_place {S : am_S} (R : RM S) (m : Int32) (h : 0 ≤ m ∧ m ≤ gI S 54 0) : am_Ex (am_Call am_MT 750) mmL_place none (HpO Value.int Int32.toInt64 iX11_place [.ref 97, .int m] S) (fun _ _ _ _ _ _ => False) 0 (am_entL (am_mL mmL_place) [.ref 0, .int m, .ref 130]) [] (am_H S) 0 0 := by
  obtain ⟨x, P, hA, hB⟩ := jo_place (d := 50) R m h
  refine r_aload_n rfl rfl ?_
  refine r_iconst rfl ?_
  refine r_aload_n rfl rfl ?_
  refine r_iload_n rfl rfl ?_
  refine r_callVX rfl hA rfl rfl rfl (by decide) rfl (am_cnt rfl) (fun T hT => ?_)
  obtain ⟨Q1, hQ, hU⟩ := hB T hT
  refine r_i2l rfl ?_
  refine r_last rfl rfl (by decide) (by decide) (by decide) ?_
  refine r_goto rfl ?_
  refine r_iconst rfl ?_
  refine r_iret rfl rfl ?_
  exact Or.inl ⟨rfl, x, _, rfl, Q1, hQ, hU⟩
theorem ht_place {S : am_S} (m : Int32) : am_Ex (am_Call am_MT 750) mmL_placeX none (fun _ _ => False) (xst 4 [.int m, .ref 0, .int 0, .ref 130] (am_H S)) 0 (am_entL (am_mL mmL_placeX) [.ref 0, .int m, .ref 130]) [] (am_H S) 0 0 := by
  refine r_aload_n rfl rfl ?_
  refine r_iconst rfl ?_
  refine r_aload_n rfl rfl ?_
  refine r_iload_n rfl rfl ?_
  exact r_virtX rfl ⟨rfl, rfl, rfl, rfl, rfl⟩
theorem hp_place {l : Launch} (hl : l.stackTraces = false) {dC : Nat → ClassId} {dI : Nat → Nat → Nat} {dA : Nat → ClassId} (hTX : am_TX l dC dI dA am_MT) (hsC : ∀ d, 750 ≤ d → am_sC l dC dI dA am_MT d (am_Call am_MT 750)) {S : am_S} (R : RM S) (m : Int32) : hp_Met l dC dI dA 760 mmL_place hhL_place [.ref 0, .int m, .ref 130] (am_H S) (HpO Value.int Int32.toInt64 iX11_place [.ref 97, .int m] S) := by
  have hlong : ∀ v ∈ ([.ref 0, .int m, .ref 130] : List Value), v.category = 2 → ∃ x, v = .long x := fun v hv h => by
    simp only [List.mem_cons, List.not_mem_nil, or_false] at hv
    rcases hv with rfl | rfl | rfl <;> cases h
  have hlong2 : ∀ v ∈ ([.ref 0, .int m] : List Value), v.category = 2 → ∃ x, v = .long x := fun v hv h => by
    simp only [List.mem_cons, List.not_mem_nil, or_false] at hv
    rcases hv with rfl | rfl <;> cases h
  by_cases h : 0 ≤ m ∧ m ≤ gI S 54 0
  · exact hp_run hTX 760 (hsC 760 (by decide)) (by decide +kernel) okL_place (by decide) hlong (hn_place R m h)
  · have hG : (am_H S)[0]? = some (.inr (.inr (.inr (am_mk (mmT mmX10_place), (List.range (am_fkl 10).length).map (am_fv S 10 0))))) := by
      rw [am_H_get (q := (10, 0)) rfl (by decide), am_ck_O (by decide)]
      rfl
    have hc := hp_catch (x := ⟨0,9,12,13⟩) (idx := 19) (q := 4) (q2 := 12) (i := 3) (M2 := mmT mmX10_place) (As2 := [.int m]) (rest := [.int 0, .ref 130]) (post := (HpO Value.int Int32.toInt64 iX11_place [.ref 97, .int m] S)) hTX 760 (hsC 760 (by decide)) (by decide +kernel) okL_placeX rfl rfl rfl rfl cwL_place (by decide) hlong
      (by decide +kernel) okT_place.1 rfl (am_at_U (pos := 1167) (by decide +kernel) rfl) rfl rfl rfl hG
      ⟨755, by decide, xthrow hl hTX 755 (hsC 755 (by decide)) okT_place.1 okT_place.2 rfl rfl rfl (by decide) hlong2 (q := 15) (by decide +kernel) (by decide +kernel) (by decide +kernel) (by decide +kernel) (tx_place h)⟩
      rfl (by decide) rfl rfl (by decide) (Or.inl ⟨rfl, ⟨3, by decide⟩, rfl, by decide +kernel⟩) (by decide +kernel) (by decide +kernel) (by decide)
      (Or.inr ⟨rfl, rfl, _, _, cx_T (no_place (d := 50) R h), fun U hU => by subst hU; exact thr_rm R⟩) (ht_place m)
    exact hc
theorem hn_was {S : am_S} (R : RM S) (p m w : Int32) (h : hasP S p ∧ (0 ≤ m ∧ m ≤ gI S 54 0 - 1) ∧ 0 ≤ w ∧ w ≤ 3) : am_Ex (am_Call am_MT 750) mmL_was none (HpO Value.int Int32.toInt64 iX11_was [.ref 97, .int p, .int m, .int w] S) (fun _ _ _ _ _ _ => False) 0 (am_entL (am_mL mmL_was) [.ref 0, .int p, .int m, .int w, .ref 130]) [] (am_H S) 0 0 := by
  obtain ⟨x, P, hA, hB⟩ := jo_was (d := 50) R p m w h
  refine r_aload_n rfl rfl ?_
  refine r_iconst rfl ?_
  refine r_aload_n rfl rfl ?_
  refine r_iload_n rfl rfl ?_
  refine r_iload_n rfl rfl ?_
  refine r_iload_n rfl rfl ?_
  refine r_callVX rfl hA rfl rfl rfl (by decide) rfl (am_cnt rfl) (fun T hT => ?_)
  obtain ⟨Q1, hQ, hU⟩ := hB T hT
  refine r_i2l rfl ?_
  refine r_last rfl rfl (by decide) (by decide) (by decide) ?_
  refine r_goto rfl ?_
  refine r_iconst rfl ?_
  refine r_iret rfl rfl ?_
  exact Or.inl ⟨rfl, x, _, rfl, Q1, hQ, hU⟩
theorem ht_was {S : am_S} (p m w : Int32) : am_Ex (am_Call am_MT 750) mmL_wasX none (fun _ _ => False) (xst 6 [.int w, .int m, .int p, .ref 0, .int 0, .ref 130] (am_H S)) 0 (am_entL (am_mL mmL_wasX) [.ref 0, .int p, .int m, .int w, .ref 130]) [] (am_H S) 0 0 := by
  refine r_aload_n rfl rfl ?_
  refine r_iconst rfl ?_
  refine r_aload_n rfl rfl ?_
  refine r_iload_n rfl rfl ?_
  refine r_iload_n rfl rfl ?_
  refine r_iload_n rfl rfl ?_
  exact r_virtX rfl ⟨rfl, rfl, rfl, rfl, rfl⟩
theorem hp_was {l : Launch} (hl : l.stackTraces = false) {dC : Nat → ClassId} {dI : Nat → Nat → Nat} {dA : Nat → ClassId} (hTX : am_TX l dC dI dA am_MT) (hsC : ∀ d, 750 ≤ d → am_sC l dC dI dA am_MT d (am_Call am_MT 750)) {S : am_S} (R : RM S) (p m w : Int32) : hp_Met l dC dI dA 760 mmL_was hhL_was [.ref 0, .int p, .int m, .int w, .ref 130] (am_H S) (HpO Value.int Int32.toInt64 iX11_was [.ref 97, .int p, .int m, .int w] S) := by
  have hlong : ∀ v ∈ ([.ref 0, .int p, .int m, .int w, .ref 130] : List Value), v.category = 2 → ∃ x, v = .long x := fun v hv h => by
    simp only [List.mem_cons, List.not_mem_nil, or_false] at hv
    rcases hv with rfl | rfl | rfl | rfl | rfl <;> cases h
  have hlong2 : ∀ v ∈ ([.ref 0, .int p, .int m, .int w] : List Value), v.category = 2 → ∃ x, v = .long x := fun v hv h => by
    simp only [List.mem_cons, List.not_mem_nil, or_false] at hv
    rcases hv with rfl | rfl | rfl | rfl <;> cases h
  by_cases h : hasP S p ∧ (0 ≤ m ∧ m ≤ gI S 54 0 - 1) ∧ 0 ≤ w ∧ w ≤ 3
  · exact hp_run hTX 760 (hsC 760 (by decide)) (by decide +kernel) okL_was (by decide) hlong (hn_was R p m w h)
  · have hG : (am_H S)[0]? = some (.inr (.inr (.inr (am_mk (mmT mmX10_was), (List.range (am_fkl 10).length).map (am_fv S 10 0))))) := by
      rw [am_H_get (q := (10, 0)) rfl (by decide), am_ck_O (by decide)]
      rfl
    have hc := hp_catch (x := ⟨0,12,15,13⟩) (idx := 22) (q := 6) (q2 := 15) (i := 5) (M2 := mmT mmX10_was) (As2 := [.int p, .int m, .int w]) (rest := [.int 0, .ref 130]) (post := (HpO Value.int Int32.toInt64 iX11_was [.ref 97, .int p, .int m, .int w] S)) hTX 760 (hsC 760 (by decide)) (by decide +kernel) okL_wasX rfl rfl rfl rfl cwL_was (by decide) hlong
      (by decide +kernel) okT_was.1 rfl (am_at_U (pos := 1174) (by decide +kernel) rfl) rfl rfl rfl hG
      ⟨755, by decide, xthrow hl hTX 755 (hsC 755 (by decide)) okT_was.1 okT_was.2 rfl rfl rfl (by decide) hlong2 (q := 37) (by decide +kernel) (by decide +kernel) (by decide +kernel) (by decide +kernel) (tx_was h)⟩
      rfl (by decide) rfl rfl (by decide) (Or.inr ⟨rfl, by decide +kernel⟩) (by decide +kernel) (by decide +kernel) (by decide)
      (Or.inr ⟨rfl, rfl, _, _, cx_T (no_was (d := 50) R h), fun U hU => by subst hU; exact thr_rm R⟩) (ht_was p m w)
    exact hc
theorem hn_row {S : am_S} (R : RM S) (i : Int32) (h : 0 ≤ i ∧ i < gI S 74 1) : am_Ex (am_Call am_MT 750) mmL_row none (HpO Value.long id iX11_row [.ref 97, .int i] S) (fun _ _ _ _ _ _ => False) 0 (am_entL (am_mL mmL_row) [.ref 0, .int i, .ref 130]) [] (am_H S) 0 0 := by
  obtain ⟨x, P, hA, hB⟩ := jo_row (d := 50) R i h
  refine r_aload_n rfl rfl ?_
  refine r_iconst rfl ?_
  refine r_aload_n rfl rfl ?_
  refine r_iload_n rfl rfl ?_
  refine r_callVX rfl hA rfl rfl rfl (by decide) rfl (am_cnt rfl) (fun T hT => ?_)
  obtain ⟨Q1, hQ, hU⟩ := hB T hT
  refine r_last rfl rfl (by decide) (by decide) (by decide) ?_
  refine r_goto rfl ?_
  refine r_iconst rfl ?_
  refine r_iret rfl rfl ?_
  exact Or.inl ⟨rfl, x, _, rfl, Q1, hQ, hU⟩
theorem ht_row {S : am_S} (i : Int32) : am_Ex (am_Call am_MT 750) mmL_rowX none (fun _ _ => False) (xst 4 [.int i, .ref 0, .int 0, .ref 130] (am_H S)) 0 (am_entL (am_mL mmL_rowX) [.ref 0, .int i, .ref 130]) [] (am_H S) 0 0 := by
  refine r_aload_n rfl rfl ?_
  refine r_iconst rfl ?_
  refine r_aload_n rfl rfl ?_
  refine r_iload_n rfl rfl ?_
  exact r_virtX rfl ⟨rfl, rfl, rfl, rfl, rfl⟩
theorem hp_row {l : Launch} (hl : l.stackTraces = false) {dC : Nat → ClassId} {dI : Nat → Nat → Nat} {dA : Nat → ClassId} (hTX : am_TX l dC dI dA am_MT) (hsC : ∀ d, 750 ≤ d → am_sC l dC dI dA am_MT d (am_Call am_MT 750)) {S : am_S} (R : RM S) (i : Int32) : hp_Met l dC dI dA 760 mmL_row hhL_row [.ref 0, .int i, .ref 130] (am_H S) (HpO Value.long id iX11_row [.ref 97, .int i] S) := by
  have hlong : ∀ v ∈ ([.ref 0, .int i, .ref 130] : List Value), v.category = 2 → ∃ x, v = .long x := fun v hv h => by
    simp only [List.mem_cons, List.not_mem_nil, or_false] at hv
    rcases hv with rfl | rfl | rfl <;> cases h
  have hlong2 : ∀ v ∈ ([.ref 0, .int i] : List Value), v.category = 2 → ∃ x, v = .long x := fun v hv h => by
    simp only [List.mem_cons, List.not_mem_nil, or_false] at hv
    rcases hv with rfl | rfl <;> cases h
  by_cases h : 0 ≤ i ∧ i < gI S 74 1
  · exact hp_run hTX 760 (hsC 760 (by decide)) (by decide +kernel) okL_row (by decide) hlong (hn_row R i h)
  · have hG : (am_H S)[0]? = some (.inr (.inr (.inr (am_mk (mmT mmX10_row), (List.range (am_fkl 10).length).map (am_fv S 10 0))))) := by
      rw [am_H_get (q := (10, 0)) rfl (by decide), am_ck_O (by decide)]
      rfl
    have hc := hp_catch (x := ⟨0,8,11,13⟩) (idx := 26) (q := 4) (q2 := 11) (i := 3) (M2 := mmT mmX10_row) (As2 := [.int i]) (rest := [.int 0, .ref 130]) (post := (HpO Value.long id iX11_row [.ref 97, .int i] S)) hTX 760 (hsC 760 (by decide)) (by decide +kernel) okL_rowX rfl rfl rfl rfl cwL_row (by decide) hlong
      (by decide +kernel) okT_row.1 rfl (am_at_U (pos := 1181) (by decide +kernel) rfl) rfl rfl rfl hG
      ⟨755, by decide, xthrow hl hTX 755 (hsC 755 (by decide)) okT_row.1 okT_row.2 rfl rfl rfl (by decide) hlong2 (q := 15) (by decide +kernel) (by decide +kernel) (by decide +kernel) (by decide +kernel) (tx_row h)⟩
      rfl (by decide) rfl rfl (by decide) (Or.inl ⟨rfl, ⟨3, by decide⟩, rfl, by decide +kernel⟩) (by decide +kernel) (by decide +kernel) (by decide)
      (Or.inr ⟨rfl, rfl, _, _, cx_T (no_row (d := 50) R h), fun U hU => by subst hU; exact thr_rm R⟩) (ht_row i)
    exact hc
