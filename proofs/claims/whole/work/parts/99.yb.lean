-- ===== YOUR PART BEGINS =====
/-- YOUR PART: from the entry, for every script of at most 3072 ints, the law comes to its end with true ('hflags': the launch's flags, for a law that throws: no stack traces) -/
theorem whole_start {p : Program} {e : Env} {s : State} {m : MethodId} {below : List Frame} {meth : Method} {c : Code} (l : Launch) (hflags : l.flags = flags0) {b L : Nat} {xs : Nat → Int32} (hL : L ≤ 3072) (C0 : lw_At p s m meth c b L xs) : W p l e room_1 s m #[Value.ref b] below meth c s.heap [] 0 0 (lw_Z below #[Value.ref b] s) (entryFrame m ([Value.ref b] : List Value).toArray 8) := by
  obtain ⟨hx, hb, hr, hml, hown, hts, hX, hbl, hlocks, hgv⟩ := id C0
  have hst : l.stackTraces = false := by
    unfold Launch.stackTraces
    rw [hflags]
    decide +kernel
  obtain ⟨dC, dI, dA, hK⟩ := zs_K hts
  obtain ⟨adK, hSX⟩ := zs_S (b := b) hts hgv
  have hXZ := zs_Z hts hgv
  have hA : ∀ q : Nat, s.heap.size ≤ q → (fun q : Nat => s.heap.size ≤ q) q := fun _ h => h
  have hbA : ¬ (fun q : Nat => s.heap.size ≤ q) b := Nat.not_le.mpr hbl
  have hC : am_Ctx p room_1 s m #[Value.ref b] meth c dC dI dA 800 mmL_law := ⟨hx, hb, hml, hown, fun w hw => hts w (List.mem_filter.mp hw).1, fun z => absurd z (by decide +kernel), hK, zs_KX hts, rfl, rfl, Nat.le_of_ble_eq_true rfl, Nat.le_of_ble_eq_true rfl⟩
  have hsC : ∀ d, 750 ≤ d → am_sC l dC dI dA am_MT d (am_Call am_MT 750) := fun d hd mi As G post h => by
    obtain ⟨M, h1, h2, h3⟩ := am_sound am_MT_ok am_TXp 749 mi As G post h
    exact ⟨M, 749, h1, hd, h2, h3⟩
  have hs : ∀ pc Lo st G nc ns, am_Ex (am_Call am_MT 750) mmL_law (some (L, xs)) (fun r _ => r = some (.int 1)) (am_W p l e room_1 s m #[Value.ref b] below meth c dC dI dA mmL_law (fun q : Nat => s.heap.size ≤ q) s.heap (zs_ad b adK) 0 (lw_Z below #[Value.ref b] s)) pc Lo st G nc ns → am_W p l e room_1 s m #[Value.ref b] below meth c dC dI dA mmL_law (fun q : Nat => s.heap.size ≤ q) s.heap (zs_ad b adK) 0 (lw_Z below #[Value.ref b] s) pc Lo st G nc ns := fun pc Lo st G nc ns h => law_sound hC okL_law am_TXp (hsC 800 (by decide)) hA hSX hX hbl hbA (if_pos rfl)
    (fun pc L1 x G nc ns hq hmr hd => by
      cases hq
      intro ad H locs ls hrel hn0 hw hnd hL1 hcs
      exact va_forget (fun q hq => hw.2.2.2.2 q hq) (W.widen (k := 601024) (n := 7293034) hcs.1 hcs.2 (lw_ret hx hb hr hlocks hd)))
    (fun _ _ _ _ _ _ _ hmr _ => absurd hmr (by decide +kernel)) (fun _ _ _ _ _ _ hmr _ => absurd hmr (by decide +kernel)) h
  have key := hs _ _ _ _ _ _ (law_makes (lw_loop hL (fun _ => rfl) (law_keep hC (by decide) am_TXp hA hSX hs)
    (fun S p w R => law_help (idx := 69) (n := 4) hC (by decide) hA hSX hXZ hs (hp_does hst am_TXp hsC R p w) rfl cwL_does rfl rfl (am_at_U (pos := 1085) (by decide +kernel) rfl) (am_at_U (pos := 1086) (by decide +kernel) rfl) (am_at_U (pos := 75) (by decide +kernel) rfl) (by decide +kernel) (by decide) (by decide +kernel))
    (fun S p R => law_help (idx := 79) (n := 3) hC (by decide) hA hSX hXZ hs (hp_go hst am_TXp hsC R p) rfl cwL_go rfl rfl (am_at_U (pos := 1157) (by decide +kernel) rfl) (am_at_U (pos := 1158) (by decide +kernel) rfl) (am_at_U (pos := 75) (by decide +kernel) rfl) (by decide +kernel) (by decide) (by decide +kernel))
    (fun S p R => law_help (idx := 88) (n := 3) hC (by decide) hA hSX hXZ hs (hp_place hst am_TXp hsC R p) rfl cwL_place rfl rfl (am_at_U (pos := 1164) (by decide +kernel) rfl) (am_at_U (pos := 1165) (by decide +kernel) rfl) (am_at_U (pos := 75) (by decide +kernel) rfl) (by decide +kernel) (by decide) (by decide +kernel))
    (fun S p w u R => law_help (idx := 91) (n := 5) hC (by decide) hA hSX hXZ hs (hp_was hst am_TXp hsC R p w u) rfl cwL_was rfl rfl (am_at_U (pos := 1171) (by decide +kernel) rfl) (am_at_U (pos := 1172) (by decide +kernel) rfl) (am_at_U (pos := 75) (by decide +kernel) rfl) (by decide +kernel) (by decide) (by decide +kernel))
    (fun S p R => law_help (idx := 226) (n := 3) hC (by decide) hA hSX hXZ hs (hp_row hst am_TXp hsC R p) rfl cwL_row rfl rfl (am_at_U (pos := 1178) (by decide +kernel) rfl) (am_at_U (pos := 1179) (by decide +kernel) rfl) (am_at_U (pos := 75) (by decide +kernel) rfl) (by decide +kernel) (by decide) (by decide +kernel))
    512 0 (by omega) (by omega) am_S0 none none none 131 38635 rm_S0 iv_n iv_n iv_n (by omega) (by omega)))
  have hlong : ∀ v ∈ ([.ref 2000000] : List Value), v.category = 2 → ∃ x, v = .long x := fun v hv h => by
    simp only [List.mem_cons, List.not_mem_nil, or_false] at hv
    subst hv
    cases h
  have en := am_entry (As := [.ref 2000000]) (nL := 8) (zs_ad b adK) (by decide)
  have e1 : ([.ref 2000000] : List Value).map (am_cv (zs_ad b adK)) = [.ref b] := rfl
  rw [e1] at en
  rw [lg_entry_eq]
  exact key (zs_ad b adK) s.heap [] _ ⟨fun _ => rfl, fun _ _ => rfl⟩ (Nat.zero_le _) ⟨fun k q h => by simp [am_cw] at h, ⟨fun i j p q h => by simp [am_cw] at h, fun k q h => by simp [am_cw] at h⟩, va_S.rf⟩ (fun i v hi hc => hlong v (am_ent_mem [.ref 2000000] i v (am_entL_get hi)) hc) en ⟨Nat.zero_le _, Nat.zero_le _⟩
