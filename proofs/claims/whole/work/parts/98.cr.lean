/-! A machine that runs: what the law makes first. -/
abbrev cr_E : Type := (Nat × Nat × List (Nat × Int32)) ⊕ (Nat ⊕ ((Nat × List (Option Nat)) ⊕ (Nat × List Value)))
abbrev cr_G : Type := List cr_E
def cr_fn (us : List (Nat × Int32)) : Nat → Int32 := us.foldr (fun q f => upd f q.1 q.2) (fun _ => 0)
def cr_den (e : cr_E) : am_E := match e with
  | .inl (t, n, us) => .inl (t, n, cr_fn us)
  | .inr (.inl n) => .inr (.inl (n, fun _ => 0))
  | .inr (.inr (.inl q)) => .inr (.inr (.inl q))
  | .inr (.inr (.inr q)) => .inr (.inr (.inr q))
abbrev cr_S : Type := Nat × am_L × List Value × cr_G × Nat × Nat
def cr_newa (t n : Nat) : cr_E := match t with
  | 1 => .inr (.inl n)
  | _ => .inl (t, n, [])
theorem cr_newa_den (t n : Nat) : cr_den (cr_newa t n) = am_newa t n := by
  match t with
  | 0 => rfl
  | 1 => rfl
  | t + 2 => rfl
def cr_cmp (o : Jvm.ClassFile.Cond) (x y : Int32) : Bool := match o with
  | .eq => decide (x = y)
  | .ne => decide (¬ x = y)
  | .lt => decide (x < y)
  | .ge => decide (y ≤ x)
  | .gt => decide (y < x)
  | .le => decide (x ≤ y)
theorem cr_cmp_ok {o : Jvm.ClassFile.Cond} {x y : Int32} {A B : Prop} (h : bif cr_cmp o x y then A else B) : am_cmp o x y A B := by
  cases o with
  | eq =>
    refine ⟨fun z => ?_, fun z => ?_⟩
    · rwa [cr_cmp, decide_eq_true z] at h
    · rwa [cr_cmp, decide_eq_false z] at h
  | ne =>
    refine ⟨fun z => ?_, fun z => ?_⟩
    · rwa [cr_cmp, decide_eq_true z] at h
    · rwa [cr_cmp, decide_eq_false (fun w => w z)] at h
  | lt =>
    refine ⟨fun z => ?_, fun z => ?_⟩
    · rwa [cr_cmp, decide_eq_true z] at h
    · rwa [cr_cmp, decide_eq_false z] at h
  | ge =>
    refine ⟨fun z => ?_, fun z => ?_⟩
    · rwa [cr_cmp, decide_eq_true z] at h
    · rwa [cr_cmp, decide_eq_false z] at h
  | gt =>
    refine ⟨fun z => ?_, fun z => ?_⟩
    · rwa [cr_cmp, decide_eq_true z] at h
    · rwa [cr_cmp, decide_eq_false z] at h
  | le =>
    refine ⟨fun z => ?_, fun z => ?_⟩
    · rwa [cr_cmp, decide_eq_true z] at h
    · rwa [cr_cmp, decide_eq_false z] at h
def cr_inv (K : Nat → List Value → cr_G → Option cr_G) (M : am_M) (npc a b u : Nat) (L : am_L) (st : List Value) (G : cr_G) (nc ns : Nat) : Option cr_S := match st[b - 1]? with
  | some (.ref _) => if b ≤ st.length ∧ ((st.drop b).map fun v => v.category).sum ≤ 8 ∧ am_wfc G.length L (st.drop b) = true ∧ nc + u / 1000000 ≤ am_mc M ∧ ns + u % 1000000 ≤ am_ms M then (match K a (st.take b).reverse G with
    | some G1 => some (npc, L, st.drop b, G1, nc + u / 1000000, ns + u % 1000000)
    | none => none) else none
  | _ => none
def cr_ins (K : Nat → List Value → cr_G → Option cr_G) (M : am_M) (i : Instr) (npc a b t u : Nat) (cv : Int32) (L : am_L) (st : List Value) (G : cr_G) (nc ns : Nat) : Option cr_S := match i with
  | .iconst _ => some (npc, L, .int cv :: st, G, nc, ns)
  | .bipush _ => some (npc, L, .int cv :: st, G, nc, ns)
  | .sipush _ => some (npc, L, .int cv :: st, G, nc, ns)
  | .iload_n _ => (match L[a]? with
    | some (some (.int x)) => some (npc, L, .int x :: st, G, nc, ns)
    | _ => none)
  | .aload_n _ => (match L[a]? with
    | some (some (.ref x)) => some (npc, L, .ref x :: st, G, nc, ns)
    | _ => none)
  | .istore_n _ => (match st with
    | .int x :: st => some (npc, am_st1 L a (.int x), st, G, nc, ns)
    | _ => none)
  | .istore _ => (match st with
    | .int x :: st => some (npc, am_st1 L a (.int x), st, G, nc, ns)
    | _ => none)
  | .astore_n _ => (match st with
    | .ref x :: st => some (npc, am_st1 L a (.ref x), st, G, nc, ns)
    | _ => none)
  | .iinc _ _ => (match L[a]? with
    | some (some (.int x)) => some (npc, am_st1 L a (.int (x + cv)), st, G, nc, ns)
    | _ => none)
  | .imul => (match st with
    | .int y :: .int x :: st => some (npc, L, .int (x * y) :: st, G, nc, ns)
    | _ => none)
  | .dup => (match st with
    | v :: st => if v.category = 1 then some (npc, L, v :: v :: st, G, nc, ns) else none
    | _ => none)
  | .if_icmp o _ => (match st with
    | .int y :: .int x :: st => some (bif cr_cmp o x y then a else npc, L, st, G, nc, ns)
    | _ => none)
  | .goto _ => some (a, L, st, G, nc, ns)
  | .getfield _ => (match st with
    | .ref o :: st => (match G[o]? with
      | some (.inr (.inr (.inr (ci, fs)))) => if ci = a then (match fs[b]? with
        | some v => some (npc, L, v :: st, G, nc, ns)
        | none => none) else none
      | _ => none)
    | _ => none)
  | .putfield _ => (match st with
    | v :: .ref o :: st => (match G[o]? with
      | some (.inr (.inr (.inr (ci, fs)))) => if ci = a ∧ b < fs.length then (match t, v with
        | 0, .int x => some (npc, L, st, G.set o (.inr (.inr (.inr (ci, fs.set b (.int x))))), nc, ns)
        | 2, .ref x => some (npc, L, st, G.set o (.inr (.inr (.inr (ci, fs.set b (.ref x))))), nc, ns)
        | _, _ => none) else none
      | _ => none)
    | _ => none)
  | .iastore => (match st with
    | .int x :: .int i :: .ref o :: st => (match G[o]? with
      | some (.inl (k, n, us)) => if k = 0 ∧ ¬ (i < 0 ∨ n ≤ i.toNatClampNeg) then some (npc, L, st, G.set o (.inl (k, n, (i.toNatClampNeg, x) :: us)), nc, ns) else none
      | _ => none)
    | _ => none)
  | .aastore => (match st with
    | .ref v :: .int i :: .ref o :: st => (match G[o]?, G[v]? with
      | some (.inr (.inr (.inl (k, l)))), some (.inr (.inr (.inr (ci, _)))) => if 3 ≤ k ∧ k < 6 ∧ ci = am_rc k ∧ ¬ (i < 0 ∨ l.length ≤ i.toNatClampNeg) then some (npc, L, st, G.set o (.inr (.inr (.inl (k, l.set i.toNatClampNeg (some v))))), nc, ns) else none
      | _, _ => none)
    | _ => none)
  | .new _ => (match t with
    | 0 => if nc + 1 ≤ am_mc M ∧ ns + b ≤ am_ms M ∧ am_wf L st (G.map cr_den) = true then some (npc, L, .ref G.length :: st, G ++ [.inr (.inr (.inr (a, am_dfl a)))], nc + 1, ns + b) else none
    | _ => none)
  | .newarray _ => (match st with
    | .int n :: st => if ¬ n < 0 ∧ n.toNatClampNeg ≤ 60000000 ∧ nc + 1 ≤ am_mc M ∧ ns + n.toNatClampNeg ≤ am_ms M ∧ am_wf L st (G.map cr_den) = true then some (npc, L, .ref G.length :: st, G ++ [cr_newa a n.toNatClampNeg], nc + 1, ns + n.toNatClampNeg) else none
    | _ => none)
  | .anewarray _ => (match st with
    | .int n :: st => if ¬ n < 0 ∧ n.toNatClampNeg ≤ 60000000 ∧ nc + 1 ≤ am_mc M ∧ ns + n.toNatClampNeg ≤ am_ms M ∧ am_wf L st (G.map cr_den) = true then some (npc, L, .ref G.length :: st, G ++ [.inr (.inr (.inl (a, List.replicate n.toNatClampNeg none)))], nc + 1, ns + n.toNatClampNeg) else none
    | _ => none)
  | .invokespecial _ => (match t with
    | 3 => cr_inv K M npc a b u L st G nc ns
    | 4 => cr_inv K M npc a b u L st G nc ns
    | 5 => (match st with
      | .ref _ :: st => if (st.map fun v => v.category).sum ≤ 8 then some (npc, L, st, G, nc, ns) else none
      | _ => none)
    | _ => none)
  | _ => none
def cr_ret (i : Instr) : Bool := match i with
  | .return_ => true
  | _ => false
def cr_go (K : Nat → List Value → cr_G → Option cr_G) (M : am_M) (stop : Nat) : Nat → cr_S → Option cr_S
  | 0, _ => none
  | n + 1, (pc, L, st, G, nc, ns) => bif Nat.beq pc stop then some (pc, L, st, G, nc, ns) else (match am_lk (am_mt M) pc with
    | none => none
    | some (_, i, npc, a, b, t, u, _, cv, _) => bif cr_ret i then some (pc, L, st, G, nc, ns) else (match cr_ins K M i npc a b t u cv L st G nc ns with
      | some s => cr_go K M stop n s
      | none => none))
def cr_call (MT : Nat → Option am_M) : Nat → Nat → List Value → cr_G → Option cr_G
  | 0, _, _, _ => none
  | d + 1, mi, As, G => match MT mi with
    | none => none
    | some M => if (am_ent As).length ≤ am_mL M ∧ (As.all fun v => v.category != 2) = true then (match cr_go (cr_call MT d) M 1000000 400 (0, am_entL (am_mL M) As, [], G, 0, 0) with
      | some (pc, _, [], G1, _, _) => (match am_lk (am_mt M) pc with
        | some (_, i, _) => bif cr_ret i then some G1 else none
        | none => none)
      | _ => none) else none
theorem cr_get {G : cr_G} {o : Nat} {e : cr_E} (h : G[o]? = some e) : (G.map cr_den)[o]? = some (cr_den e) := by rw [List.getElem?_map, h]; rfl
section CRS
variable {C : am_C} {M : am_M} {scr : Option (Nat × (Nat → Int32))} {Q : Option Value → am_G → Prop} {X P : am_P} {K : Nat → List Value → cr_G → Option cr_G}
/-- it holds of a state -/
abbrev cr_P (P : am_P) (s : cr_S) : Prop := P s.1 s.2.1 s.2.2.1 (s.2.2.2.1.map cr_den) s.2.2.2.2.1 s.2.2.2.2.2
theorem cr_inv_ok (hK : ∀ mi As G G1, K mi As G = some G1 → C mi As (G.map cr_den) (fun r G' => r = none ∧ G' = G1.map cr_den)) {npc a b u : Nat} {L : am_L} {st : List Value} {G : cr_G} {nc ns : Nat} {s : cr_S} (h : cr_inv K M npc a b u L st G nc ns = some s) (hP : cr_P P s) : am_rcR st b ∧ am_invA C P (am_mc M) (am_ms M) npc L st (G.map cr_den) nc ns a b (u / 1000000) (u % 1000000) := by
  unfold cr_inv at h
  split at h
  · rename_i o e
    split at h
    · rename_i hc
      split at h
      · rename_i G1 hk
        cases h
        refine ⟨by unfold am_rcR; rw [e]; trivial, hc.1, hc.2.1, by rw [List.length_map]; exact hc.2.2.1, hc.2.2.2.1, hc.2.2.2.2, _, hK _ _ _ _ hk, fun r G' hr => ?_⟩
        obtain ⟨rfl, rfl⟩ := hr
        exact hP
      · cases h
    · cases h
  · cases h
theorem cr_ins_ok (hK : ∀ mi As G G1, K mi As G = some G1 → C mi As (G.map cr_den) (fun r G' => r = none ∧ G' = G1.map cr_den)) {pc : Nat} {i : Instr} {npc a b t u : Nat} {cv : Int32} {cl : Int64} {L : am_L} {st : List Value} {G : cr_G} {nc ns : Nat} {s : cr_S} (h : cr_ins K M i npc a b t u cv L st G nc ns = some s) (hP : cr_P P s) : am_ins C M scr Q X P pc i npc a b t u cv cl L st (G.map cr_den) nc ns := by
  cases i with
  | iconst _ => cases h; exact hP
  | bipush _ => cases h; exact hP
  | sipush _ => cases h; exact hP
  | iload_n _ =>
    simp only [cr_ins] at h
    simp only [am_ins]
    split at h
    · rename_i e; cases h; rw [e]; exact hP
    · cases h
  | aload_n _ =>
    simp only [cr_ins] at h
    simp only [am_ins]
    split at h
    · rename_i e; cases h; rw [e]; exact hP
    · cases h
  | istore_n _ =>
    simp only [cr_ins] at h
    split at h
    · cases h; exact hP
    · cases h
  | istore _ =>
    simp only [cr_ins] at h
    split at h
    · cases h; exact hP
    · cases h
  | astore_n _ =>
    simp only [cr_ins] at h
    split at h
    · cases h; exact hP
    · cases h
  | iinc _ _ =>
    simp only [cr_ins] at h
    simp only [am_ins]
    split at h
    · rename_i e; cases h; rw [e]; exact hP
    · cases h
  | imul =>
    simp only [cr_ins] at h
    split at h
    · cases h; exact hP
    · cases h
  | dup =>
    simp only [cr_ins] at h
    split at h
    · rename_i v st
      split at h
      · rename_i e
        cases h
        simp only [am_ins]
        rw [e]
        exact hP
      · cases h
    · cases h
  | if_icmp o _ =>
    simp only [cr_ins] at h
    split at h
    · rename_i y x st
      cases h
      simp only [am_ins]
      apply cr_cmp_ok
      cases hc : cr_cmp o x y with
      | true => rw [hc] at hP; exact hP
      | false => rw [hc] at hP; exact hP
    · cases h
  | goto _ => cases h; exact hP
  | getfield _ =>
    simp only [cr_ins] at h
    split at h
    · rename_i o st
      split at h
      · rename_i ci fs hG
        split at h
        · rename_i hc
          split at h
          · rename_i v hf
            cases h
            simp only [am_ins]
            rw [cr_get hG]
            simp only [cr_den]
            rw [hf]
            exact ⟨hc, hP⟩
          · cases h
        · cases h
      · cases h
    · cases h
  | putfield _ =>
    simp only [cr_ins] at h
    split at h
    · rename_i v o st
      split at h
      · rename_i ci fs hG
        split at h
        · rename_i hc
          simp only [am_ins]
          rw [cr_get hG]
          simp only [cr_den]
          refine ⟨hc.1, hc.2, ?_⟩
          split at h
          · cases h
            have hP := hP
            simp only [cr_P, List.map_set, cr_den] at hP
            exact hP
          · cases h
            have hP := hP
            simp only [cr_P, List.map_set, cr_den] at hP
            exact hP
          · cases h
        · cases h
      · cases h
    · cases h
  | iastore =>
    simp only [cr_ins] at h
    split at h
    · rename_i x i o st
      split at h
      · rename_i k n us hG
        split at h
        · rename_i hc
          cases h
          simp only [am_ins]
          rw [cr_get hG]
          simp only [cr_den]
          have hP := hP
          simp only [cr_P, List.map_set, cr_den] at hP
          exact ⟨hc.1, hc.2, hP⟩
        · cases h
      · cases h
    · cases h
  | aastore =>
    simp only [cr_ins] at h
    split at h
    · rename_i v i o st
      split at h
      · rename_i k l ci fs hG hv
        split at h
        · rename_i hc
          cases h
          simp only [am_ins]
          rw [cr_get hG, cr_get hv]
          simp only [cr_den]
          have hP := hP
          simp only [cr_P, List.map_set, cr_den] at hP
          exact ⟨hc.1, hc.2.1, hc.2.2.1, hc.2.2.2, hP⟩
        · cases h
      · cases h
    · cases h
  | new _ =>
    simp only [cr_ins] at h
    split at h
    · split at h
      · rename_i hc
        cases h
        simp only [am_ins]
        have hP := hP
        simp only [cr_P, List.map_append, List.map_cons, List.map_nil, cr_den] at hP
        rw [List.length_map]
        exact ⟨hc.1, hc.2.1, hc.2.2, hP⟩
      · cases h
    · cases h
  | newarray _ =>
    simp only [cr_ins] at h
    split at h
    · split at h
      · rename_i hc
        cases h
        simp only [am_ins]
        have hP := hP
        simp only [cr_P, List.map_append, List.map_cons, List.map_nil, cr_newa_den] at hP
        rw [List.length_map]
        exact ⟨hc.1, hc.2.1, hc.2.2.1, hc.2.2.2.1, hc.2.2.2.2, hP⟩
      · cases h
    · cases h
  | anewarray _ =>
    simp only [cr_ins] at h
    split at h
    · split at h
      · rename_i hc
        cases h
        simp only [am_ins]
        have hP := hP
        simp only [cr_P, List.map_append, List.map_cons, List.map_nil, cr_den] at hP
        rw [List.length_map]
        exact ⟨hc.1, hc.2.1, hc.2.2.1, hc.2.2.2.1, hc.2.2.2.2, hP⟩
      · cases h
    · cases h
  | invokespecial _ =>
    simp only [cr_ins] at h
    split at h
    · exact cr_inv_ok hK h hP
    · exact cr_inv_ok hK h hP
    · split at h
      · split at h
        · rename_i hc
          cases h
          exact ⟨hc, hP⟩
        · cases h
      · cases h
    · cases h
  | _ => exact nomatch (show (none : Option cr_S) = some s from h)
theorem cr_go_ok (hK : ∀ mi As G G1, K mi As G = some G1 → C mi As (G.map cr_den) (fun r G' => r = none ∧ G' = G1.map cr_den)) {stop : Nat} : ∀ (n : Nat) (s s' : cr_S), cr_go K M stop n s = some s' → cr_P (am_Ex C M scr Q X) s' → cr_P (am_Ex C M scr Q X) s
  | 0, _, _, h, _ => nomatch (show (none : Option cr_S) = some _ from h)
  | n + 1, (pc, L, st, G, nc, ns), s', h, hP => by
    unfold cr_go at h
    cases h1 : Nat.beq pc stop with
    | true =>
      rw [h1] at h
      cases h
      exact hP
    | false =>
      rw [h1] at h
      simp only [cond_false] at h
      split at h
      · cases h
      · rename_i pc9 i npc a b t u pos cv cl he
        cases h2 : cr_ret i with
        | true =>
          rw [h2] at h
          cases h
          exact hP
        | false =>
          rw [h2] at h
          simp only [cond_false] at h
          split at h
          · rename_i s2 hs
            have k := cr_go_ok hK n s2 s' h hP
            refine am_Ex_in ?_
            unfold am_step
            rw [he]
            exact cr_ins_ok hK hs k
          · cases h
end CRS
theorem cr_call_ok {MT : Nat → Option am_M} : ∀ (d d2 : Nat), d ≤ d2 → ∀ mi As G G1, cr_call MT d mi As G = some G1 → am_Call MT d2 mi As (G.map cr_den) (fun r G' => r = none ∧ G' = G1.map cr_den)
  | 0, _, _, _, _, _, _, h => nomatch (show (none : Option cr_G) = some _ from h)
  | d + 1, 0, hd, _, _, _, _, _ => absurd hd (Nat.not_succ_le_zero d)
  | d + 1, d2 + 1, hd, mi, As, G, G1, h => by
    unfold cr_call at h
    split at h
    · cases h
    · rename_i M hM
      split at h
      · rename_i hc
        split at h
        · rename_i pc L G2 nc ns hg
          split at h
          · rename_i pc9 i q he
            cases h2 : cr_ret i with
            | true =>
              rw [h2] at h
              cases h
              refine ⟨M, hM, hc.1, fun v hv hcat => ?_, ?_⟩
              · have := List.all_eq_true.mp hc.2 v hv
                rw [hcat] at this
                exact absurd this (by decide)
              · have hi : i = .return_ := by
                  unfold cr_ret at h2
                  split at h2
                  · rfl
                  · cases h2
                subst hi
                refine cr_go_ok (cr_call_ok d d2 (Nat.le_of_succ_le_succ hd)) _ _ _ hg ?_
                refine am_Ex_in ?_
                unfold am_step
                simp only
                rw [he]
                exact ⟨rfl, rfl⟩
            | false =>
              rw [h2] at h
              cases h
          · cases h
        · cases h
      · cases h
