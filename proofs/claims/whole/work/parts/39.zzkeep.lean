/-! keep, again. -/
section AMK
variable {C : am_C} {M : am_M} {scr : Option (Nat × (Nat → Int32))} {Q : Option Value → am_G → Prop} {X : am_P} {pc npc a b t u pos pp : Nat} {cv : Int32} {cl : Int64} {L : am_L} {st : List Value} {G : am_G} {S : am_S} {nc ns : Nat}
theorem r_aaldKs {o N r : Nat} {i : Int32} (hk : am_lk (am_mt M) pc = some (pp, .aaload, npc, a, b, t, u, pos, cv, cl)) (hq : am_kn (gR S 0) o = (25, N)) (h1 : 0 ≤ i) (h2 : i < 3 ∧ gR S (1 + i.toNatClampNeg) = r + 1) (k : am_Ex C M scr Q X npc L (.ref (131 + 6 * r) :: st) (am_H S) nc ns) : am_Ex C M scr Q X pc L (.int i :: .ref o :: st) (am_H S) nc ns := am_Ex_in (by
  unfold am_step
  rw [hk]
  obtain ⟨h2, hr⟩ := h2
  have hv : vp_in i 3 := am_vp h1 h2 (by decide)
  simp only [am_ins]
  rw [am_H_get hq (by intro z; cases z)]
  refine ⟨by decide, by decide, hv, ?_⟩
  obtain ⟨j, hj, rfl⟩ := vp_in_of hv (by decide)
  rw [nI_clamp (by omega)] at hr ⊢
  have e : va_rf (([am_kr (gR S 1), am_kr (gR S 2), am_kr (gR S 3)] : List (Option Nat)).getD j none) = .ref (131 + 6 * r) := by
    match j, hj with
    | 0, _ => rw [show gR S 1 = r + 1 from hr]; rfl
    | 1, _ => rw [show gR S 2 = r + 1 from hr]; rfl
    | 2, _ => rw [show gR S 3 = r + 1 from hr]; rfl
  show am_Ex C M scr Q X npc L (va_rf (([am_kr (gR S 1), am_kr (gR S 2), am_kr (gR S 3)] : List (Option Nat)).getD j none) :: st) (am_H S) nc ns
  rw [e]
  exact k)
theorem r_aaldKn {o N : Nat} {i : Int32} (hk : am_lk (am_mt M) pc = some (pp, .aaload, npc, a, b, t, u, pos, cv, cl)) (hq : am_kn (gR S 0) o = (25, N)) (h1 : 0 ≤ i) (h2 : i < 3 ∧ gR S (1 + i.toNatClampNeg) = 0) (k : am_Ex C M scr Q X npc L (.null :: st) (am_H S) nc ns) : am_Ex C M scr Q X pc L (.int i :: .ref o :: st) (am_H S) nc ns := am_Ex_in (by
  unfold am_step
  rw [hk]
  obtain ⟨h2, hr⟩ := h2
  have hv : vp_in i 3 := am_vp h1 h2 (by decide)
  simp only [am_ins]
  rw [am_H_get hq (by intro z; cases z)]
  refine ⟨by decide, by decide, hv, ?_⟩
  obtain ⟨j, hj, rfl⟩ := vp_in_of hv (by decide)
  rw [nI_clamp (by omega)] at hr ⊢
  have e : va_rf (([am_kr (gR S 1), am_kr (gR S 2), am_kr (gR S 3)] : List (Option Nat)).getD j none) = .null := by
    match j, hj with
    | 0, _ => rw [show gR S 1 = 0 from hr]; rfl
    | 1, _ => rw [show gR S 2 = 0 from hr]; rfl
    | 2, _ => rw [show gR S 3 = 0 from hr]; rfl
  show am_Ex C M scr Q X npc L (va_rf (([am_kr (gR S 1), am_kr (gR S 2), am_kr (gR S 3)] : List (Option Nat)).getD j none) :: st) (am_H S) nc ns
  rw [e]
  exact k)
theorem r_new {n : Nat} (hk : am_lk (am_mt M) pc = some (pp, .new n, npc, a, b, 0, u, pos, cv, cl)) (h1 : nc + 1 ≤ am_mc M) (h2 : ns + b ≤ am_ms M) (h3 : am_wf L st G = true) (k : am_Ex C M scr Q X npc L (.ref G.length :: st) (G ++ [.inr (.inr (.inr (a, am_dfl a)))]) (nc + 1) (ns + b)) : am_Ex C M scr Q X pc L st G nc ns := am_Ex_in (by
  unfold am_step
  rw [hk]
  exact ⟨h1, h2, h3, k⟩)
theorem r_newar {n : ArrayType} {i : Int32} (hk : am_lk (am_mt M) pc = some (pp, .newarray n, npc, a, b, t, u, pos, cv, cl)) (h0 : ¬ i < 0) (h00 : i.toNatClampNeg ≤ 60000000) (h1 : nc + 1 ≤ am_mc M) (h2 : ns + i.toNatClampNeg ≤ am_ms M) (h3 : am_wf L st G = true) (k : am_Ex C M scr Q X npc L (.ref G.length :: st) (G ++ [am_newa a i.toNatClampNeg]) (nc + 1) (ns + i.toNatClampNeg)) : am_Ex C M scr Q X pc L (.int i :: st) G nc ns := am_Ex_in (by
  unfold am_step
  rw [hk]
  exact ⟨h0, h00, h1, h2, h3, k⟩)
theorem r_obj {n o : Nat} (hk : am_lk (am_mt M) pc = some (pp, .invokespecial n, npc, a, b, 5, u, pos, cv, cl)) (hc : (st.map fun v => v.category).sum ≤ 8) (k : am_Ex C M scr Q X npc L st G nc ns) : am_Ex C M scr Q X pc L (.ref o :: st) G nc ns := am_Ex_in (by
  unfold am_step
  rw [hk]
  exact ⟨hc, k⟩)
theorem r_putIr {n o : Nat} {x : Int32} {fs : List Value} (hk : am_lk (am_mt M) pc = some (pp, .putfield n, npc, a, b, 0, u, pos, cv, cl)) (hg : G[o]? = some (.inr (.inr (.inr (a, fs))))) (hb : b < fs.length) (k : am_Ex C M scr Q X npc L st (G.set o (.inr (.inr (.inr (a, fs.set b (.int x)))))) nc ns) : am_Ex C M scr Q X pc L (.int x :: .ref o :: st) G nc ns := am_Ex_in (by
  unfold am_step
  rw [hk]
  simp only [am_ins]
  rw [hg]
  exact ⟨rfl, hb, k⟩)
theorem r_putRr {n o x : Nat} {fs : List Value} (hk : am_lk (am_mt M) pc = some (pp, .putfield n, npc, a, b, 2, u, pos, cv, cl)) (hg : G[o]? = some (.inr (.inr (.inr (a, fs))))) (hb : b < fs.length) (k : am_Ex C M scr Q X npc L st (G.set o (.inr (.inr (.inr (a, fs.set b (.ref x)))))) nc ns) : am_Ex C M scr Q X pc L (.ref x :: .ref o :: st) G nc ns := am_Ex_in (by
  unfold am_step
  rw [hk]
  simp only [am_ins]
  rw [hg]
  exact ⟨rfl, hb, k⟩)
theorem r_callI {n : Nat} {post : Option Value → am_G → Prop} (hk : am_lk (am_mt M) pc = some (pp, .invokespecial n, npc, a, b, t, u, pos, cv, cl)) (ht : t = 3 ∨ t = 4) (hr : am_rcR st b) (hn : b ≤ st.length) (hcat : ((st.drop b).map fun v => v.category).sum ≤ 8) (hw : am_wfc G.length L (st.drop b) = true) (h1 : nc + u / 1000000 ≤ am_mc M) (h2 : ns + u % 1000000 ≤ am_ms M) (hc : C a (st.take b).reverse G post) (k : ∀ r G1, post r G1 → am_Ex C M scr Q X npc L (am_psh r (st.drop b)) G1 (nc + u / 1000000) (ns + u % 1000000)) : am_Ex C M scr Q X pc L st G nc ns := am_Ex_in (by
  unfold am_step
  rw [hk]
  rcases ht with rfl | rfl
  · exact ⟨hr, hn, hcat, hw, h1, h2, post, hc, k⟩
  · exact ⟨hr, hn, hcat, hw, h1, h2, post, hc, k⟩)
theorem r_aast {o v ci kd : Nat} {i : Int32} {l : List (Option Nat)} {fs : List Value} (hk : am_lk (am_mt M) pc = some (pp, .aastore, npc, a, b, t, u, pos, cv, cl)) (hg : G[o]? = some (.inr (.inr (.inl (kd, l))))) (hv : G[v]? = some (.inr (.inr (.inr (ci, fs))))) (h1 : 3 ≤ kd) (h2 : kd < 6) (h3 : ci = am_rc kd) (h4 : vp_in i l.length) (k : am_Ex C M scr Q X npc L st (G.set o (.inr (.inr (.inl (kd, l.set i.toNatClampNeg (some v)))))) nc ns) : am_Ex C M scr Q X pc L (.ref v :: .int i :: .ref o :: st) G nc ns := am_Ex_in (by
  unfold am_step
  rw [hk]
  simp only [am_ins]
  rw [hg, hv]
  exact ⟨h1, h2, h3, h4, k⟩)
end AMK
theorem app_get {H t : am_G} {i : Nat} : (H ++ t)[H.length + i]? = t[i]? := by rw [List.getElem?_append_right (by omega), Nat.add_sub_cancel_left]
theorem app_set {H t : am_G} {i : Nat} {e : am_E} : (H ++ t).set (H.length + i) e = H ++ t.set i e := by rw [List.set_append_right _ _ (by omega), Nat.add_sub_cancel_left]
theorem app_wf {S : am_S} {t : am_G} {L : am_L} {st : List Value} (hS : RfOk S) (ht : t.length ≤ 6) (h1 : am_wfc (am_H S ++ t).length L st = true) (h2 : t.all (am_wfE (am_H S ++ t).length) = true) : am_wf L st (am_H S ++ t) = true := by
  have hl := am_H_len (S := S)
  have h0 := hS.1
  unfold am_wf
  rw [h1, List.all_append, wf_H hS (by rw [List.length_append]; omega), h2]
  show decide _ = true
  rw [decide_eq_true_eq, List.length_append]
  omega
theorem init_course {d : Nat} {S : am_S} (hS : RfOk S) : am_Call am_MT (d + 1) iX0_init [.ref (am_H S).length] (am_H S ++ [.inr (.inr (.inr (0, am_dfl 0)))]) (fun r G => r = none ∧ G = am_H (newC S)) := by
  refine ⟨mmX0_init, rfl, Nat.le_of_ble_eq_true rfl, fun v hv hc => ?_, ?_⟩
  · cases List.mem_singleton.mp hv
    cases hc
  have hl := am_H_len (S := S)
  have h0 := hS.1
  have z0 : ∀ (t : am_G) (e : am_E) (l : List Value), t = .inr (.inr (.inr (0, l))) :: t.tail → (am_H S ++ t)[(am_H S).length]? = some (.inr (.inr (.inr (0, l)))) := fun t e l ht => by
    rw [show (am_H S).length = (am_H S).length + 0 from rfl, app_get, ht]
    rfl
  have zs : ∀ (t : am_G) (e : am_E), (am_H S ++ t).set (am_H S).length e = am_H S ++ t.set 0 e := fun t e => app_set (i := 0)
  have wl : ∀ n, (am_H S).length < n → am_wfc n [some (.ref (am_H S).length)] [.ref (am_H S).length] = true := fun n hn => by
    show ((decide ((am_H S).length < n) || decide (1000000 ≤ (am_H S).length)) && true && ((decide ((am_H S).length < n) || decide (1000000 ≤ (am_H S).length)) && true)) = true
    rw [decide_eq_true hn]
    rfl
  have rf : ∀ n k, k < n → am_wfv n (.ref k) = true := fun n k h => by
    show (decide (k < n) || decide (1000000 ≤ k)) = true
    rw [decide_eq_true h]
    rfl
  show am_Ex (am_Call am_MT d) mmX0_init none _ _ 0 [some (.ref (am_H S).length)] [] (am_H S ++ [.inr (.inr (.inr (0, am_dfl 0)))]) 0 0
  refine r_aload_n rfl rfl ?_
  refine r_obj rfl (am_cnt rfl) ?_
  refine r_aload_n rfl rfl ?_
  refine r_iconst rfl ?_
  refine r_putIr rfl (z0 _ (.inl (0, 0, fun _ => 0)) (am_dfl 0) rfl) (by decide) ?_
  rw [zs]
  refine r_aload_n rfl rfl ?_
  refine r_sipush rfl ?_
  refine r_newar rfl (by decide) (by decide) (by decide) (by decide) (app_wf hS (by show 1 ≤ 6; omega) (wl _ (by rw [List.length_append]; show _ < _ + 1; omega)) (by simp [am_wfE, am_wfv, am_dfl, am_newa, List.length_append])) ?_
  rw [List.append_assoc]
  refine r_putRr rfl (z0 _ (.inl (0, 0, fun _ => 0)) _ rfl) (by simp [am_dfl]) ?_
  rw [zs]
  refine r_aload_n rfl rfl ?_
  refine r_sipush rfl ?_
  refine r_newar rfl (by decide) (by decide) (by decide) (by decide) (app_wf hS (by show 2 ≤ 6; omega) (wl _ (by rw [List.length_append]; show _ < _ + 2; omega)) (by simp [am_wfE, am_wfv, am_dfl, am_newa, List.length_append])) ?_
  rw [List.append_assoc]
  refine r_putRr rfl (z0 _ (.inl (0, 0, fun _ => 0)) _ rfl) (by simp [am_dfl]) ?_
  rw [zs]
  refine r_aload_n rfl rfl ?_
  refine r_sipush rfl ?_
  refine r_newar rfl (by decide) (by decide) (by decide) (by decide) (app_wf hS (by show 3 ≤ 6; omega) (wl _ (by rw [List.length_append]; show _ < _ + 3; omega)) (by simp [am_wfE, am_wfv, am_dfl, am_newa, List.length_append])) ?_
  rw [List.append_assoc]
  refine r_putRr rfl (z0 _ (.inl (0, 0, fun _ => 0)) _ rfl) (by simp [am_dfl]) ?_
  rw [zs]
  refine r_aload_n rfl rfl ?_
  refine r_sipush rfl ?_
  refine r_newar rfl (by decide) (by decide) (by decide) (by decide) (app_wf hS (by show 4 ≤ 6; omega) (wl _ (by rw [List.length_append]; show _ < _ + 4; omega)) (by simp [am_wfE, am_wfv, am_dfl, am_newa, List.length_append])) ?_
  rw [List.append_assoc]
  refine r_putRr rfl (z0 _ (.inl (0, 0, fun _ => 0)) _ rfl) (by simp [am_dfl]) ?_
  rw [zs]
  refine r_aload_n rfl rfl ?_
  refine r_sipush rfl ?_
  refine r_newar rfl (by decide) (by decide) (by decide) (by decide) (app_wf hS (by show 5 ≤ 6; omega) (wl _ (by rw [List.length_append]; show _ < _ + 5; omega)) (by simp [am_wfE, am_wfv, am_dfl, am_newa, List.length_append])) ?_
  rw [List.append_assoc]
  refine r_putRr rfl (z0 _ (.inl (0, 0, fun _ => 0)) _ rfl) (by simp [am_dfl]) ?_
  rw [zs]
  refine r_vret rfl ?_
  refine ⟨rfl, ?_⟩
  rw [newC_H, hl.symm]
  simp [am_dfl, am_newa, List.length_append]
theorem kn_kept {m r : Nat} (h : r < m) : am_kn m (131 + 6 * r) = (0, 0) ∧ am_kn m (131 + 6 * r + 1) = (20, 200) ∧ am_kn m (131 + 6 * r + 2) = (20, 1200) ∧ am_kn m (131 + 6 * r + 3) = (20, 1200) ∧ am_kn m (131 + 6 * r + 4) = (20, 1200) ∧ am_kn m (131 + 6 * r + 5) = (20, 1200) := by
  have e : ∀ j, j < 6 → am_kn m (131 + 6 * r + j) = (match (131 + 6 * r + j - 131) % 6 with
    | 0 => (0, 0)
    | 1 => (20, 200)
    | _ => (20, 1200)) := fun j hj => by
    unfold am_kn
    rw [show Nat.blt (131 + 6 * r + j) 131 = false from by rw [← Bool.not_eq_true, Nat.blt_eq]; omega, show Nat.blt (131 + 6 * r + j) (131 + 6 * m) = true from Nat.blt_eq.mpr (by omega), cond_false, cond_true]
    generalize (131 + 6 * r + j - 131) % 6 = w
    match w with
    | 0 => rfl
    | 1 => rfl
    | n + 2 => rfl
  have q : ∀ j, j < 6 → (131 + 6 * r + j - 131) % 6 = j := fun j hj => by omega
  have e0 := e 0 (by omega)
  have e1 := e 1 (by omega)
  have e2 := e 2 (by omega)
  have e3 := e 3 (by omega)
  have e4 := e 4 (by omega)
  have e5 := e 5 (by omega)
  rw [q 0 (by omega)] at e0
  rw [q 1 (by omega)] at e1
  rw [q 2 (by omega)] at e2
  rw [q 3 (by omega)] at e3
  rw [q 4 (by omega)] at e4
  rw [q 5 (by omega)] at e5
  exact ⟨e0, e1, e2, e3, e4, e5⟩
theorem isC_kept {S : am_S} {r : Nat} (h : r < gR S 0) : IsC S (131 + 6 * r) := kn_kept h
theorem ct_X10_keep_no {d : Nat} {S : am_S} {i : Int32} (h : i < 0 ∨ 3 ≤ i) : am_CT (d + 2) iX10_keep [.ref 0, .int i] S (some (.int 0)) (S) := by
  refine am_CT_in mmX10_keep rfl rfl rfl ?_
  refine r_iload_n rfl rfl ?_
  refine r_if_lt rfl (fun h1 => ?_) (fun h1 => ?_)
  · refine r_iconst rfl ?_
    refine r_zret rfl rfl (by simp) ?_
    exact ⟨rfl, rfl⟩
  · refine r_iload_n rfl rfl ?_
    refine r_iconst rfl ?_
    refine r_icmp_lt rfl (fun h6 => ?_) (fun h6 => ?_)
    · exact absurd h (fun z => z.elim (fun y => h1 y) (fun y => Int32.not_le.mpr h6 y))
    · refine r_iconst rfl ?_
      refine r_zret rfl rfl (by simp) ?_
      exact ⟨rfl, rfl⟩
def kepS (S : am_S) (c : Nat) : am_S := uI (cpyC S c 54) c 3 (gI S 1 1)
theorem cpyC_ne {S : am_S} {o f a : Nat} (h : a < o ∨ o + 5 < a) : gI (cpyC S o f) a = gI S a := by
  rw [cpyC, gI_rI_ne (by omega), gI_rI_ne (by omega), gI_rI_ne (by omega), gI_rI_ne (by omega), gI_rI_ne (by omega), gI_uI_ne (by omega), gI_uI_ne (by omega), gI_uI_ne (by omega), gI_uI_ne (by omega)]
theorem ct_X10_keep_old {d : Nat} {S : am_S} {i r : Nat} (hi : i < 3) (hr : gR S (1 + i) = r + 1) (hr2 : r < gR S 0) : am_CT (d + 2) iX10_keep [.ref 0, .int (nI i)] S (some (.int 1)) (kepS S (131 + 6 * r)) := by
  refine am_CT_in mmX10_keep rfl rfl rfl ?_
  have bi : (nI i).toNatClampNeg = i := nI_clamp (by omega)
  have s1 : 0 ≤ nI i := nI_pos' (by omega)
  have s2 : nI i < 3 := nI_lt (b := 3) hi (by omega)
  have sr : nI i < 3 ∧ gR S (1 + (nI i).toNatClampNeg) = r + 1 := ⟨s2, by rw [bi]; exact hr⟩
  have kp := kn_kept hr2
  refine r_iload_n rfl rfl ?_
  refine r_if_lt rfl (fun h1 => ?_) (fun h1 => ?_)
  · exact absurd s1 (Int32.not_le.mpr h1)
  · refine r_iload_n rfl rfl ?_
    refine r_iconst rfl ?_
    refine r_icmp_lt rfl (fun h6 => ?_) (fun h6 => ?_)
    · refine r_aload_n rfl rfl ?_
      refine r_getC rfl rfl (by decide) (by decide) rfl ?_
      refine r_iload_n rfl rfl ?_
      refine r_aaldKs rfl rfl (by first | exact s1 | exact sr | simp) (by first | exact s1 | exact sr | simp) ?_
      refine r_ifnonnullR rfl ?_
      refine r_aload_n rfl rfl ?_
      refine r_getC rfl rfl (by decide) (by decide) rfl ?_
      refine r_iload_n rfl rfl ?_
      refine r_aaldKs rfl rfl (by first | exact s1 | exact sr | simp) (by first | exact s1 | exact sr | simp) ?_
      refine r_aload_n rfl rfl ?_
      refine r_getC rfl rfl (by decide) (by decide) rfl ?_
      refine r_callV rfl (ct_X0_copy (isC_kept hr2) (isC54 S) (by omega)) rfl rfl kp.1 (by decide) rfl (am_cnt rfl) ?_
      refine r_aload_n rfl rfl ?_
      refine r_getC rfl rfl (by decide) (by decide) rfl ?_
      refine r_iload_n rfl rfl ?_
      refine r_aaldKs rfl rfl (by first | exact s1 | exact sr | simp) (by first | exact s1 | exact sr | simp) ?_
      refine r_aload_n rfl rfl ?_
      refine r_getC rfl rfl (by decide) (by decide) rfl ?_
      refine r_getI rfl rfl (by decide) (by decide) rfl ?_
      refine r_putI rfl kp.1 (by decide) (by decide) rfl ?_
      refine r_iconst rfl ?_
      refine r_zret rfl rfl (by first | exact s1 | exact sr | simp) ?_
      refine ⟨rfl, ?_⟩
      rw [cpyC_ne (by omega)]
      rfl
    · exact absurd s2 h6
theorem ct_X10_keep_new {d : Nat} {S : am_S} {i : Nat} (hS : RfOk S) (hi : i < 3) (hr : gR S (1 + i) = 0) : am_CT (d + 2) iX10_keep [.ref 0, .int (nI i)] S (some (.int 1)) (kepS (uR (newC S) (1 + i) (gR S 0 + 1)) (131 + 6 * gR S 0)) := by
  refine am_CT_in mmX10_keep rfl rfl rfl ?_
  have bi : (nI i).toNatClampNeg = i := nI_clamp (by omega)
  have s1 : 0 ≤ nI i := nI_pos' (by omega)
  have s2 : nI i < 3 := nI_lt (b := 3) hi (by omega)
  have sr : nI i < 3 ∧ gR S (1 + (nI i).toNatClampNeg) = 0 := ⟨s2, by rw [bi]; exact hr⟩
  have hl := am_H_len (S := S)
  have h03 := hS.1
  have l0 : 0 < (am_H S).length := by omega
  have wfc : ∀ n, 66 < n → am_wfc n [some (.ref 0), some (.int (nI i))] [.int (nI i), .ref 66] = true := fun n hn => by
    show ((decide (0 < n) || decide (1000000 ≤ 0)) && (true && true) && (true && ((decide (66 < n) || decide (1000000 ≤ 66)) && true))) = true
    rw [decide_eq_true (show 0 < n by omega), decide_eq_true hn]
    rfl
  have n0 : gR (newC S) 0 = gR S 0 + 1 := rfl
  have nk : ∀ c, c ≠ 0 → gR (newC S) c = gR S c := fun c hc => if_neg hc
  have g66 : (am_H (newC S))[66]? = some (.inr (.inr (.inl (5, [am_kr (gR S 1), am_kr (gR S 2), am_kr (gR S 3)])))) := by
    rw [am_H_get (o := 66) (q := (25, 3)) rfl (by decide)]
    rfl
  have gnew : (am_H (newC S))[(am_H S).length]? = some (.inr (.inr (.inr (0, [.int 0, .int 0, .int 1, .int 0, .ref (131 + 6 * gR S 0 + 1), .ref (131 + 6 * gR S 0 + 2), .ref (131 + 6 * gR S 0 + 3), .ref (131 + 6 * gR S 0 + 4), .ref (131 + 6 * gR S 0 + 5)])))) := by
    rw [newC_H, show (am_H S).length = (am_H S).length + 0 from rfl, app_get]
    rfl
  have put := am_H_putK (S := newC S) (j := i) (r := gR S 0) hi
  generalize hT : uR (newC S) (1 + i) (gR S 0 + 1) = T at put
  have t0 : gR T 0 = gR S 0 + 1 := by rw [← hT, gR_uR, if_neg (by omega), n0]
  have ti : gR T (1 + i) = gR S 0 + 1 := by rw [← hT, gR_uR, if_pos rfl]
  have srT : nI i < 3 ∧ gR T (1 + (nI i).toNatClampNeg) = gR S 0 + 1 := ⟨s2, by rw [bi]; exact ti⟩
  have hr2 : gR S 0 < gR T 0 := by omega
  have kp := kn_kept hr2
  have yT : gI T 1 = gI S 1 := by rw [← hT, gI_uR, newC_I (by omega)]
  have rest : ∀ nc ns, am_Ex (am_Call am_MT (d + 1)) mmX10_keep none (fun r1 G1 => r1 = (some (.int 1)) ∧ G1 = am_H (kepS T (131 + 6 * gR S 0))) (fun _ _ _ _ _ _ => False) 33 [some (.ref 0), some (.int (nI i))] [] (am_H T) nc ns := fun nc ns => by
    refine r_aload_n rfl rfl ?_
    refine r_getC rfl rfl (by decide) (by decide) rfl ?_
    refine r_iload_n rfl rfl ?_
    refine r_aaldKs rfl rfl (by first | exact s1 | exact srT | simp) (by first | exact s1 | exact srT | simp) ?_
    refine r_aload_n rfl rfl ?_
    refine r_getC rfl rfl (by decide) (by decide) rfl ?_
    refine r_callV rfl (ct_X0_copy (isC_kept hr2) (isC54 T) (by omega)) rfl rfl kp.1 (by decide) rfl (am_cnt rfl) ?_
    refine r_aload_n rfl rfl ?_
    refine r_getC rfl rfl (by decide) (by decide) rfl ?_
    refine r_iload_n rfl rfl ?_
    refine r_aaldKs rfl rfl (by first | exact s1 | exact srT | simp) (by first | exact s1 | exact srT | simp) ?_
    refine r_aload_n rfl rfl ?_
    refine r_getC rfl rfl (by decide) (by decide) rfl ?_
    refine r_getI rfl rfl (by decide) (by decide) rfl ?_
    refine r_putI rfl kp.1 (by decide) (by decide) rfl ?_
    refine r_iconst rfl ?_
    refine r_zret rfl rfl (by first | exact s1 | exact srT | simp) ?_
    refine ⟨rfl, ?_⟩
    rw [cpyC_ne (by omega)]
    rfl
  have mid : am_Ex (am_Call am_MT (d + 1)) mmX10_keep none (fun r1 G1 => r1 = (some (.int 1)) ∧ G1 = am_H (kepS T (131 + 6 * gR S 0))) (fun _ _ _ _ _ _ => False) 25 [some (.ref 0), some (.int (nI i))] [.int (nI i), .ref 66] (am_H S) 0 0 := by
    refine r_new rfl (by decide) (by decide) ?_ ?_
    · have := app_wf (t := []) (L := [some (.ref 0), some (.int (nI i))]) (st := [.int (nI i), .ref 66]) hS (by decide) (wfc _ (by rw [List.append_nil]; omega)) rfl
      rw [List.append_nil] at this
      exact this
    refine r_dup rfl rfl ?_
    refine r_callI rfl (by decide) trivial (by show 1 ≤ 4; omega) (am_cnt rfl) ?_ (by decide) (by decide) (init_course hS) (fun r G1 hrG => ?_)
    · show am_wfc _ _ [.ref (am_H S).length, .int (nI i), .ref 66] = true
      rw [List.length_append]
      show ((decide (0 < (am_H S).length + 1) || decide (1000000 ≤ 0)) && (true && true) && ((decide ((am_H S).length < (am_H S).length + 1) || decide (1000000 ≤ (am_H S).length)) && (true && ((decide (66 < (am_H S).length + 1) || decide (1000000 ≤ 66)) && true)))) = true
      rw [decide_eq_true (show 0 < (am_H S).length + 1 by omega), decide_eq_true (show (am_H S).length < (am_H S).length + 1 by omega), decide_eq_true (show 66 < (am_H S).length + 1 by omega)]
      rfl
    rw [hrG.1, hrG.2]
    refine r_aast rfl g66 gnew (by decide) (by decide) rfl (show vp_in (nI i) 3 from am_vp s1 s2 (by decide)) ?_
    rw [bi, show (am_H S).length = 131 + 6 * gR S 0 from hl]
    rw [show [am_kr (gR S 1), am_kr (gR S 2), am_kr (gR S 3)] = [am_kr (gR (newC S) 1), am_kr (gR (newC S) 2), am_kr (gR (newC S) 3)] from rfl, put]
    exact rest _ _
  refine r_iload_n rfl rfl ?_
  refine r_if_lt rfl (fun h1 => ?_) (fun h1 => ?_)
  · exact absurd s1 (Int32.not_le.mpr h1)
  · refine r_iload_n rfl rfl ?_
    refine r_iconst rfl ?_
    refine r_icmp_lt rfl (fun h6 => ?_) (fun h6 => ?_)
    · refine r_aload_n rfl rfl ?_
      refine r_getC rfl rfl (by decide) (by decide) rfl ?_
      refine r_iload_n rfl rfl ?_
      refine r_aaldKn rfl rfl (by first | exact s1 | exact sr | simp) (by first | exact s1 | exact sr | simp) ?_
      refine r_ifnonnullN rfl ?_
      refine r_aload_n rfl rfl ?_
      refine r_getC rfl rfl (by decide) (by decide) rfl ?_
      refine r_iload_n rfl rfl ?_
      exact mid
    · exact absurd s2 h6
theorem ct_X10_again_no {d : Nat} {S : am_S} {i : Int32} (h : i < 0 ∨ 3 ≤ i) : am_CT (d + 2) iX10_again [.ref 0, .int i] S (some (.int 0)) (S) := by
  refine am_CT_in mmX10_again rfl rfl rfl ?_
  refine r_iload_n rfl rfl ?_
  refine r_if_lt rfl (fun h1 => ?_) (fun h1 => ?_)
  · refine r_iconst rfl ?_
    refine r_zret rfl rfl (by simp) ?_
    exact ⟨rfl, rfl⟩
  · refine r_iload_n rfl rfl ?_
    refine r_iconst rfl ?_
    refine r_icmp_ge rfl (fun h6 => ?_) (fun h6 => ?_)
    · refine r_iconst rfl ?_
      refine r_zret rfl rfl (by simp) ?_
      exact ⟨rfl, rfl⟩
    · exact absurd h (fun z => z.elim (fun y => h1 y) (fun y => h6 y))
theorem ct_X10_again_none {d : Nat} {S : am_S} {i : Nat} (hi : i < 3) (hr : gR S (1 + i) = 0) : am_CT (d + 2) iX10_again [.ref 0, .int (nI i)] S (some (.int 0)) (S) := by
  refine am_CT_in mmX10_again rfl rfl rfl ?_
  have bi : (nI i).toNatClampNeg = i := nI_clamp (by omega)
  have s1 : 0 ≤ nI i := nI_pos' (by omega)
  have s2 : nI i < 3 := nI_lt (b := 3) hi (by omega)
  have sr : nI i < 3 ∧ gR S (1 + (nI i).toNatClampNeg) = 0 := ⟨s2, by rw [bi]; exact hr⟩
  refine r_iload_n rfl rfl ?_
  refine r_if_lt rfl (fun h1 => ?_) (fun h1 => ?_)
  · exact absurd s1 (Int32.not_le.mpr h1)
  · refine r_iload_n rfl rfl ?_
    refine r_iconst rfl ?_
    refine r_icmp_ge rfl (fun h6 => ?_) (fun h6 => ?_)
    · exact absurd s2 (Int32.not_lt.mpr h6)
    · refine r_aload_n rfl rfl ?_
      refine r_getC rfl rfl (by decide) (by decide) rfl ?_
      refine r_iload_n rfl rfl ?_
      refine r_aaldKn rfl rfl (by first | exact s1 | exact sr | simp) (by first | exact s1 | exact sr | simp) ?_
      refine r_ifnullN rfl ?_
      refine r_iconst rfl ?_
      refine r_zret rfl rfl (by first | exact s1 | exact sr | simp) ?_
      exact ⟨rfl, rfl⟩
theorem ct_X10_again_few {d : Nat} {S : am_S} {i r : Nat} (hi : i < 3) (hr : gR S (1 + i) = r + 1) (hr2 : r < gR S 0) (hp : ¬ gI S (131 + 6 * r) 3 = gI S 1 1) : am_CT (d + 2) iX10_again [.ref 0, .int (nI i)] S (some (.int 0)) (S) := by
  refine am_CT_in mmX10_again rfl rfl rfl ?_
  have bi : (nI i).toNatClampNeg = i := nI_clamp (by omega)
  have s1 : 0 ≤ nI i := nI_pos' (by omega)
  have s2 : nI i < 3 := nI_lt (b := 3) hi (by omega)
  have sr : nI i < 3 ∧ gR S (1 + (nI i).toNatClampNeg) = r + 1 := ⟨s2, by rw [bi]; exact hr⟩
  have kp := kn_kept hr2
  refine r_iload_n rfl rfl ?_
  refine r_if_lt rfl (fun h1 => ?_) (fun h1 => ?_)
  · exact absurd s1 (Int32.not_le.mpr h1)
  · refine r_iload_n rfl rfl ?_
    refine r_iconst rfl ?_
    refine r_icmp_ge rfl (fun h6 => ?_) (fun h6 => ?_)
    · exact absurd s2 (Int32.not_lt.mpr h6)
    · refine r_aload_n rfl rfl ?_
      refine r_getC rfl rfl (by decide) (by decide) rfl ?_
      refine r_iload_n rfl rfl ?_
      refine r_aaldKs rfl rfl (by first | exact s1 | exact sr | simp) (by first | exact s1 | exact sr | simp) ?_
      refine r_ifnullR rfl ?_
      refine r_aload_n rfl rfl ?_
      refine r_getC rfl rfl (by decide) (by decide) rfl ?_
      refine r_iload_n rfl rfl ?_
      refine r_aaldKs rfl rfl (by first | exact s1 | exact sr | simp) (by first | exact s1 | exact sr | simp) ?_
      refine r_getI rfl kp.1 (by decide) (by decide) rfl ?_
      refine r_aload_n rfl rfl ?_
      refine r_getC rfl rfl (by decide) (by decide) rfl ?_
      refine r_getI rfl rfl (by decide) (by decide) rfl ?_
      refine r_icmp_eq rfl (fun h34 => ?_) (fun h34 => ?_)
      · exact absurd h34 hp
      · refine r_iconst rfl ?_
        refine r_zret rfl rfl (by first | exact s1 | exact sr | simp) ?_
        exact ⟨rfl, rfl⟩
theorem ct_X10_again_ok {d : Nat} {S : am_S} {i r : Nat} (hi : i < 3) (hr : gR S (1 + i) = r + 1) (hr2 : r < gR S 0) (hp : gI S (131 + 6 * r) 3 = gI S 1 1) : am_CT (d + 2) iX10_again [.ref 0, .int (nI i)] S (some (.int 1)) (cpyC S 54 (131 + 6 * r)) := by
  refine am_CT_in mmX10_again rfl rfl rfl ?_
  have bi : (nI i).toNatClampNeg = i := nI_clamp (by omega)
  have s1 : 0 ≤ nI i := nI_pos' (by omega)
  have s2 : nI i < 3 := nI_lt (b := 3) hi (by omega)
  have sr : nI i < 3 ∧ gR S (1 + (nI i).toNatClampNeg) = r + 1 := ⟨s2, by rw [bi]; exact hr⟩
  have kp := kn_kept hr2
  refine r_iload_n rfl rfl ?_
  refine r_if_lt rfl (fun h1 => ?_) (fun h1 => ?_)
  · exact absurd s1 (Int32.not_le.mpr h1)
  · refine r_iload_n rfl rfl ?_
    refine r_iconst rfl ?_
    refine r_icmp_ge rfl (fun h6 => ?_) (fun h6 => ?_)
    · exact absurd s2 (Int32.not_lt.mpr h6)
    · refine r_aload_n rfl rfl ?_
      refine r_getC rfl rfl (by decide) (by decide) rfl ?_
      refine r_iload_n rfl rfl ?_
      refine r_aaldKs rfl rfl (by first | exact s1 | exact sr | simp) (by first | exact s1 | exact sr | simp) ?_
      refine r_ifnullR rfl ?_
      refine r_aload_n rfl rfl ?_
      refine r_getC rfl rfl (by decide) (by decide) rfl ?_
      refine r_iload_n rfl rfl ?_
      refine r_aaldKs rfl rfl (by first | exact s1 | exact sr | simp) (by first | exact s1 | exact sr | simp) ?_
      refine r_getI rfl kp.1 (by decide) (by decide) rfl ?_
      refine r_aload_n rfl rfl ?_
      refine r_getC rfl rfl (by decide) (by decide) rfl ?_
      refine r_getI rfl rfl (by decide) (by decide) rfl ?_
      refine r_icmp_eq rfl (fun h34 => ?_) (fun h34 => ?_)
      · refine r_aload_n rfl rfl ?_
        refine r_getC rfl rfl (by decide) (by decide) rfl ?_
        refine r_aload_n rfl rfl ?_
        refine r_getC rfl rfl (by decide) (by decide) rfl ?_
        refine r_iload_n rfl rfl ?_
        refine r_aaldKs rfl rfl (by first | exact s1 | exact sr | simp) (by first | exact s1 | exact sr | simp) ?_
        refine r_callV rfl (ct_X0_copy (isC54 S) (isC_kept hr2) (by omega)) rfl rfl rfl (by decide) rfl (am_cnt rfl) ?_
        refine r_iconst rfl ?_
        refine r_zret rfl rfl (by first | exact s1 | exact sr | simp) ?_
        exact ⟨rfl, rfl⟩
      · exact absurd hp h34
