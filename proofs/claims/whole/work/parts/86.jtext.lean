/-! TEXTS: the JDK's own methods over the constants. -/
def RJ1 : String := "java/lang/StringLatin1"
def RJ3 : String := "jdk/internal/util/Preconditions"
abbrev cJ0_coder_7d493 : ByteArray := prog_22_method_152_code
def yJ0_coder_7d493 : MethodName := ⟨RJ0, "coder", "()B"⟩
abbrev cJ0_isLatin1_aae02 : ByteArray := prog_22_method_154_code
def yJ0_isLatin1_aae02 : MethodName := ⟨RJ0, "isLatin1", "()Z"⟩
abbrev cJ0_length_8abf5 : ByteArray := prog_22_method_54_code
def yJ0_length_8abf5 : MethodName := ⟨RJ0, "length", "()I"⟩
abbrev cJ3_checkIndex_8e157 : ByteArray := prog_30_method_11_code
def yJ3_checkIndex_8e157 : MethodName := ⟨RJ3, "checkIndex", "(IILjava/util/function/BiFunction;)I"⟩
abbrev cJ0_checkIndex_df160 : ByteArray := prog_22_method_155_code
def yJ0_checkIndex_df160 : MethodName := ⟨RJ0, "checkIndex", "(II)V"⟩
abbrev cJ1_charAt_3b067 : ByteArray := prog_23_method_2_code
def yJ1_charAt_3b067 : MethodName := ⟨RJ1, "charAt", "([BI)C"⟩
abbrev cJ0_charAt_5068e : ByteArray := prog_22_method_56_code
def yJ0_charAt_5068e : MethodName := ⟨RJ0, "charAt", "(I)C"⟩
abbrev cJ1_canEncode_9a6ad : ByteArray := prog_23_method_4_code
def yJ1_canEncode_9a6ad : MethodName := ⟨RJ1, "canEncode", "(I)Z"⟩
abbrev cJ1_indexOfChar_4cfef : ByteArray := prog_23_method_23_code
def yJ1_indexOfChar_4cfef : MethodName := ⟨RJ1, "indexOfChar", "([BIII)I"⟩
abbrev cJ1_indexOf_4cfef : ByteArray := prog_23_method_22_code
def yJ1_indexOf_4cfef : MethodName := ⟨RJ1, "indexOf", "([BIII)I"⟩
abbrev cJ0_indexOf_7cf53 : ByteArray := prog_22_method_80_code
def yJ0_indexOf_7cf53 : MethodName := ⟨RJ0, "indexOf", "(II)I"⟩
abbrev cJ0_indexOf_0f7a4 : ByteArray := prog_22_method_79_code
def yJ0_indexOf_0f7a4 : MethodName := ⟨RJ0, "indexOf", "(I)I"⟩
def jS (adK adV : Nat → Nat) (A : Nat → Prop) (U : State) (H : Heap) : Prop := vk_S 10 ((List.range 10).map (fun i => (am_str i).length)) ((List.range 10).map (fun i => (am_str i).map nI)) adK adV A U H ∧ va_Z "java/lang/String" "COMPACT_STRINGS" "Z" (.int 1) A U H ∧ va_Zq "jdk/internal/util/Preconditions" "SIOOBE_FORMATTER" "Ljava/util/function/BiFunction;" A U H
def jA (sz : Nat) : Nat → Prop := fun q => sz ≤ q
def jPc (adK adV : Nat → Nat) (sz : Nat) (av : List Value) : Array Value → State → Prop := va_Pc av (fun U => U.heap.size = sz ∧ jS adK adV (jA sz) U U.heap)
def jrm (d : Nat) : Room := { frames := d, cells := 0, slots := 0, locals := 40 * d }
abbrev jQi (r : Int32) (sz : Nat) : Array Value → State → Outcome → State → Prop := va_Qi (fun (x : Int32) (_ : Unit) => x = r) (fun _ _ => True) (jA sz)
abbrev jQv (sz : Nat) : Array Value → State → Outcome → State → Prop := va_Qv (fun (_ : Unit) => True) (fun _ _ => True) (jA sz)
theorem jS_moved {adK adV : Nat → Nat} {A : Nat → Prop} {u U : State} {H : Heap} (hvm : u.vm.Alike U.vm) (h : jS adK adV A u H) : jS adK adV A U H := ⟨h.1.moved hvm, h.2.1.moved hvm, h.2.2.moved hvm⟩
theorem jBlind {adK adV : Nat → Nat} {sz : Nat} {av : List Value} : FrameBlind (jPc adK adV sz av) := by
  intro a U g mk q
  obtain ⟨q0, q1, qS⟩ := q
  exact ⟨q0, q1, jS_moved (u := U) (U := U.calling g mk a) (Vm.Alike.refl U.vm) qS⟩
theorem jS_at {adK adV : Nat → Nat} {s : State} {H : Heap} {locs : List Loc} (h : jS adK adV (jA s.heap.size) s s.heap) (hS : va_S (jA s.heap.size) s.heap H locs) : jS adK adV (jA s.heap.size) s H := ⟨h.1.kept hS.2.1, h.2.1.kept hS.2.1, h.2.2.kept hS.2.1⟩
theorem jS_call {adK adV : Nat → Nat} {s : State} {H : Heap} {locs : List Loc} (h : jS adK adV (jA s.heap.size) s s.heap) (hS : va_S (jA s.heap.size) s.heap H locs) {av : List Value} : ∀ U : State, U.heap = H → s.WarmedH U.vm → jPc adK adV H.size av av.toArray U := by
  intro U hU hW
  refine ⟨rfl, by rw [hU], jS_moved hW.alike ?_⟩
  rw [hU]
  have hn : ∀ q, jA H.size q → jA s.heap.size q := fun q h => Nat.le_trans hS.1 h
  obtain ⟨h1, h2, h3⟩ := jS_at h hS
  exact ⟨h1.narrow hn, h2.narrow hn, h3.narrow hn⟩
theorem j_goodS {own : String} {idx maxL : Nat} {y : MethodName} {cc : ByteArray} {ret : Option FieldType} (h1 : Jvm.Cond.methodLink own idx y ∈ am_U) (h2 : Jvm.Cond.static y ∈ am_U) (h3 : Jvm.Cond.initialized y.cls ∈ am_U) (h4 : Jvm.Cond.code y cc maxL ret ∈ am_U) : GoodIn am_U (va_wsS own idx y (Jvm.Cond.code y cc maxL ret :: am_U)) := fun w h => by
  rcases List.mem_append.mp h with h | h
  · simp only [List.mem_cons, List.not_mem_nil, or_false] at h
    rcases h with rfl | rfl | rfl
    · exact am_good h1
    · exact am_good h2
    · exact am_good h3
  · rcases List.mem_cons.mp h with rfl | h
    · exact am_good h4
    · exact am_good h
theorem j_goodV {own : String} {idx maxL : Nat} {y : MethodName} {cc : ByteArray} {ret : Option FieldType} (h1 : Jvm.Cond.methodLink own idx y ∈ am_U) (h2 : Jvm.Cond.instanceMethod y ∈ am_U) (h5 : Jvm.Cond.selects y.cls y y ∈ am_U) (h3 : Jvm.Cond.initialized y.cls ∈ am_U) (h4 : Jvm.Cond.code y cc maxL ret ∈ am_U) : GoodIn am_U (wsV own idx y.cls y (Jvm.Cond.code y cc maxL ret :: am_U)) := fun w h => by
  rcases List.mem_append.mp h with h | h
  · simp only [List.mem_cons, List.not_mem_nil, or_false] at h
    rcases h with rfl | rfl | rfl | rfl
    · exact am_good h1
    · exact am_good h2
    · exact am_good h5
    · exact am_good h3
  · rcases List.mem_cons.mp h with rfl | h
    · exact am_good h4
    · exact am_good h
theorem j_len {i : Nat} (hi : i < 10) : ((List.range 10).map (fun i => (am_str i).length)).getD i 0 = (am_str i).length := by
  rw [List.getD_eq_getElem?_getD, List.getElem?_map, List.getElem?_range hi]
  rfl
theorem j_byt {i : Nat} (hi : i < 10) : ((List.range 10).map (fun i => (am_str i).map nI)).getD i [] = (am_str i).map nI := by
  rw [List.getD_eq_getElem?_getD, List.getElem?_map, List.getElem?_range hi]
  rfl
theorem j_T {adK adV : Nat → Nat} {A : Nat → Prop} {U : State} {H : Heap} {i : Nat} (h : jS adK adV A U H) (hi : i < 10) : va_T .byte (adV i) (am_str i).length (fun j => .int (((am_str i).map nI).getD j 0)) A U H := by
  have := (h.1.1 i hi).2.2.2
  rw [j_len hi, j_byt hi] at this
  exact this
theorem j_get {l : List Nat} {k : Nat} (hk : k < l.length) : (l.map nI).getD k 0 = nI (l.getD k 0) := by
  rw [List.getD_eq_getElem?_getD, List.getD_eq_getElem?_getD, List.getElem?_map, List.getElem?_eq_getElem hk]
  rfl
theorem j_all : (List.range 10).all (fun i => (am_str i).all (fun c => decide (0 < c ∧ c < 128)) && decide ((am_str i).length ≤ 6)) = true := by decide +kernel
theorem j_ch {i : Nat} (hi : i < 10) : (∀ c, c ∈ am_str i → 0 < c ∧ c < 128) ∧ (am_str i).length ≤ 6 := by
  have h := List.all_eq_true.mp j_all i (List.mem_range.mpr hi)
  rw [Bool.and_eq_true] at h
  exact ⟨fun c hc => of_decide_eq_true (List.all_eq_true.mp h.1 c hc), of_decide_eq_true h.2⟩
theorem j_chk {i k : Nat} (hi : i < 10) (hk : k < (am_str i).length) : 0 < (am_str i).getD k 0 ∧ (am_str i).getD k 0 < 128 := by
  refine (j_ch hi).1 _ ?_
  rw [List.getD_eq_getElem?_getD, List.getElem?_eq_getElem hk]
  exact List.getElem_mem hk
theorem j_and {x : Nat} (h : x < 128) : nI x &&& 255 = nI x ∧ (nI x &&& 255).toUInt32 % 65536 = (nI x).toUInt32 ∧ ((nI x &&& 255).toUInt32 % 65536).toInt32 = nI x := by
  have : ∀ x : Fin 128, nI x.val &&& 255 = nI x.val ∧ (nI x.val &&& 255).toUInt32 % 65536 = (nI x.val).toUInt32 ∧ ((nI x.val &&& 255).toUInt32 % 65536).toInt32 = nI x.val := by decide +kernel
  exact this ⟨x, h⟩
theorem j_nar {x : Nat} (h : x < 128) : narrow .char (.int (nI x)) = .int (nI x) := by
  have : ∀ x : Fin 128, (nI x.val).toUInt32 % 65536 = (nI x.val).toUInt32 ∧ ((nI x.val).toUInt32 % 65536).toInt32 = nI x.val := by decide +kernel
  have := this ⟨x, h⟩
  simp only [narrow]
  first | rfl | (simp [this.1, this.2]; done) | (rw [this.2]) | (congr 1; simp [this])

theorem j_J0_coder_7d493 (l : Launch) (adK adV : Nat → Nat) (sz : Nat) {i : Nat} (hi : i < 10) : Met l yJ0_coder_7d493 (Jvm.Cond.code yJ0_coder_7d493 cJ0_coder_7d493 1 (some .byte) :: am_U) (jrm 0) (jPc adK adV sz [.ref (adK i)]) (jQi (0) sz) 0 0 (jA sz) := by
  refine Met.ofW (cc := cJ0_coder_7d493) (maxL := 1) (ret := some .byte) (by decide) rfl ?_
  intro p e s m args below meth c s₁ B hml hv
  obtain ⟨rfl, hsz, hJ⟩ := hv
  have hx := B.exec
  have hb := B.bytes
  have hr := B.returns
  have hts0 := atoms_spec (ws := Jvm.Cond.code yJ0_coder_7d493 cJ0_coder_7d493 1 (some .byte) :: am_U) B.pre
  have hts : ∀ w ∈ am_U, w.before (([.ref (adK i)] : List Value).toArray) s = true := fun w hw => hts0 w (List.mem_cons_of_mem _ hw)
  have hown : s.vm.findClass RJ0 = some m.cls := findClass_of_methodNamed B.named
  have hlocks := B.notSynchronized
  subst hsz
  have hS : va_S (jA s.heap.size) s.heap s.heap [] := va_S.rf
  have hl := lv_entry ([.ref (adK i)]) (n := 1) (Nat.le_of_ble_eq_true rfl)
  rw [lg_entry_eq]
  generalize (lg_sl ([.ref (adK i)]) ++ List.replicate (1 - (lg_sl ([.ref (adK i)])).length) Slot.unset).toArray = ls at hl ⊢
  have hl : lv_has ls 1 [(0, .ref (adK i))] := hl
  refine va_gets hx hb hJ.2.1 hS hown (hts _ (am_at_U (pos := 533) (w := .fieldLink RJ0 38 "java/lang/String" "COMPACT_STRINGS" "Z") (by decide +kernel) rfl)) (fun _ h9 => h9) (show decode cJ0_coder_7d493 0 = .ok (.getstatic 38, 3) by decide +kernel) ?_
  refine lv_if_eq (tgt := 13) hx hb (show decode cJ0_coder_7d493 3 = .ok (.ifCond .eq 10, 3) by decide +kernel) rfl (fun h => absurd h (by decide)) (fun _ => ?_)
  refine lv_aload_n hx hb (show decode cJ0_coder_7d493 6 = .ok (.aload_n 0, 1) by decide +kernel) rfl (lv_at hl 0 rfl) ?_
  refine vk_getf hx hb ((hJ.1.1 i hi).2.1) hS hown (hts _ (am_at_U (pos := 1844) (w := .fieldLink RJ0 15 "java/lang/String" "coder" "B") (by decide +kernel) rfl)) (fun _ h9 => h9) (show decode cJ0_coder_7d493 7 = .ok (.getfield 15, 3) by decide +kernel) ?_
  refine lv_goto (tgt := 14) hx hb (show decode cJ0_coder_7d493 10 = .ok (.goto 4, 3) by decide +kernel) rfl ?_
  exact W.zret (v := 0) hx hb hr (rfl) (fun t ht hW => ⟨⟨0, (), rfl, rfl, trivial⟩, hS.F ht⟩) hS.2.2 (show decode cJ0_coder_7d493 14 = .ok (.ireturn, 1) by decide +kernel)
theorem j_J0_isLatin1_aae02 (l : Launch) (adK adV : Nat → Nat) (sz : Nat) {i : Nat} (hi : i < 10) : Met l yJ0_isLatin1_aae02 (Jvm.Cond.code yJ0_isLatin1_aae02 cJ0_isLatin1_aae02 1 (some .boolean) :: am_U) (jrm 0) (jPc adK adV sz [.ref (adK i)]) (jQi (1) sz) 0 0 (jA sz) := by
  refine Met.ofW (cc := cJ0_isLatin1_aae02) (maxL := 1) (ret := some .boolean) (by decide) rfl ?_
  intro p e s m args below meth c s₁ B hml hv
  obtain ⟨rfl, hsz, hJ⟩ := hv
  have hx := B.exec
  have hb := B.bytes
  have hr := B.returns
  have hts0 := atoms_spec (ws := Jvm.Cond.code yJ0_isLatin1_aae02 cJ0_isLatin1_aae02 1 (some .boolean) :: am_U) B.pre
  have hts : ∀ w ∈ am_U, w.before (([.ref (adK i)] : List Value).toArray) s = true := fun w hw => hts0 w (List.mem_cons_of_mem _ hw)
  have hown : s.vm.findClass RJ0 = some m.cls := findClass_of_methodNamed B.named
  have hlocks := B.notSynchronized
  subst hsz
  have hS : va_S (jA s.heap.size) s.heap s.heap [] := va_S.rf
  have hl := lv_entry ([.ref (adK i)]) (n := 1) (Nat.le_of_ble_eq_true rfl)
  rw [lg_entry_eq]
  generalize (lg_sl ([.ref (adK i)]) ++ List.replicate (1 - (lg_sl ([.ref (adK i)])).length) Slot.unset).toArray = ls at hl ⊢
  have hl : lv_has ls 1 [(0, .ref (adK i))] := hl
  refine va_gets hx hb hJ.2.1 hS hown (hts _ (am_at_U (pos := 533) (w := .fieldLink RJ0 38 "java/lang/String" "COMPACT_STRINGS" "Z") (by decide +kernel) rfl)) (fun _ h9 => h9) (show decode cJ0_isLatin1_aae02 0 = .ok (.getstatic 38, 3) by decide +kernel) ?_
  refine lv_if_eq (tgt := 17) hx hb (show decode cJ0_isLatin1_aae02 3 = .ok (.ifCond .eq 14, 3) by decide +kernel) rfl (fun h => absurd h (by decide)) (fun _ => ?_)
  refine lv_aload_n hx hb (show decode cJ0_isLatin1_aae02 6 = .ok (.aload_n 0, 1) by decide +kernel) rfl (lv_at hl 0 rfl) ?_
  refine vk_getf hx hb ((hJ.1.1 i hi).2.1) hS hown (hts _ (am_at_U (pos := 1844) (w := .fieldLink RJ0 15 "java/lang/String" "coder" "B") (by decide +kernel) rfl)) (fun _ h9 => h9) (show decode cJ0_isLatin1_aae02 7 = .ok (.getfield 15, 3) by decide +kernel) ?_
  refine lv_if_ne (tgt := 17) hx hb (show decode cJ0_isLatin1_aae02 10 = .ok (.ifCond .ne 7, 3) by decide +kernel) rfl (fun h => absurd rfl h) (fun _ => ?_)
  refine lv_iconst (v := 1) hx hb (show decode cJ0_isLatin1_aae02 13 = .ok (.iconst 1, 1) by decide +kernel) (by decide) ?_
  refine lv_goto (tgt := 18) hx hb (show decode cJ0_isLatin1_aae02 14 = .ok (.goto 4, 3) by decide +kernel) rfl ?_
  exact W.zret (v := 1) hx hb hr (rfl) (fun t ht hW => ⟨⟨1, (), rfl, rfl, trivial⟩, hS.F ht⟩) hS.2.2 (show decode cJ0_isLatin1_aae02 18 = .ok (.ireturn, 1) by decide +kernel)
theorem j_shr0 {n : Nat} (h : n < 128) : nI n >>> ((0 : Int32) &&& 31) = nI n := by
  have : ∀ x : Fin 128, nI x.val >>> ((0 : Int32) &&& 31) = nI x.val := by decide +kernel
  exact this ⟨n, h⟩
theorem j_J0_length_8abf5 (l : Launch) (adK adV : Nat → Nat) (sz : Nat) {i : Nat} (hi : i < 10) : Met l yJ0_length_8abf5 (Jvm.Cond.code yJ0_length_8abf5 cJ0_length_8abf5 1 (some .int) :: am_U) (jrm 1) (jPc adK adV sz [.ref (adK i)]) (jQi (nI (am_str i).length) sz) 0 0 (jA sz) := by
  refine Met.ofW (cc := cJ0_length_8abf5) (maxL := 1) (ret := some .int) (by decide) rfl ?_
  intro p e s m args below meth c s₁ B hml hv
  obtain ⟨rfl, hsz, hJ⟩ := hv
  have hx := B.exec
  have hb := B.bytes
  have hr := B.returns
  have hts0 := atoms_spec (ws := Jvm.Cond.code yJ0_length_8abf5 cJ0_length_8abf5 1 (some .int) :: am_U) B.pre
  have hts : ∀ w ∈ am_U, w.before (([.ref (adK i)] : List Value).toArray) s = true := fun w hw => hts0 w (List.mem_cons_of_mem _ hw)
  have hown : s.vm.findClass RJ0 = some m.cls := findClass_of_methodNamed B.named
  have hlocks := B.notSynchronized
  subst hsz
  have hS : va_S (jA s.heap.size) s.heap s.heap [] := va_S.rf
  have hl := lv_entry ([.ref (adK i)]) (n := 1) (Nat.le_of_ble_eq_true rfl)
  rw [lg_entry_eq]
  generalize (lg_sl ([.ref (adK i)]) ++ List.replicate (1 - (lg_sl ([.ref (adK i)])).length) Slot.unset).toArray = ls at hl ⊢
  have hl : lv_has ls 1 [(0, .ref (adK i))] := hl
  refine lv_aload_n hx hb (show decode cJ0_length_8abf5 0 = .ok (.aload_n 0, 1) by decide +kernel) rfl (lv_at hl 0 rfl) ?_
  refine vk_getf hx hb ((hJ.1.1 i hi).2.2.1) hS hown (hts _ (am_at_U (pos := 1845) (w := .fieldLink RJ0 9 "java/lang/String" "value" "[B") (by decide +kernel) rfl)) (fun _ h9 => h9) (show decode cJ0_length_8abf5 1 = .ok (.getfield 9, 3) by decide +kernel) ?_
  refine va_tlen hx hb (j_T hJ hi) hS (v := nI (am_str i).length) rfl (show decode cJ0_length_8abf5 4 = .ok (.arraylength, 1) by decide +kernel) ?_
  refine lv_aload_n hx hb (show decode cJ0_length_8abf5 5 = .ok (.aload_n 0, 1) by decide +kernel) rfl (lv_at hl 0 rfl) ?_
  refine va_calli (va_runV (As := []) (rest := [.int (nI (am_str i).length)]) (b := adK i) ⟨hx, hb, hml, hown, hts⟩ (j_J0_coder_7d493 l adK adV s.heap.size hi) (cwV 0 hts (j_goodV (am_at_U (pos := 539) (w := .methodLink RJ0 335 yJ0_coder_7d493) (by decide +kernel) rfl) (am_at_U (pos := 540) (w := .instanceMethod yJ0_coder_7d493) (by decide +kernel) rfl) (am_at_U (pos := 541) (w := .selects RJ0 yJ0_coder_7d493 yJ0_coder_7d493) (by decide +kernel) rfl) (am_at_U (pos := 89) (w := .initialized RJ0) (by decide +kernel) rfl) (am_at_U (pos := 542) (w := .code yJ0_coder_7d493 cJ0_coder_7d493 1 (some .byte)) (by decide +kernel) rfl)) rfl rfl rfl (by decide +kernel) ⟨Nat.le_of_ble_eq_true rfl, Nat.le_of_ble_eq_true rfl⟩) ⟨jBlind, vk_recv hJ.1 hi hS, jS_call hJ hS⟩ rfl rfl hl.1 rfl (lv_room (Nat.le_of_ble_eq_true rfl)) (show decode cJ0_length_8abf5 6 = .ok (.invokevirtual 335, 3) by decide +kernel) ⟨Nat.zero_le _, Nat.zero_le _⟩) hS (fun q h1 h2 => absurd h1 (Nat.not_lt.mpr h2)) (fun q h1 => Nat.le_trans hS.1 h1) (fun r u t H1 locs1 ht9 hvm9 hp9 hB9 hz9 hk9 hS => ?_)
  subst hp9
  refine lv_ishr hx hb (show decode cJ0_length_8abf5 9 = .ok (.ishr, 1) by decide +kernel) ?_
  have e0 : nI (am_str i).length >>> ((0 : Int32) &&& 31) = nI (am_str i).length := j_shr0 (Nat.lt_of_le_of_lt (j_ch hi).2 (by decide))
  rw [e0]
  exact W.iret (v := nI (am_str i).length) hx hb hr (fun t ht hW => ⟨⟨nI (am_str i).length, (), rfl, rfl, trivial⟩, hS.F ht⟩) hS.2.2 (show decode cJ0_length_8abf5 10 = .ok (.ireturn, 1) by decide +kernel)
theorem j_sl3 {x n : Int32} {f : Value} (hf : f.category = 1) : (lg_sl ([.int x, .int n, f] : List Value)).length = 3 := by
  cases f <;> first | rfl | exact absurd (show (2 : Nat) = 1 from hf) (by decide)
theorem j_J3_checkIndex_8e157 (l : Launch) (adK adV : Nat → Nat) (sz : Nat) {x n : Int32} {f : Value} (h0 : 0 ≤ x) (h1 : x < n) (hf : f.category = 1) : Met l yJ3_checkIndex_8e157 (Jvm.Cond.code yJ3_checkIndex_8e157 cJ3_checkIndex_8e157 3 (some .int) :: am_U) (jrm 0) (jPc adK adV sz [.int x, .int n, f]) (jQi (x) sz) 0 0 (jA sz) := by
  refine Met.ofW (cc := cJ3_checkIndex_8e157) (maxL := 3) (ret := some .int) (by decide) rfl ?_
  intro p e s m args below meth c s₁ B hml hv
  obtain ⟨rfl, hsz, hJ⟩ := hv
  have hx := B.exec
  have hb := B.bytes
  have hr := B.returns
  have hts0 := atoms_spec (ws := Jvm.Cond.code yJ3_checkIndex_8e157 cJ3_checkIndex_8e157 3 (some .int) :: am_U) B.pre
  have hts : ∀ w ∈ am_U, w.before (([.int x, .int n, f] : List Value).toArray) s = true := fun w hw => hts0 w (List.mem_cons_of_mem _ hw)
  have hown : s.vm.findClass RJ3 = some m.cls := findClass_of_methodNamed B.named
  have hlocks := B.notSynchronized
  subst hsz
  have hS : va_S (jA s.heap.size) s.heap s.heap [] := va_S.rf
  have hl := lv_entry ([.int x, .int n, f]) (n := 3) (by rw [j_sl3 hf]; decide)
  rw [lg_entry_eq]
  generalize (lg_sl ([.int x, .int n, f]) ++ List.replicate (3 - (lg_sl ([.int x, .int n, f])).length) Slot.unset).toArray = ls at hl ⊢
  have hl : lv_has ls 3 [(0, .int x), (1, .int n), (2, f)] := hl
  refine lv_iload_n hx hb (show decode cJ3_checkIndex_8e157 0 = .ok (.iload_n 0, 1) by decide +kernel) rfl (lv_at hl 0 rfl) ?_
  refine lv_if_lt (tgt := 9) hx hb (show decode cJ3_checkIndex_8e157 1 = .ok (.ifCond .lt 8, 3) by decide +kernel) rfl (fun h => absurd h (Int32.not_lt.mpr h0)) (fun _ => ?_)
  refine lv_iload_n hx hb (show decode cJ3_checkIndex_8e157 4 = .ok (.iload_n 0, 1) by decide +kernel) rfl (lv_at hl 0 rfl) ?_
  refine lv_iload_n hx hb (show decode cJ3_checkIndex_8e157 5 = .ok (.iload_n 1, 1) by decide +kernel) rfl (lv_at hl 1 rfl) ?_
  refine lv_icmp_lt (tgt := 16) hx hb (show decode cJ3_checkIndex_8e157 6 = .ok (.if_icmp .lt 10, 3) by decide +kernel) rfl (fun _ => ?_) (fun h => absurd h1 h)
  refine lv_iload_n hx hb (show decode cJ3_checkIndex_8e157 16 = .ok (.iload_n 0, 1) by decide +kernel) rfl (lv_at hl 0 rfl) ?_
  exact W.iret (v := x) hx hb hr (fun t ht hW => ⟨⟨x, (), rfl, rfl, trivial⟩, hS.F ht⟩) hS.2.2 (show decode cJ3_checkIndex_8e157 17 = .ok (.ireturn, 1) by decide +kernel)
theorem j_J0_checkIndex_df160 (l : Launch) (adK adV : Nat → Nat) (sz : Nat) {x n : Int32} (h0 : 0 ≤ x) (h1 : x < n) : Met l yJ0_checkIndex_df160 (Jvm.Cond.code yJ0_checkIndex_df160 cJ0_checkIndex_df160 2 (none) :: am_U) (jrm 1) (jPc adK adV sz [.int x, .int n]) (jQv sz) 0 0 (jA sz) := by
  refine Met.ofW (cc := cJ0_checkIndex_df160) (maxL := 2) (ret := none) (by decide) rfl ?_
  intro p e s m args below meth c s₁ B hml hv
  obtain ⟨rfl, hsz, hJ⟩ := hv
  have hx := B.exec
  have hb := B.bytes
  have hr := B.returns
  have hts0 := atoms_spec (ws := Jvm.Cond.code yJ0_checkIndex_df160 cJ0_checkIndex_df160 2 (none) :: am_U) B.pre
  have hts : ∀ w ∈ am_U, w.before (([.int x, .int n] : List Value).toArray) s = true := fun w hw => hts0 w (List.mem_cons_of_mem _ hw)
  have hown : s.vm.findClass RJ0 = some m.cls := findClass_of_methodNamed B.named
  have hlocks := B.notSynchronized
  subst hsz
  have hS : va_S (jA s.heap.size) s.heap s.heap [] := va_S.rf
  have hl := lv_entry ([.int x, .int n]) (n := 2) (Nat.le_of_ble_eq_true rfl)
  rw [lg_entry_eq]
  generalize (lg_sl ([.int x, .int n]) ++ List.replicate (2 - (lg_sl ([.int x, .int n])).length) Slot.unset).toArray = ls at hl ⊢
  have hl : lv_has ls 2 [(0, .int x), (1, .int n)] := hl
  refine lv_iload_n hx hb (show decode cJ0_checkIndex_df160 0 = .ok (.iload_n 0, 1) by decide +kernel) rfl (lv_at hl 0 rfl) ?_
  refine lv_iload_n hx hb (show decode cJ0_checkIndex_df160 1 = .ok (.iload_n 1, 1) by decide +kernel) rfl (lv_at hl 1 rfl) ?_
  obtain ⟨f, hf, hZ⟩ : ∃ f : Value, f.category = 1 ∧ va_Z "jdk/internal/util/Preconditions" "SIOOBE_FORMATTER" "Ljava/util/function/BiFunction;" f (jA s.heap.size) s s.heap := by
    rcases hJ.2.2 with h | ⟨t, h⟩
    · exact ⟨.null, rfl, h⟩
    · exact ⟨.ref t, rfl, h⟩
  refine va_gets hx hb hZ hS hown (hts _ (am_at_U (pos := 574) (w := .fieldLink RJ0 1053 "jdk/internal/util/Preconditions" "SIOOBE_FORMATTER" "Ljava/util/function/BiFunction;") (by decide +kernel) rfl)) (fun _ h9 => h9) (show decode cJ0_checkIndex_df160 2 = .ok (.getstatic 1053, 3) by decide +kernel) ?_
  refine va_calli (va_runS (As := [.int x, .int n, f]) (rest := []) ⟨hx, hb, hml, hown, hts⟩ (j_J3_checkIndex_8e157 l adK adV s.heap.size h0 h1 hf) (va_cwS 3 hts (j_goodS (am_at_U (pos := 1279) (w := .methodLink RJ0 1059 yJ3_checkIndex_8e157) (by decide +kernel) rfl) (am_at_U (pos := 1280) (w := .static yJ3_checkIndex_8e157) (by decide +kernel) rfl) (am_at_U (pos := 92) (w := .initialized RJ3) (by decide +kernel) rfl) (am_at_U (pos := 1281) (w := .code yJ3_checkIndex_8e157 cJ3_checkIndex_8e157 3 (some .int)) (by decide +kernel) rfl)) rfl rfl rfl (by decide +kernel) ⟨Nat.le_of_ble_eq_true rfl, Nat.le_of_ble_eq_true rfl⟩) ⟨jBlind, jS_call hJ hS⟩ rfl rfl hl.1 rfl (lv_room (Nat.le_of_ble_eq_true rfl)) (show decode cJ0_checkIndex_df160 5 = .ok (.invokestatic 1059, 3) by decide +kernel) ⟨Nat.zero_le _, Nat.zero_le _⟩) hS (fun q h1 h2 => absurd h1 (Nat.not_lt.mpr h2)) (fun q h1 => Nat.le_trans hS.1 h1) (fun r u t H1 locs1 ht9 hvm9 hp9 hB9 hz9 hk9 hS => ?_)
  subst hp9
  refine lv_pop hx hb (show decode cJ0_checkIndex_df160 8 = .ok (.pop, 1) by decide +kernel) rfl ?_
  exact W.vret hx hb hr (fun t ht hW => ⟨⟨(), rfl, trivial, trivial⟩, hS.F ht⟩) hS.2.2 (show decode cJ0_checkIndex_df160 9 = .ok (.return_, 1) by decide +kernel)
theorem j_J1_charAt_3b067 (l : Launch) (adK adV : Nat → Nat) (sz : Nat) {i k : Nat} (hi : i < 10) (hk : k < (am_str i).length) : Met l yJ1_charAt_3b067 (Jvm.Cond.code yJ1_charAt_3b067 cJ1_charAt_3b067 2 (some .char) :: am_U) (jrm 2) (jPc adK adV sz [.ref (adV i), .int (nI k)]) (jQi (nI ((am_str i).getD k 0)) sz) 0 0 (jA sz) := by
  refine Met.ofW (cc := cJ1_charAt_3b067) (maxL := 2) (ret := some .char) (by decide) rfl ?_
  intro p e s m args below meth c s₁ B hml hv
  obtain ⟨rfl, hsz, hJ⟩ := hv
  have hx := B.exec
  have hb := B.bytes
  have hr := B.returns
  have hts0 := atoms_spec (ws := Jvm.Cond.code yJ1_charAt_3b067 cJ1_charAt_3b067 2 (some .char) :: am_U) B.pre
  have hts : ∀ w ∈ am_U, w.before (([.ref (adV i), .int (nI k)] : List Value).toArray) s = true := fun w hw => hts0 w (List.mem_cons_of_mem _ hw)
  have hown : s.vm.findClass RJ1 = some m.cls := findClass_of_methodNamed B.named
  have hlocks := B.notSynchronized
  subst hsz
  have hS : va_S (jA s.heap.size) s.heap s.heap [] := va_S.rf
  have hl := lv_entry ([.ref (adV i), .int (nI k)]) (n := 2) (Nat.le_of_ble_eq_true rfl)
  rw [lg_entry_eq]
  generalize (lg_sl ([.ref (adV i), .int (nI k)]) ++ List.replicate (2 - (lg_sl ([.ref (adV i), .int (nI k)])).length) Slot.unset).toArray = ls at hl ⊢
  have hl : lv_has ls 2 [(0, .ref (adV i)), (1, .int (nI k))] := hl
  have hT := j_T hJ hi
  have k6 := (j_ch hi).2
  refine lv_iload_n hx hb (show decode cJ1_charAt_3b067 0 = .ok (.iload_n 1, 1) by decide +kernel) rfl (lv_at hl 1 rfl) ?_
  refine lv_aload_n hx hb (show decode cJ1_charAt_3b067 1 = .ok (.aload_n 0, 1) by decide +kernel) rfl (lv_at hl 0 rfl) ?_
  refine va_tlen hx hb hT hS (v := nI (am_str i).length) rfl (show decode cJ1_charAt_3b067 2 = .ok (.arraylength, 1) by decide +kernel) ?_
  refine va_callv (va_runS (As := [.int (nI k), .int (nI (am_str i).length)]) (rest := []) ⟨hx, hb, hml, hown, hts⟩ (j_J0_checkIndex_df160 l adK adV s.heap.size (nI_pos' (by omega)) (nI_lt hk (by omega))) (va_cwS 2 hts (j_goodS (am_at_U (pos := 1276) (w := .methodLink RJ1 9 yJ0_checkIndex_df160) (by decide +kernel) rfl) (am_at_U (pos := 1277) (w := .static yJ0_checkIndex_df160) (by decide +kernel) rfl) (am_at_U (pos := 89) (w := .initialized RJ0) (by decide +kernel) rfl) (am_at_U (pos := 1278) (w := .code yJ0_checkIndex_df160 cJ0_checkIndex_df160 2 (none)) (by decide +kernel) rfl)) rfl rfl rfl (by decide +kernel) ⟨Nat.le_of_ble_eq_true rfl, Nat.le_of_ble_eq_true rfl⟩) ⟨jBlind, jS_call hJ hS⟩ rfl rfl hl.1 rfl (lv_room (Nat.le_of_ble_eq_true rfl)) (show decode cJ1_charAt_3b067 3 = .ok (.invokestatic 9, 3) by decide +kernel) ⟨Nat.zero_le _, Nat.zero_le _⟩) hS (fun q h1 h2 => absurd h1 (Nat.not_lt.mpr h2)) (fun q h1 => Nat.le_trans hS.1 h1) (fun u t H1 locs1 ht9 hvm9 hp9 hB9 hz9 hk9 hS => ?_)
  refine lv_aload_n hx hb (show decode cJ1_charAt_3b067 6 = .ok (.aload_n 0, 1) by decide +kernel) rfl (lv_at hl 0 rfl) ?_
  refine lv_iload_n hx hb (show decode cJ1_charAt_3b067 7 = .ok (.iload_n 1, 1) by decide +kernel) rfl (lv_at hl 1 rfl) ?_
  refine va_tb hx hb hT hS (vp_in_nI hk (by omega)) (v := .int (nI ((am_str i).getD k 0))) (by rw [nI_clamp (by omega)]; exact congrArg Value.int (j_get hk)) (show decode cJ1_charAt_3b067 8 = .ok (.baload, 1) by decide +kernel) ?_
  refine lv_sipush (v := 255) hx hb (show decode cJ1_charAt_3b067 9 = .ok (.sipush 255, 3) by decide +kernel) (by decide) ?_
  refine lv_iand hx hb (show decode cJ1_charAt_3b067 12 = .ok (.iand, 1) by decide +kernel) ?_
  refine lv_i2c (v := nI ((am_str i).getD k 0)) hx hb (show decode cJ1_charAt_3b067 13 = .ok (.i2c, 1) by decide +kernel) (j_and (j_chk hi hk).2).2.2 ?_
  exact W.zret (v := nI ((am_str i).getD k 0)) hx hb hr (j_nar (j_chk hi hk).2) (fun t ht hW => ⟨⟨nI ((am_str i).getD k 0), (), rfl, rfl, trivial⟩, hS.F ht⟩) hS.2.2 (show decode cJ1_charAt_3b067 14 = .ok (.ireturn, 1) by decide +kernel)
theorem j_J0_charAt_5068e (l : Launch) (adK adV : Nat → Nat) (sz : Nat) {i k : Nat} (hi : i < 10) (hk : k < (am_str i).length) : Met l yJ0_charAt_5068e (Jvm.Cond.code yJ0_charAt_5068e cJ0_charAt_5068e 2 (some .char) :: am_U) (jrm 3) (jPc adK adV sz [.ref (adK i), .int (nI k)]) (jQi (nI ((am_str i).getD k 0)) sz) 0 0 (jA sz) := by
  refine Met.ofW (cc := cJ0_charAt_5068e) (maxL := 2) (ret := some .char) (by decide) rfl ?_
  intro p e s m args below meth c s₁ B hml hv
  obtain ⟨rfl, hsz, hJ⟩ := hv
  have hx := B.exec
  have hb := B.bytes
  have hr := B.returns
  have hts0 := atoms_spec (ws := Jvm.Cond.code yJ0_charAt_5068e cJ0_charAt_5068e 2 (some .char) :: am_U) B.pre
  have hts : ∀ w ∈ am_U, w.before (([.ref (adK i), .int (nI k)] : List Value).toArray) s = true := fun w hw => hts0 w (List.mem_cons_of_mem _ hw)
  have hown : s.vm.findClass RJ0 = some m.cls := findClass_of_methodNamed B.named
  have hlocks := B.notSynchronized
  subst hsz
  have hS : va_S (jA s.heap.size) s.heap s.heap [] := va_S.rf
  have hl := lv_entry ([.ref (adK i), .int (nI k)]) (n := 2) (Nat.le_of_ble_eq_true rfl)
  rw [lg_entry_eq]
  generalize (lg_sl ([.ref (adK i), .int (nI k)]) ++ List.replicate (2 - (lg_sl ([.ref (adK i), .int (nI k)])).length) Slot.unset).toArray = ls at hl ⊢
  have hl : lv_has ls 2 [(0, .ref (adK i)), (1, .int (nI k))] := hl
  refine lv_aload_n hx hb (show decode cJ0_charAt_5068e 0 = .ok (.aload_n 0, 1) by decide +kernel) rfl (lv_at hl 0 rfl) ?_
  refine va_calli (va_runV (As := []) (rest := []) (b := adK i) ⟨hx, hb, hml, hown, hts⟩ (j_J0_isLatin1_aae02 l adK adV s.heap.size hi) (cwV 0 hts (j_goodV (am_at_U (pos := 529) (w := .methodLink RJ0 492 yJ0_isLatin1_aae02) (by decide +kernel) rfl) (am_at_U (pos := 530) (w := .instanceMethod yJ0_isLatin1_aae02) (by decide +kernel) rfl) (am_at_U (pos := 531) (w := .selects RJ0 yJ0_isLatin1_aae02 yJ0_isLatin1_aae02) (by decide +kernel) rfl) (am_at_U (pos := 89) (w := .initialized RJ0) (by decide +kernel) rfl) (am_at_U (pos := 532) (w := .code yJ0_isLatin1_aae02 cJ0_isLatin1_aae02 1 (some .boolean)) (by decide +kernel) rfl)) rfl rfl rfl (by decide +kernel) ⟨Nat.le_of_ble_eq_true rfl, Nat.le_of_ble_eq_true rfl⟩) ⟨jBlind, vk_recv hJ.1 hi hS, jS_call hJ hS⟩ rfl rfl hl.1 rfl (lv_room (Nat.le_of_ble_eq_true rfl)) (show decode cJ0_charAt_5068e 1 = .ok (.invokevirtual 492, 3) by decide +kernel) ⟨Nat.zero_le _, Nat.zero_le _⟩) hS (fun q h1 h2 => absurd h1 (Nat.not_lt.mpr h2)) (fun q h1 => Nat.le_trans hS.1 h1) (fun r u t H1 locs1 ht9 hvm9 hp9 hB9 hz9 hk9 hS => ?_)
  subst hp9
  refine lv_if_eq (tgt := 16) hx hb (show decode cJ0_charAt_5068e 4 = .ok (.ifCond .eq 12, 3) by decide +kernel) rfl (fun h => absurd h (by decide)) (fun _ => ?_)
  refine lv_aload_n hx hb (show decode cJ0_charAt_5068e 7 = .ok (.aload_n 0, 1) by decide +kernel) rfl (lv_at hl 0 rfl) ?_
  refine vk_getf hx hb ((hJ.1.1 i hi).2.2.1) hS hown (hts _ (am_at_U (pos := 1845) (w := .fieldLink RJ0 9 "java/lang/String" "value" "[B") (by decide +kernel) rfl)) (fun _ h9 => h9) (show decode cJ0_charAt_5068e 8 = .ok (.getfield 9, 3) by decide +kernel) ?_
  refine lv_iload_n hx hb (show decode cJ0_charAt_5068e 11 = .ok (.iload_n 1, 1) by decide +kernel) rfl (lv_at hl 1 rfl) ?_
  refine va_calli (va_runS (As := [.ref (adV i), .int (nI k)]) (rest := []) ⟨hx, hb, hml, hown, hts⟩ (j_J1_charAt_3b067 l adK adV H1.size hi hk) (va_cwS 2 hts (j_goodS (am_at_U (pos := 1273) (w := .methodLink RJ0 495 yJ1_charAt_3b067) (by decide +kernel) rfl) (am_at_U (pos := 1274) (w := .static yJ1_charAt_3b067) (by decide +kernel) rfl) (am_at_U (pos := 90) (w := .initialized RJ1) (by decide +kernel) rfl) (am_at_U (pos := 1275) (w := .code yJ1_charAt_3b067 cJ1_charAt_3b067 2 (some .char)) (by decide +kernel) rfl)) rfl rfl rfl (by decide +kernel) ⟨Nat.le_of_ble_eq_true rfl, Nat.le_of_ble_eq_true rfl⟩) ⟨jBlind, jS_call hJ hS⟩ rfl rfl hl.1 rfl (lv_room (Nat.le_of_ble_eq_true rfl)) (show decode cJ0_charAt_5068e 12 = .ok (.invokestatic 495, 3) by decide +kernel) ⟨Nat.zero_le _, Nat.zero_le _⟩) hS (fun q h1 h2 => absurd h1 (Nat.not_lt.mpr h2)) (fun q h1 => Nat.le_trans hS.1 h1) (fun r u t H1 locs1 ht9 hvm9 hp9 hB9 hz9 hk9 hS => ?_)
  subst hp9
  exact W.zret (v := nI ((am_str i).getD k 0)) hx hb hr (j_nar (j_chk hi hk).2) (fun t ht hW => ⟨⟨nI ((am_str i).getD k 0), (), rfl, rfl, trivial⟩, hS.F ht⟩) hS.2.2 (show decode cJ0_charAt_5068e 15 = .ok (.ireturn, 1) by decide +kernel)
theorem j_J1_canEncode_9a6ad (l : Launch) (adK adV : Nat → Nat) (sz : Nat) {x : Int32} : Met l yJ1_canEncode_9a6ad (Jvm.Cond.code yJ1_canEncode_9a6ad cJ1_canEncode_9a6ad 1 (some .boolean) :: am_U) (jrm 0) (jPc adK adV sz [.int x]) (jQi (b01 (0 ≤ x ∧ x ≤ 255)) sz) 0 0 (jA sz) := by
  refine Met.ofW (cc := cJ1_canEncode_9a6ad) (maxL := 1) (ret := some .boolean) (by decide) rfl ?_
  intro p e s m args below meth c s₁ B hml hv
  obtain ⟨rfl, hsz, hJ⟩ := hv
  have hx := B.exec
  have hb := B.bytes
  have hr := B.returns
  have hts0 := atoms_spec (ws := Jvm.Cond.code yJ1_canEncode_9a6ad cJ1_canEncode_9a6ad 1 (some .boolean) :: am_U) B.pre
  have hts : ∀ w ∈ am_U, w.before (([.int x] : List Value).toArray) s = true := fun w hw => hts0 w (List.mem_cons_of_mem _ hw)
  have hown : s.vm.findClass RJ1 = some m.cls := findClass_of_methodNamed B.named
  have hlocks := B.notSynchronized
  subst hsz
  have hS : va_S (jA s.heap.size) s.heap s.heap [] := va_S.rf
  have hl := lv_entry ([.int x]) (n := 1) (Nat.le_of_ble_eq_true rfl)
  rw [lg_entry_eq]
  generalize (lg_sl ([.int x]) ++ List.replicate (1 - (lg_sl ([.int x])).length) Slot.unset).toArray = ls at hl ⊢
  have hl : lv_has ls 1 [(0, .int x)] := hl
  refine lv_iload_n hx hb (show decode cJ1_canEncode_9a6ad 0 = .ok (.iload_n 0, 1) by decide +kernel) rfl (lv_at hl 0 rfl) ?_
  refine lv_if_lt (tgt := 15) hx hb (show decode cJ1_canEncode_9a6ad 1 = .ok (.ifCond .lt 14, 3) by decide +kernel) rfl (fun h => ?_) (fun h => ?_)
  · have e0 : b01 (0 ≤ x ∧ x ≤ 255) = 0 := if_neg (fun z => absurd h (Int32.not_lt.mpr z.1))
    refine lv_iconst (v := 0) hx hb (show decode cJ1_canEncode_9a6ad 15 = .ok (.iconst 0, 1) by decide +kernel) (by decide) ?_
    exact W.zret (v := 0) hx hb hr (rfl) (fun t ht hW => ⟨⟨0, (), rfl, e0.symm, trivial⟩, hS.F ht⟩) hS.2.2 (show decode cJ1_canEncode_9a6ad 16 = .ok (.ireturn, 1) by decide +kernel)
  · refine lv_iload_n hx hb (show decode cJ1_canEncode_9a6ad 4 = .ok (.iload_n 0, 1) by decide +kernel) rfl (lv_at hl 0 rfl) ?_
    refine lv_sipush (v := 255) hx hb (show decode cJ1_canEncode_9a6ad 5 = .ok (.sipush 255, 3) by decide +kernel) (by decide) ?_
    refine lv_icmp_gt (tgt := 15) hx hb (show decode cJ1_canEncode_9a6ad 8 = .ok (.if_icmp .gt 7, 3) by decide +kernel) rfl (fun h2 => ?_) (fun h2 => ?_)
    · have e0 : b01 (0 ≤ x ∧ x ≤ 255) = 0 := if_neg (fun z => absurd h2 (Int32.not_lt.mpr z.2))
      refine lv_iconst (v := 0) hx hb (show decode cJ1_canEncode_9a6ad 15 = .ok (.iconst 0, 1) by decide +kernel) (by decide) ?_
      exact W.zret (v := 0) hx hb hr (rfl) (fun t ht hW => ⟨⟨0, (), rfl, e0.symm, trivial⟩, hS.F ht⟩) hS.2.2 (show decode cJ1_canEncode_9a6ad 16 = .ok (.ireturn, 1) by decide +kernel)
    · have e0 : b01 (0 ≤ x ∧ x ≤ 255) = 1 := if_pos ⟨Int32.not_lt.mp h, Int32.not_lt.mp h2⟩
      refine lv_iconst (v := 1) hx hb (show decode cJ1_canEncode_9a6ad 11 = .ok (.iconst 1, 1) by decide +kernel) (by decide) ?_
      refine lv_goto (tgt := 16) hx hb (show decode cJ1_canEncode_9a6ad 12 = .ok (.goto 4, 3) by decide +kernel) rfl ?_
      exact W.zret (v := 1) hx hb hr (rfl) (fun t ht hW => ⟨⟨1, (), rfl, e0.symm, trivial⟩, hS.F ht⟩) hS.2.2 (show decode cJ1_canEncode_9a6ad 16 = .ok (.ireturn, 1) by decide +kernel)
theorem j_i2b : ∀ x : Fin 256, ∀ c : Fin 128, (nI x.val).toInt8.toInt32 = nI c.val ↔ x.val = c.val := by decide +kernel
theorem j_ib {x c : Nat} (hx : x < 256) (hc : c < 128) : nI c = (nI x).toInt8.toInt32 ↔ nI x = nI c := by
  have h := j_i2b ⟨x, hx⟩ ⟨c, hc⟩
  constructor
  · intro z
    exact congrArg nI (h.mp z.symm)
  · intro z
    have e : x = c := nI_inj (by omega) (by omega) z
    subst e
    exact (h.mpr rfl).symm
theorem j_ixo (x : Int32) (l : List Nat) : ∀ k, k < l.length → am_ixo (l.drop k) x k = if x = nI (l.getD k 0) then nI k else am_ixo (l.drop (k + 1)) x (k + 1) := fun k hk => by
  rw [List.drop_eq_getElem_cons hk]
  show (if x = nI l[k] then nI k else am_ixo (l.drop (k + 1)) x (k + 1)) = _
  rw [List.getD_eq_getElem?_getD, List.getElem?_eq_getElem hk]
  rfl
theorem j_J1_indexOfChar_4cfef (l : Launch) (adK adV : Nat → Nat) (sz : Nat) {i x : Nat} (hi : i < 10) (hx256 : x < 256) : Met l yJ1_indexOfChar_4cfef (Jvm.Cond.code yJ1_indexOfChar_4cfef cJ1_indexOfChar_4cfef 6 (some .int) :: am_U) (jrm 0) (jPc adK adV sz [.ref (adV i), .int (nI x), .int 0, .int (nI (am_str i).length)]) (jQi (am_ixo (am_str i) (nI x) 0) sz) 0 0 (jA sz) := by
  refine Met.ofW (cc := cJ1_indexOfChar_4cfef) (maxL := 6) (ret := some .int) (by decide) rfl ?_
  intro p e s m args below meth c s₁ B hml hv
  obtain ⟨rfl, hsz, hJ⟩ := hv
  have hx := B.exec
  have hb := B.bytes
  have hr := B.returns
  have hts0 := atoms_spec (ws := Jvm.Cond.code yJ1_indexOfChar_4cfef cJ1_indexOfChar_4cfef 6 (some .int) :: am_U) B.pre
  have hts : ∀ w ∈ am_U, w.before (([.ref (adV i), .int (nI x), .int 0, .int (nI (am_str i).length)] : List Value).toArray) s = true := fun w hw => hts0 w (List.mem_cons_of_mem _ hw)
  have hown : s.vm.findClass RJ1 = some m.cls := findClass_of_methodNamed B.named
  have hlocks := B.notSynchronized
  subst hsz
  have hS : va_S (jA s.heap.size) s.heap s.heap [] := va_S.rf
  have hl := lv_entry ([.ref (adV i), .int (nI x), .int 0, .int (nI (am_str i).length)]) (n := 6) (Nat.le_of_ble_eq_true rfl)
  rw [lg_entry_eq]
  generalize (lg_sl ([.ref (adV i), .int (nI x), .int 0, .int (nI (am_str i).length)]) ++ List.replicate (6 - (lg_sl ([.ref (adV i), .int (nI x), .int 0, .int (nI (am_str i).length)])).length) Slot.unset).toArray = ls at hl ⊢
  have hl : lv_has ls 6 [(0, .ref (adV i)), (1, .int (nI x)), (2, .int 0), (3, .int (nI (am_str i).length))] := hl
  have hT := j_T hJ hi
  have k6 := (j_ch hi).2
  refine lv_iload_n hx hb (show decode cJ1_indexOfChar_4cfef 0 = .ok (.iload_n 1, 1) by decide +kernel) rfl (lv_at hl 1 rfl) ?_
  refine lv_i2b (v := (nI x).toInt8.toInt32) hx hb (show decode cJ1_indexOfChar_4cfef 1 = .ok (.i2b, 1) by decide +kernel) rfl ?_
  refine lv_istore (lv' := [(4, .int ((nI x).toInt8.toInt32)), (0, .ref (adV i)), (1, .int (nI x)), (2, .int 0), (3, .int (nI (am_str i).length))]) hx hb (show decode cJ1_indexOfChar_4cfef 2 = .ok (.istore 4, 2) by decide +kernel) hl (by decide) rfl (fun ls hl => ?_)
  refine lv_iload_n hx hb (show decode cJ1_indexOfChar_4cfef 4 = .ok (.iload_n 2, 1) by decide +kernel) rfl (lv_at hl 3 rfl) ?_
  refine lv_istore (lv' := [(5, .int 0), (4, .int ((nI x).toInt8.toInt32)), (0, .ref (adV i)), (1, .int (nI x)), (2, .int 0), (3, .int (nI (am_str i).length))]) hx hb (show decode cJ1_indexOfChar_4cfef 5 = .ok (.istore 5, 2) by decide +kernel) hl (by decide) rfl (fun ls hl => ?_)
  have key : ∀ n k, k + n = (am_str i).length → ∀ ls : Array Slot, lv_has ls 6 [(5, .int (nI k)), (4, .int ((nI x).toInt8.toInt32)), (0, .ref (adV i)), (1, .int (nI x)), (2, .int 0), (3, .int (nI (am_str i).length))] → am_ixo ((am_str i).drop k) (nI x) k = am_ixo (am_str i) (nI x) 0 → W p l e (headSpec (Jvm.Cond.code yJ1_indexOfChar_4cfef cJ1_indexOfChar_4cfef 6 (some .int) :: am_U) (jrm 0)).room s m ([.ref (adV i), .int (nI x), .int 0, .int (nI (am_str i).length)] : List Value).toArray below meth c s.heap [] 0 0 (MQ below (jQi (am_ixo (am_str i) (nI x) 0) s.heap.size) ([.ref (adV i), .int (nI x), .int 0, .int (nI (am_str i).length)] : List Value).toArray s 0 0 (jA s.heap.size)) (F0 m 7 ls []) := by
    intro n
    induction n with
    | zero =>
      intro k hk ls hl he
      obtain rfl : k = (am_str i).length := by omega
      refine lv_iload hx hb (show decode cJ1_indexOfChar_4cfef 7 = .ok (.iload 5, 2) by decide +kernel) (lv_at hl 0 rfl) ?_
      refine lv_iload_n hx hb (show decode cJ1_indexOfChar_4cfef 9 = .ok (.iload_n 3, 1) by decide +kernel) rfl (lv_at hl 5 rfl) ?_
      refine lv_icmp_ge (tgt := 31) hx hb (show decode cJ1_indexOfChar_4cfef 10 = .ok (.if_icmp .ge 21, 3) by decide +kernel) rfl (fun _ => ?_) (fun h => absurd (Int32.le_refl _) h)
      rw [List.drop_length] at he
      refine lv_iconst (v := -1) hx hb (show decode cJ1_indexOfChar_4cfef 31 = .ok (.iconst (-1), 1) by decide +kernel) (by decide) ?_
      exact W.iret (v := -1) hx hb hr (fun t ht hW => ⟨⟨-1, (), rfl, he, trivial⟩, hS.F ht⟩) hS.2.2 (show decode cJ1_indexOfChar_4cfef 32 = .ok (.ireturn, 1) by decide +kernel)
    | succ n ih =>
      intro k hk ls hl he
      have hk2 : k < (am_str i).length := by omega
      have hc := j_chk hi hk2
      rw [j_ixo _ _ k hk2] at he
      refine lv_iload hx hb (show decode cJ1_indexOfChar_4cfef 7 = .ok (.iload 5, 2) by decide +kernel) (lv_at hl 0 rfl) ?_
      refine lv_iload_n hx hb (show decode cJ1_indexOfChar_4cfef 9 = .ok (.iload_n 3, 1) by decide +kernel) rfl (lv_at hl 5 rfl) ?_
      refine lv_icmp_ge (tgt := 31) hx hb (show decode cJ1_indexOfChar_4cfef 10 = .ok (.if_icmp .ge 21, 3) by decide +kernel) rfl (fun h => absurd h (Int32.not_le.mpr (nI_lt hk2 (by omega)))) (fun _ => ?_)
      refine lv_aload_n hx hb (show decode cJ1_indexOfChar_4cfef 13 = .ok (.aload_n 0, 1) by decide +kernel) rfl (lv_at hl 2 rfl) ?_
      refine lv_iload hx hb (show decode cJ1_indexOfChar_4cfef 14 = .ok (.iload 5, 2) by decide +kernel) (lv_at hl 0 rfl) ?_
      refine va_tb hx hb hT hS (vp_in_nI hk2 (by omega)) (v := .int (nI ((am_str i).getD k 0))) (by rw [nI_clamp (by omega)]; exact congrArg Value.int (j_get hk2)) (show decode cJ1_indexOfChar_4cfef 16 = .ok (.baload, 1) by decide +kernel) ?_
      refine lv_iload hx hb (show decode cJ1_indexOfChar_4cfef 17 = .ok (.iload 4, 2) by decide +kernel) (lv_at hl 1 rfl) ?_
      refine lv_icmp_ne (tgt := 25) hx hb (show decode cJ1_indexOfChar_4cfef 19 = .ok (.if_icmp .ne 6, 3) by decide +kernel) rfl (fun h => ?_) (fun h => ?_)
      · rw [if_neg (fun z => h ((j_ib hx256 hc.2).mpr z))] at he
        refine lv_iinc (k := 0) (v := nI (k + 1)) (lv' := [(5, .int (nI (k + 1))), (4, .int ((nI x).toInt8.toInt32)), (0, .ref (adV i)), (1, .int (nI x)), (2, .int 0), (3, .int (nI (am_str i).length))]) hx hb (show decode cJ1_indexOfChar_4cfef 25 = .ok (.iinc 5 1, 3) by decide +kernel) hl rfl (nI_succ k).symm (by decide) rfl (fun ls hl => ?_)
        refine lv_goto (tgt := 7) hx hb (show decode cJ1_indexOfChar_4cfef 28 = .ok (.goto (-21), 3) by decide +kernel) rfl ?_
        exact ih (k + 1) (by omega) ls hl he
      · rw [if_pos ((j_ib hx256 hc.2).mp h)] at he
        refine lv_iload hx hb (show decode cJ1_indexOfChar_4cfef 22 = .ok (.iload 5, 2) by decide +kernel) (lv_at hl 0 rfl) ?_
        exact W.iret (v := nI k) hx hb hr (fun t ht hW => ⟨⟨nI k, (), rfl, he, trivial⟩, hS.F ht⟩) hS.2.2 (show decode cJ1_indexOfChar_4cfef 24 = .ok (.ireturn, 1) by decide +kernel)
  exact key (am_str i).length 0 (by omega) ls hl rfl
theorem j_out {x : Int32} : ∀ {l : List Nat} (_ : ∀ c, c ∈ l → ¬ x = nI c) (k : Nat), am_ixo l x k = -1
  | [], _, _ => rfl
  | c :: t, h, k => by
    show (if x = nI c then nI k else am_ixo t x (k + 1)) = -1
    rw [if_neg (h c List.mem_cons_self)]
    exact j_out (fun d hd => h d (List.mem_cons_of_mem _ hd)) (k + 1)
theorem j_J1_indexOf_4cfef (l : Launch) (adK adV : Nat → Nat) (sz : Nat) {i x : Nat} (hi : i < 10) (hx65 : x < 65536) : Met l yJ1_indexOf_4cfef (Jvm.Cond.code yJ1_indexOf_4cfef cJ1_indexOf_4cfef 4 (some .int) :: am_U) (jrm 1) (jPc adK adV sz [.ref (adV i), .int (nI x), .int 0, .int (nI (am_str i).length)]) (jQi (am_ixo (am_str i) (nI x) 0) sz) 0 0 (jA sz) := by
  refine Met.ofW (cc := cJ1_indexOf_4cfef) (maxL := 4) (ret := some .int) (by decide) rfl ?_
  intro p e s m args below meth c s₁ B hml hv
  obtain ⟨rfl, hsz, hJ⟩ := hv
  have hx := B.exec
  have hb := B.bytes
  have hr := B.returns
  have hts0 := atoms_spec (ws := Jvm.Cond.code yJ1_indexOf_4cfef cJ1_indexOf_4cfef 4 (some .int) :: am_U) B.pre
  have hts : ∀ w ∈ am_U, w.before (([.ref (adV i), .int (nI x), .int 0, .int (nI (am_str i).length)] : List Value).toArray) s = true := fun w hw => hts0 w (List.mem_cons_of_mem _ hw)
  have hown : s.vm.findClass RJ1 = some m.cls := findClass_of_methodNamed B.named
  have hlocks := B.notSynchronized
  subst hsz
  have hS : va_S (jA s.heap.size) s.heap s.heap [] := va_S.rf
  have hl := lv_entry ([.ref (adV i), .int (nI x), .int 0, .int (nI (am_str i).length)]) (n := 4) (Nat.le_of_ble_eq_true rfl)
  rw [lg_entry_eq]
  generalize (lg_sl ([.ref (adV i), .int (nI x), .int 0, .int (nI (am_str i).length)]) ++ List.replicate (4 - (lg_sl ([.ref (adV i), .int (nI x), .int 0, .int (nI (am_str i).length)])).length) Slot.unset).toArray = ls at hl ⊢
  have hl : lv_has ls 4 [(0, .ref (adV i)), (1, .int (nI x)), (2, .int 0), (3, .int (nI (am_str i).length))] := hl
  have hT := j_T hJ hi
  have k6 := (j_ch hi).2
  refine lv_iload_n hx hb (show decode cJ1_indexOf_4cfef 0 = .ok (.iload_n 1, 1) by decide +kernel) rfl (lv_at hl 1 rfl) ?_
  refine va_calli (va_runS (As := [.int (nI x)]) (rest := []) ⟨hx, hb, hml, hown, hts⟩ (j_J1_canEncode_9a6ad l adK adV s.heap.size) (va_cwS 1 hts (j_goodS (am_at_U (pos := 546) (w := .methodLink RJ1 88 yJ1_canEncode_9a6ad) (by decide +kernel) rfl) (am_at_U (pos := 547) (w := .static yJ1_canEncode_9a6ad) (by decide +kernel) rfl) (am_at_U (pos := 90) (w := .initialized RJ1) (by decide +kernel) rfl) (am_at_U (pos := 548) (w := .code yJ1_canEncode_9a6ad cJ1_canEncode_9a6ad 1 (some .boolean)) (by decide +kernel) rfl)) rfl rfl rfl (by decide +kernel) ⟨Nat.le_of_ble_eq_true rfl, Nat.le_of_ble_eq_true rfl⟩) ⟨jBlind, jS_call hJ hS⟩ rfl rfl hl.1 rfl (lv_room (Nat.le_of_ble_eq_true rfl)) (show decode cJ1_indexOf_4cfef 1 = .ok (.invokestatic 88, 3) by decide +kernel) ⟨Nat.zero_le _, Nat.zero_le _⟩) hS (fun q h1 h2 => absurd h1 (Nat.not_lt.mpr h2)) (fun q h1 => Nat.le_trans hS.1 h1) (fun r u t H1 locs1 ht9 hvm9 hp9 hB9 hz9 hk9 hS => ?_)
  subst hp9
  refine lv_if_ne (tgt := 9) hx hb (show decode cJ1_indexOf_4cfef 4 = .ok (.ifCond .ne 5, 3) by decide +kernel) rfl (fun h => ?_) (fun h => ?_)
  · have h256 : x < 256 := by
      by_cases z : x < 256
      · exact z
      · exact absurd (if_neg (fun y => absurd y.2 (Int32.not_le.mpr (nI_lt (a := 255) (b := x) (by omega) (by omega))))) h
    refine lv_iload_n hx hb (show decode cJ1_indexOf_4cfef 9 = .ok (.iload_n 2, 1) by decide +kernel) rfl (lv_at hl 2 rfl) ?_
    refine lv_iconst (v := 0) hx hb (show decode cJ1_indexOf_4cfef 10 = .ok (.iconst 0, 1) by decide +kernel) (by decide) ?_
    refine va_mmax (rest := []) hx hb (hml.trans hl.1.symm) hown (hts _ (am_at_U (pos := 549) (w := .methodLink RJ1 92 Lib.Math.max.name) (by decide +kernel) rfl)) (hts _ am_w_maxs) (hts _ am_w_mi) (hts _ am_w_maxc) (Nat.le_of_ble_eq_true rfl) (Nat.le_of_ble_eq_true rfl) (Nat.zero_le _) (Nat.zero_le _) (show decode cJ1_indexOf_4cfef 11 = .ok (.invokestatic 92, 3) by decide +kernel) ?_
    rw [if_neg (show ¬ (0 : Int32) < 0 by decide)]
    refine lv_istore_n (lv' := [(2, .int 0), (0, .ref (adV i)), (1, .int (nI x)), (3, .int (nI (am_str i).length))]) hx hb (show decode cJ1_indexOf_4cfef 14 = .ok (.istore_n 2, 1) by decide +kernel) rfl hl (by decide) rfl (fun ls hl => ?_)
    refine lv_iload_n hx hb (show decode cJ1_indexOf_4cfef 15 = .ok (.iload_n 3, 1) by decide +kernel) rfl (lv_at hl 3 rfl) ?_
    refine lv_aload_n hx hb (show decode cJ1_indexOf_4cfef 16 = .ok (.aload_n 0, 1) by decide +kernel) rfl (lv_at hl 1 rfl) ?_
    refine va_tlen hx hb hT hS (v := nI (am_str i).length) rfl (show decode cJ1_indexOf_4cfef 17 = .ok (.arraylength, 1) by decide +kernel) ?_
    refine va_mmin (rest := []) hx hb (hml.trans hl.1.symm) hown (hts _ (am_at_U (pos := 552) (w := .methodLink RJ1 38 Lib.Math.min.name) (by decide +kernel) rfl)) (hts _ am_w_mins) (hts _ am_w_mi) (hts _ am_w_minc) (Nat.le_of_ble_eq_true rfl) (Nat.le_of_ble_eq_true rfl) (Nat.zero_le _) (Nat.zero_le _) (show decode cJ1_indexOf_4cfef 18 = .ok (.invokestatic 38, 3) by decide +kernel) ?_
    rw [ite_self]
    refine lv_istore_n (lv' := [(3, .int (nI (am_str i).length)), (2, .int 0), (0, .ref (adV i)), (1, .int (nI x))]) hx hb (show decode cJ1_indexOf_4cfef 21 = .ok (.istore_n 3, 1) by decide +kernel) rfl hl (by decide) rfl (fun ls hl => ?_)
    refine lv_iload_n hx hb (show decode cJ1_indexOf_4cfef 22 = .ok (.iload_n 2, 1) by decide +kernel) rfl (lv_at hl 1 rfl) ?_
    refine lv_iload_n hx hb (show decode cJ1_indexOf_4cfef 23 = .ok (.iload_n 3, 1) by decide +kernel) rfl (lv_at hl 0 rfl) ?_
    refine lv_icmp_lt (tgt := 29) hx hb (show decode cJ1_indexOf_4cfef 24 = .ok (.if_icmp .lt 5, 3) by decide +kernel) rfl (fun h2 => ?_) (fun h2 => ?_)
    · skip
      refine lv_aload_n hx hb (show decode cJ1_indexOf_4cfef 29 = .ok (.aload_n 0, 1) by decide +kernel) rfl (lv_at hl 2 rfl) ?_
      refine lv_iload_n hx hb (show decode cJ1_indexOf_4cfef 30 = .ok (.iload_n 1, 1) by decide +kernel) rfl (lv_at hl 3 rfl) ?_
      refine lv_iload_n hx hb (show decode cJ1_indexOf_4cfef 31 = .ok (.iload_n 2, 1) by decide +kernel) rfl (lv_at hl 1 rfl) ?_
      refine lv_iload_n hx hb (show decode cJ1_indexOf_4cfef 32 = .ok (.iload_n 3, 1) by decide +kernel) rfl (lv_at hl 0 rfl) ?_
      refine va_calli (va_runS (As := [.ref (adV i), .int (nI x), .int 0, .int (nI (am_str i).length)]) (rest := []) ⟨hx, hb, hml, hown, hts⟩ (j_J1_indexOfChar_4cfef l adK adV H1.size hi h256) (va_cwS 4 hts (j_goodS (am_at_U (pos := 553) (w := .methodLink RJ1 95 yJ1_indexOfChar_4cfef) (by decide +kernel) rfl) (am_at_U (pos := 554) (w := .static yJ1_indexOfChar_4cfef) (by decide +kernel) rfl) (am_at_U (pos := 90) (w := .initialized RJ1) (by decide +kernel) rfl) (am_at_U (pos := 555) (w := .code yJ1_indexOfChar_4cfef cJ1_indexOfChar_4cfef 6 (some .int)) (by decide +kernel) rfl)) rfl rfl rfl (by decide +kernel) ⟨Nat.le_of_ble_eq_true rfl, Nat.le_of_ble_eq_true rfl⟩) ⟨jBlind, jS_call hJ hS⟩ rfl rfl hl.1 rfl (lv_room (Nat.le_of_ble_eq_true rfl)) (show decode cJ1_indexOf_4cfef 33 = .ok (.invokestatic 95, 3) by decide +kernel) ⟨Nat.zero_le _, Nat.zero_le _⟩) hS (fun q h1 h2 => absurd h1 (Nat.not_lt.mpr h2)) (fun q h1 => Nat.le_trans hS.1 h1) (fun r u t H1 locs1 ht9 hvm9 hp9 hB9 hz9 hk9 hS => ?_)
      subst hp9
      exact W.iret (v := am_ixo (am_str i) (nI x) 0) hx hb hr (fun t ht hW => ⟨⟨am_ixo (am_str i) (nI x) 0, (), rfl, rfl, trivial⟩, hS.F ht⟩) hS.2.2 (show decode cJ1_indexOf_4cfef 36 = .ok (.ireturn, 1) by decide +kernel)
    · have e0 : am_str i = [] := by
          have : ¬ 0 < (am_str i).length := fun z => h2 (nI_lt (a := 0) z (by omega))
          exact List.length_eq_zero_iff.mp (by omega)
      refine lv_iconst (v := -1) hx hb (show decode cJ1_indexOf_4cfef 27 = .ok (.iconst (-1), 1) by decide +kernel) (by decide) ?_
      exact W.iret (v := -1) hx hb hr (fun t ht hW => ⟨⟨-1, (), rfl, (by rw [e0]; rfl), trivial⟩, hS.F ht⟩) hS.2.2 (show decode cJ1_indexOf_4cfef 28 = .ok (.ireturn, 1) by decide +kernel)
  · have e0 : am_ixo (am_str i) (nI x) 0 = -1 := by
      refine j_out (fun c hc z => ?_) 0
      have h128 := ((j_ch hi).1 c hc).2
      have e1 : x = c := nI_inj (by omega) (by omega) z
      have e2 : b01 (0 ≤ nI x ∧ nI x ≤ 255) = 1 := if_pos ⟨nI_pos' (by omega), nI_le (b := 255) (by omega) (by decide)⟩
      rw [e2] at h
      exact absurd h (by decide)
    refine lv_iconst (v := -1) hx hb (show decode cJ1_indexOf_4cfef 7 = .ok (.iconst (-1), 1) by decide +kernel) (by decide) ?_
    exact W.iret (v := -1) hx hb hr (fun t ht hW => ⟨⟨-1, (), rfl, e0.symm, trivial⟩, hS.F ht⟩) hS.2.2 (show decode cJ1_indexOf_4cfef 8 = .ok (.ireturn, 1) by decide +kernel)
theorem j_J0_indexOf_7cf53 (l : Launch) (adK adV : Nat → Nat) (sz : Nat) {i x : Nat} (hi : i < 10) (hx65 : x < 65536) : Met l yJ0_indexOf_7cf53 (Jvm.Cond.code yJ0_indexOf_7cf53 cJ0_indexOf_7cf53 3 (some .int) :: am_U) (jrm 2) (jPc adK adV sz [.ref (adK i), .int (nI x), .int 0]) (jQi (am_ixo (am_str i) (nI x) 0) sz) 0 0 (jA sz) := by
  refine Met.ofW (cc := cJ0_indexOf_7cf53) (maxL := 3) (ret := some .int) (by decide) rfl ?_
  intro p e s m args below meth c s₁ B hml hv
  obtain ⟨rfl, hsz, hJ⟩ := hv
  have hx := B.exec
  have hb := B.bytes
  have hr := B.returns
  have hts0 := atoms_spec (ws := Jvm.Cond.code yJ0_indexOf_7cf53 cJ0_indexOf_7cf53 3 (some .int) :: am_U) B.pre
  have hts : ∀ w ∈ am_U, w.before (([.ref (adK i), .int (nI x), .int 0] : List Value).toArray) s = true := fun w hw => hts0 w (List.mem_cons_of_mem _ hw)
  have hown : s.vm.findClass RJ0 = some m.cls := findClass_of_methodNamed B.named
  have hlocks := B.notSynchronized
  subst hsz
  have hS : va_S (jA s.heap.size) s.heap s.heap [] := va_S.rf
  have hl := lv_entry ([.ref (adK i), .int (nI x), .int 0]) (n := 3) (Nat.le_of_ble_eq_true rfl)
  rw [lg_entry_eq]
  generalize (lg_sl ([.ref (adK i), .int (nI x), .int 0]) ++ List.replicate (3 - (lg_sl ([.ref (adK i), .int (nI x), .int 0])).length) Slot.unset).toArray = ls at hl ⊢
  have hl : lv_has ls 3 [(0, .ref (adK i)), (1, .int (nI x)), (2, .int 0)] := hl
  refine lv_aload_n hx hb (show decode cJ0_indexOf_7cf53 0 = .ok (.aload_n 0, 1) by decide +kernel) rfl (lv_at hl 0 rfl) ?_
  refine va_calli (va_runV (As := []) (rest := []) (b := adK i) ⟨hx, hb, hml, hown, hts⟩ (j_J0_isLatin1_aae02 l adK adV s.heap.size hi) (cwV 0 hts (j_goodV (am_at_U (pos := 529) (w := .methodLink RJ0 492 yJ0_isLatin1_aae02) (by decide +kernel) rfl) (am_at_U (pos := 530) (w := .instanceMethod yJ0_isLatin1_aae02) (by decide +kernel) rfl) (am_at_U (pos := 531) (w := .selects RJ0 yJ0_isLatin1_aae02 yJ0_isLatin1_aae02) (by decide +kernel) rfl) (am_at_U (pos := 89) (w := .initialized RJ0) (by decide +kernel) rfl) (am_at_U (pos := 532) (w := .code yJ0_isLatin1_aae02 cJ0_isLatin1_aae02 1 (some .boolean)) (by decide +kernel) rfl)) rfl rfl rfl (by decide +kernel) ⟨Nat.le_of_ble_eq_true rfl, Nat.le_of_ble_eq_true rfl⟩) ⟨jBlind, vk_recv hJ.1 hi hS, jS_call hJ hS⟩ rfl rfl hl.1 rfl (lv_room (Nat.le_of_ble_eq_true rfl)) (show decode cJ0_indexOf_7cf53 1 = .ok (.invokevirtual 492, 3) by decide +kernel) ⟨Nat.zero_le _, Nat.zero_le _⟩) hS (fun q h1 h2 => absurd h1 (Nat.not_lt.mpr h2)) (fun q h1 => Nat.le_trans hS.1 h1) (fun r u t H1 locs1 ht9 hvm9 hp9 hB9 hz9 hk9 hS => ?_)
  subst hp9
  refine lv_if_eq (tgt := 23) hx hb (show decode cJ0_indexOf_7cf53 4 = .ok (.ifCond .eq 19, 3) by decide +kernel) rfl (fun h => absurd h (by decide)) (fun _ => ?_)
  refine lv_aload_n hx hb (show decode cJ0_indexOf_7cf53 7 = .ok (.aload_n 0, 1) by decide +kernel) rfl (lv_at hl 0 rfl) ?_
  refine vk_getf hx hb ((hJ.1.1 i hi).2.2.1) hS hown (hts _ (am_at_U (pos := 1845) (w := .fieldLink RJ0 9 "java/lang/String" "value" "[B") (by decide +kernel) rfl)) (fun _ h9 => h9) (show decode cJ0_indexOf_7cf53 8 = .ok (.getfield 9, 3) by decide +kernel) ?_
  refine lv_iload_n hx hb (show decode cJ0_indexOf_7cf53 11 = .ok (.iload_n 1, 1) by decide +kernel) rfl (lv_at hl 1 rfl) ?_
  refine lv_iload_n hx hb (show decode cJ0_indexOf_7cf53 12 = .ok (.iload_n 2, 1) by decide +kernel) rfl (lv_at hl 2 rfl) ?_
  refine lv_aload_n hx hb (show decode cJ0_indexOf_7cf53 13 = .ok (.aload_n 0, 1) by decide +kernel) rfl (lv_at hl 0 rfl) ?_
  refine va_calli (va_runV (As := []) (rest := [.int 0, .int (nI x), .ref (adV i)]) (b := adK i) ⟨hx, hb, hml, hown, hts⟩ (j_J0_length_8abf5 l adK adV H1.size hi) (cwV 0 hts (j_goodV (am_at_U (pos := 535) (w := .methodLink RJ0 505 yJ0_length_8abf5) (by decide +kernel) rfl) (am_at_U (pos := 536) (w := .instanceMethod yJ0_length_8abf5) (by decide +kernel) rfl) (am_at_U (pos := 537) (w := .selects RJ0 yJ0_length_8abf5 yJ0_length_8abf5) (by decide +kernel) rfl) (am_at_U (pos := 89) (w := .initialized RJ0) (by decide +kernel) rfl) (am_at_U (pos := 538) (w := .code yJ0_length_8abf5 cJ0_length_8abf5 1 (some .int)) (by decide +kernel) rfl)) rfl rfl rfl (by decide +kernel) ⟨Nat.le_of_ble_eq_true rfl, Nat.le_of_ble_eq_true rfl⟩) ⟨jBlind, vk_recv hJ.1 hi hS, jS_call hJ hS⟩ rfl rfl hl.1 rfl (lv_room (Nat.le_of_ble_eq_true rfl)) (show decode cJ0_indexOf_7cf53 14 = .ok (.invokevirtual 505, 3) by decide +kernel) ⟨Nat.zero_le _, Nat.zero_le _⟩) hS (fun q h1 h2 => absurd h1 (Nat.not_lt.mpr h2)) (fun q h1 => Nat.le_trans hS.1 h1) (fun r u t H1 locs1 ht9 hvm9 hp9 hB9 hz9 hk9 hS => ?_)
  subst hp9
  refine va_calli (va_runS (As := [.ref (adV i), .int (nI x), .int 0, .int (nI (am_str i).length)]) (rest := []) ⟨hx, hb, hml, hown, hts⟩ (j_J1_indexOf_4cfef l adK adV H1.size hi hx65) (va_cwS 4 hts (j_goodS (am_at_U (pos := 543) (w := .methodLink RJ0 637 yJ1_indexOf_4cfef) (by decide +kernel) rfl) (am_at_U (pos := 544) (w := .static yJ1_indexOf_4cfef) (by decide +kernel) rfl) (am_at_U (pos := 90) (w := .initialized RJ1) (by decide +kernel) rfl) (am_at_U (pos := 545) (w := .code yJ1_indexOf_4cfef cJ1_indexOf_4cfef 4 (some .int)) (by decide +kernel) rfl)) rfl rfl rfl (by decide +kernel) ⟨Nat.le_of_ble_eq_true rfl, Nat.le_of_ble_eq_true rfl⟩) ⟨jBlind, jS_call hJ hS⟩ rfl rfl hl.1 rfl (lv_room (Nat.le_of_ble_eq_true rfl)) (show decode cJ0_indexOf_7cf53 17 = .ok (.invokestatic 637, 3) by decide +kernel) ⟨Nat.zero_le _, Nat.zero_le _⟩) hS (fun q h1 h2 => absurd h1 (Nat.not_lt.mpr h2)) (fun q h1 => Nat.le_trans hS.1 h1) (fun r u t H1 locs1 ht9 hvm9 hp9 hB9 hz9 hk9 hS => ?_)
  subst hp9
  refine lv_goto (tgt := 36) hx hb (show decode cJ0_indexOf_7cf53 20 = .ok (.goto 16, 3) by decide +kernel) rfl ?_
  exact W.iret (v := am_ixo (am_str i) (nI x) 0) hx hb hr (fun t ht hW => ⟨⟨am_ixo (am_str i) (nI x) 0, (), rfl, rfl, trivial⟩, hS.F ht⟩) hS.2.2 (show decode cJ0_indexOf_7cf53 36 = .ok (.ireturn, 1) by decide +kernel)
theorem j_J0_indexOf_0f7a4 (l : Launch) (adK adV : Nat → Nat) (sz : Nat) {i x : Nat} (hi : i < 10) (hx65 : x < 65536) : Met l yJ0_indexOf_0f7a4 (Jvm.Cond.code yJ0_indexOf_0f7a4 cJ0_indexOf_0f7a4 2 (some .int) :: am_U) (jrm 3) (jPc adK adV sz [.ref (adK i), .int (nI x)]) (jQi (am_ixo (am_str i) (nI x) 0) sz) 0 0 (jA sz) := by
  refine Met.ofW (cc := cJ0_indexOf_0f7a4) (maxL := 2) (ret := some .int) (by decide) rfl ?_
  intro p e s m args below meth c s₁ B hml hv
  obtain ⟨rfl, hsz, hJ⟩ := hv
  have hx := B.exec
  have hb := B.bytes
  have hr := B.returns
  have hts0 := atoms_spec (ws := Jvm.Cond.code yJ0_indexOf_0f7a4 cJ0_indexOf_0f7a4 2 (some .int) :: am_U) B.pre
  have hts : ∀ w ∈ am_U, w.before (([.ref (adK i), .int (nI x)] : List Value).toArray) s = true := fun w hw => hts0 w (List.mem_cons_of_mem _ hw)
  have hown : s.vm.findClass RJ0 = some m.cls := findClass_of_methodNamed B.named
  have hlocks := B.notSynchronized
  subst hsz
  have hS : va_S (jA s.heap.size) s.heap s.heap [] := va_S.rf
  have hl := lv_entry ([.ref (adK i), .int (nI x)]) (n := 2) (Nat.le_of_ble_eq_true rfl)
  rw [lg_entry_eq]
  generalize (lg_sl ([.ref (adK i), .int (nI x)]) ++ List.replicate (2 - (lg_sl ([.ref (adK i), .int (nI x)])).length) Slot.unset).toArray = ls at hl ⊢
  have hl : lv_has ls 2 [(0, .ref (adK i)), (1, .int (nI x))] := hl
  refine lv_aload_n hx hb (show decode cJ0_indexOf_0f7a4 0 = .ok (.aload_n 0, 1) by decide +kernel) rfl (lv_at hl 0 rfl) ?_
  refine lv_iload_n hx hb (show decode cJ0_indexOf_0f7a4 1 = .ok (.iload_n 1, 1) by decide +kernel) rfl (lv_at hl 1 rfl) ?_
  refine lv_iconst (v := 0) hx hb (show decode cJ0_indexOf_0f7a4 2 = .ok (.iconst 0, 1) by decide +kernel) (by decide) ?_
  refine va_calli (va_runV (As := [.int (nI x), .int 0]) (rest := []) (b := adK i) ⟨hx, hb, hml, hown, hts⟩ (j_J0_indexOf_7cf53 l adK adV s.heap.size hi hx65) (cwV 2 hts (j_goodV (am_at_U (pos := 525) (w := .methodLink RJ0 633 yJ0_indexOf_7cf53) (by decide +kernel) rfl) (am_at_U (pos := 526) (w := .instanceMethod yJ0_indexOf_7cf53) (by decide +kernel) rfl) (am_at_U (pos := 527) (w := .selects RJ0 yJ0_indexOf_7cf53 yJ0_indexOf_7cf53) (by decide +kernel) rfl) (am_at_U (pos := 89) (w := .initialized RJ0) (by decide +kernel) rfl) (am_at_U (pos := 528) (w := .code yJ0_indexOf_7cf53 cJ0_indexOf_7cf53 3 (some .int)) (by decide +kernel) rfl)) rfl rfl rfl (by decide +kernel) ⟨Nat.le_of_ble_eq_true rfl, Nat.le_of_ble_eq_true rfl⟩) ⟨jBlind, vk_recv hJ.1 hi hS, jS_call hJ hS⟩ rfl rfl hl.1 rfl (lv_room (Nat.le_of_ble_eq_true rfl)) (show decode cJ0_indexOf_0f7a4 3 = .ok (.invokevirtual 633, 3) by decide +kernel) ⟨Nat.zero_le _, Nat.zero_le _⟩) hS (fun q h1 h2 => absurd h1 (Nat.not_lt.mpr h2)) (fun q h1 => Nat.le_trans hS.1 h1) (fun r u t H1 locs1 ht9 hvm9 hp9 hB9 hz9 hk9 hS => ?_)
  subst hp9
  exact W.iret (v := am_ixo (am_str i) (nI x) 0) hx hb hr (fun t ht hW => ⟨⟨am_ixo (am_str i) (nI x) 0, (), rfl, rfl, trivial⟩, hS.F ht⟩) hS.2.2 (show decode cJ0_indexOf_0f7a4 6 = .ok (.ireturn, 1) by decide +kernel)
